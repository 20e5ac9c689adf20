set_option maxRecDepth 20000 in
set_option maxHeartbeats 4000000 in
theorem k_LScanner_load {X : jX} {dd : Nat} {R : Nat → jC} {m : Nat} {tg ln : Int → Int} {F : Int → Int → Int} {me : Int} (hd : 1 ≤ dd) (hC : HC 0 m tg ln F) (o_me : own m me) (t_me : tg me = 11) (p_0 : F me (8 : Int) ≤ F me (7 : Int) + 1) : wk X dd 209 [rv me] (cV R m tg ln F) (fun o V_q => ∃ (F_q : Int → Int → Int), V_q = cV R m tg ln F_q ∧ o = .inl none ∧ HC 0 m tg ln F_q ∧ Fq 0 [(11, 12), (11, 13), (11, 14), (11, 15), (11, 16), (11, 17), (11, 18)] m tg F F_q ∧ (F me (8 : Int) + 2 * tz (F_q me (15 : Int)) ≤ F me (7 : Int) + 1) ∧ (F me (8 : Int) + 2 * lz (F_q me (14 : Int)) ≤ F me (7 : Int) + 1) ∧ True) := by
  obtain ⟨d, rfl⟩ : ∃ d, dd = d + 1 := ⟨dd - 1, by omega⟩
  refine wk_of (e := jm209) rfl (by rw [jS_r, jS_0]; exact Nat.le_of_ble_eq_true rfl) ?_
  rw [la_r, la_0]
  show wj X d jm209 (0, [(0, rv (me))], [], cV R m tg ln F) _
  have hM0 : Fq 0 [(11, 12), (11, 13), (11, 14), (11, 15), (11, 16), (11, 17), (11, 18)] m tg F F := Fq_r
  obtain ⟨L0, eL0⟩ : ∃ q : jL, q = [(0, rv (me))] := ⟨_, rfl⟩
  rw [← eL0]
  have g1 : jGet L0 0 = some (rv (me)) := eL0 ▸ (rfl : jGet [(0, rv (me))] 0 = some (rv (me)))
  clear eL0
  refine jx_ld (pc_q := 1) (l_q := L0) (st_q := [rv (me)]) rfl (jl_rvn g1) ?_
  refine jx_ld (pc_q := 2) (l_q := L0) (st_q := [rv (me), rv (me)]) rfl (jl_rvn g1) ?_
  refine cx_gi (pc_q := 5) (c := 10) (q := 8) (v := F (me) (8 : Int)) rfl rfl (by decide) (by decide) (Or.inl rfl) rfl o_me t_me rfl ?_
  have b2 : (-1 : Int) ≤ F (me) (8 : Int) ∧ F (me) (8 : Int) ≤ 1000002 := by have z := HC_i (c := 10) (q := 8) hC o_me t_me (by decide) rfl; rw [show F (me) ((8 : Nat) : Int) = F (me) (8 : Int) from rfl] at z; exact z
  refine jx_if_lt (pc_q := 8) (tg := 31) rfl rfl rfl (by omega) (by omega) (fun h3 => ?_) (fun h3 => ?_)
  · have _q := h3
    refine jx_ar (pc_q := 32) (st_q := [.int (i32 (1)), rv (me)]) rfl rfl rfl rfl ?_
    refine jx_go (tg := 36) rfl rfl ?_
    refine cx_pb (pc_q := 39) (c := 10) (q := 12) (qi := (12 : Int)) (z := 1) rfl rfl (by decide) (by decide) rfl rfl rfl (by decide) (by omega) rfl o_me t_me rfl ?_
    obtain ⟨F4, eF4⟩ : ∃ q, q = uF F (me) (12 : Int) (1) := ⟨_, rfl⟩
    rw [← eF4]
    have hC5 : HC 0 m tg ln F4 := by rw [eF4]; exact HC_fi (c := 10) (q := 12) hC t_me (by decide) rfl (by omega) (by omega) ⟨fun _ => ⟨fun w1 w2 => absurd w2 (by omega), fun w => absurd w (by decide)⟩, fun w => absurd w (by decide)⟩
    have hM6 : Fq 0 [(11, 12), (11, 13), (11, 14), (11, 15), (11, 16), (11, 17), (11, 18)] m tg F F4 := by rw [eF4]; exact Fq_p hM0 t_me (fun _ => rfl) rfl
    refine jx_ld (pc_q := 40) (l_q := L0) (st_q := [rv (me)]) rfl (jl_rvn g1) ?_
    refine cx_gi (pc_q := 43) (c := 10) (q := 12) (v := 1) rfl rfl (by decide) (by decide) (Or.inr rfl) rfl o_me t_me (show F4 (me) (12 : Int) = 1 from by rw [eF4]; exact uF_e) ?_
    refine jx_if_eq (pc_q := 46) (tg := 57) rfl rfl rfl (by decide) (by decide) (fun h7 => ?_) (fun h7 => ?_)
    · have _q := h7
      exact absurd h7 (by omega)
    · have _q := h7
      refine jx_ld (pc_q := 47) (l_q := L0) (st_q := [rv (me)]) rfl (jl_rvn g1) ?_
      refine jx_ar (pc_q := 48) (st_q := [.int (i32 (-1)), rv (me)]) rfl rfl rfl rfl ?_
      refine cx_pi (pc_q := 51) (c := 10) (q := 14) (qi := (14 : Int)) (z := -1) rfl rfl (by decide) (by decide) rfl rfl rfl (by decide) rfl o_me t_me rfl ?_
      obtain ⟨F8, eF8⟩ : ∃ q, q = uF F4 (me) (14 : Int) (-1) := ⟨_, rfl⟩
      rw [← eF8]
      have hC9 : HC 0 m tg ln F8 := by rw [eF8]; exact HC_fi (c := 10) (q := 14) hC5 t_me (by decide) rfl (by omega) (by omega) ⟨fun _ => ⟨fun w1 w2 => absurd w2 (by omega), fun w => absurd w (by decide)⟩, fun w => absurd w (by decide)⟩
      have hM10 : Fq 0 [(11, 12), (11, 13), (11, 14), (11, 15), (11, 16), (11, 17), (11, 18)] m tg F F8 := by rw [eF8]; exact Fq_p hM6 t_me (fun _ => rfl) rfl
      refine jx_ld (pc_q := 52) (l_q := L0) (st_q := [rv (me)]) rfl (jl_rvn g1) ?_
      refine jx_ar (pc_q := 53) (st_q := [.int (i32 (0)), rv (me)]) rfl rfl rfl rfl ?_
      refine cx_pi (pc_q := 56) (c := 10) (q := 15) (qi := (15 : Int)) (z := 0) rfl rfl (by decide) (by decide) rfl rfl rfl (by decide) rfl o_me t_me rfl ?_
      obtain ⟨F11, eF11⟩ : ∃ q, q = uF F8 (me) (15 : Int) (0) := ⟨_, rfl⟩
      rw [← eF11]
      have hC12 : HC 0 m tg ln F11 := by rw [eF11]; exact HC_fi (c := 10) (q := 15) hC9 t_me (by decide) rfl (by omega) (by omega) ⟨fun _ => ⟨fun w1 w2 => absurd w2 (by omega), fun w => absurd w (by decide)⟩, fun w => absurd w (by decide)⟩
      have hM13 : Fq 0 [(11, 12), (11, 13), (11, 14), (11, 15), (11, 16), (11, 17), (11, 18)] m tg F F11 := by rw [eF11]; exact Fq_p hM10 t_me (fun _ => rfl) rfl
      refine jx_rt (v := none) rfl rfl rfl rfl rfl rfl ?_
      have q14 : F11 (me) (15 : Int) = 0 := (show F11 (me) (15 : Int) = 0 from by rw [eF11]; exact uF_e)
      have q15 : tz (F11 (me) (15 : Int)) = tz (0) := by rw [q14]
      have q16 : tz (0) = 0 := rfl
      have q17 : F11 (me) (14 : Int) = -1 := ((show F11 (me) (14 : Int) = F8 (me) (14 : Int) from by rw [eF11]; exact uF_j (by decide)).trans (show F8 (me) (14 : Int) = -1 from by rw [eF8]; exact uF_e))
      have q18 : lz (F11 (me) (14 : Int)) = lz (-1) := by rw [q17]
      have q19 : lz (-1) = 0 := rfl
      exact ⟨F11, rfl, rfl, hC12, hM13, by omega, by omega, trivial⟩
  · have _q := h3
    refine jx_ld (pc_q := 9) (l_q := L0) (st_q := [rv (me), rv (me)]) rfl (jl_rvn g1) ?_
    refine cx_gi (pc_q := 12) (c := 10) (q := 8) (v := F (me) (8 : Int)) rfl rfl (by decide) (by decide) (Or.inl rfl) rfl o_me t_me rfl ?_
    refine jx_ld (pc_q := 13) (l_q := L0) (st_q := [rv (me), .int (i32 (F (me) (8 : Int))), rv (me)]) rfl (jl_rvn g1) ?_
    refine cx_gi (pc_q := 16) (c := 10) (q := 7) (v := F (me) (7 : Int)) rfl rfl (by decide) (by decide) (Or.inl rfl) rfl o_me t_me rfl ?_
    have b20 : (0 : Int) ≤ F (me) (7 : Int) ∧ F (me) (7 : Int) ≤ 1000000 := by have z := HC_i (c := 10) (q := 7) hC o_me t_me (by decide) rfl; rw [show F (me) ((7 : Nat) : Int) = F (me) (7 : Int) from rfl] at z; exact z
    refine jx_icmp_ge (pc_q := 19) (tg := 31) rfl rfl rfl (by omega) (by omega) (by omega) (by omega) (fun h21 => ?_) (fun h21 => ?_)
    · have _q := h21
      refine jx_ar (pc_q := 32) (st_q := [.int (i32 (1)), rv (me)]) rfl rfl rfl rfl ?_
      refine jx_go (tg := 36) rfl rfl ?_
      refine cx_pb (pc_q := 39) (c := 10) (q := 12) (qi := (12 : Int)) (z := 1) rfl rfl (by decide) (by decide) rfl rfl rfl (by decide) (by omega) rfl o_me t_me rfl ?_
      obtain ⟨F22, eF22⟩ : ∃ q, q = uF F (me) (12 : Int) (1) := ⟨_, rfl⟩
      rw [← eF22]
      have hC23 : HC 0 m tg ln F22 := by rw [eF22]; exact HC_fi (c := 10) (q := 12) hC t_me (by decide) rfl (by omega) (by omega) ⟨fun _ => ⟨fun w1 w2 => absurd w2 (by omega), fun w => absurd w (by decide)⟩, fun w => absurd w (by decide)⟩
      have hM24 : Fq 0 [(11, 12), (11, 13), (11, 14), (11, 15), (11, 16), (11, 17), (11, 18)] m tg F F22 := by rw [eF22]; exact Fq_p hM0 t_me (fun _ => rfl) rfl
      refine jx_ld (pc_q := 40) (l_q := L0) (st_q := [rv (me)]) rfl (jl_rvn g1) ?_
      refine cx_gi (pc_q := 43) (c := 10) (q := 12) (v := 1) rfl rfl (by decide) (by decide) (Or.inr rfl) rfl o_me t_me (show F22 (me) (12 : Int) = 1 from by rw [eF22]; exact uF_e) ?_
      refine jx_if_eq (pc_q := 46) (tg := 57) rfl rfl rfl (by decide) (by decide) (fun h25 => ?_) (fun h25 => ?_)
      · have _q := h25
        exact absurd h25 (by omega)
      · have _q := h25
        refine jx_ld (pc_q := 47) (l_q := L0) (st_q := [rv (me)]) rfl (jl_rvn g1) ?_
        refine jx_ar (pc_q := 48) (st_q := [.int (i32 (-1)), rv (me)]) rfl rfl rfl rfl ?_
        refine cx_pi (pc_q := 51) (c := 10) (q := 14) (qi := (14 : Int)) (z := -1) rfl rfl (by decide) (by decide) rfl rfl rfl (by decide) rfl o_me t_me rfl ?_
        obtain ⟨F26, eF26⟩ : ∃ q, q = uF F22 (me) (14 : Int) (-1) := ⟨_, rfl⟩
        rw [← eF26]
        have hC27 : HC 0 m tg ln F26 := by rw [eF26]; exact HC_fi (c := 10) (q := 14) hC23 t_me (by decide) rfl (by omega) (by omega) ⟨fun _ => ⟨fun w1 w2 => absurd w2 (by omega), fun w => absurd w (by decide)⟩, fun w => absurd w (by decide)⟩
        have hM28 : Fq 0 [(11, 12), (11, 13), (11, 14), (11, 15), (11, 16), (11, 17), (11, 18)] m tg F F26 := by rw [eF26]; exact Fq_p hM24 t_me (fun _ => rfl) rfl
        refine jx_ld (pc_q := 52) (l_q := L0) (st_q := [rv (me)]) rfl (jl_rvn g1) ?_
        refine jx_ar (pc_q := 53) (st_q := [.int (i32 (0)), rv (me)]) rfl rfl rfl rfl ?_
        refine cx_pi (pc_q := 56) (c := 10) (q := 15) (qi := (15 : Int)) (z := 0) rfl rfl (by decide) (by decide) rfl rfl rfl (by decide) rfl o_me t_me rfl ?_
        obtain ⟨F29, eF29⟩ : ∃ q, q = uF F26 (me) (15 : Int) (0) := ⟨_, rfl⟩
        rw [← eF29]
        have hC30 : HC 0 m tg ln F29 := by rw [eF29]; exact HC_fi (c := 10) (q := 15) hC27 t_me (by decide) rfl (by omega) (by omega) ⟨fun _ => ⟨fun w1 w2 => absurd w2 (by omega), fun w => absurd w (by decide)⟩, fun w => absurd w (by decide)⟩
        have hM31 : Fq 0 [(11, 12), (11, 13), (11, 14), (11, 15), (11, 16), (11, 17), (11, 18)] m tg F F29 := by rw [eF29]; exact Fq_p hM28 t_me (fun _ => rfl) rfl
        refine jx_rt (v := none) rfl rfl rfl rfl rfl rfl ?_
        have q32 : F29 (me) (15 : Int) = 0 := (show F29 (me) (15 : Int) = 0 from by rw [eF29]; exact uF_e)
        have q33 : tz (F29 (me) (15 : Int)) = tz (0) := by rw [q32]
        have q34 : tz (0) = 0 := rfl
        have q35 : F29 (me) (14 : Int) = -1 := ((show F29 (me) (14 : Int) = F26 (me) (14 : Int) from by rw [eF29]; exact uF_j (by decide)).trans (show F26 (me) (14 : Int) = -1 from by rw [eF26]; exact uF_e))
        have q36 : lz (F29 (me) (14 : Int)) = lz (-1) := by rw [q35]
        have q37 : lz (-1) = 0 := rfl
        exact ⟨F29, rfl, rfl, hC30, hM31, by omega, by omega, trivial⟩
    · have _q := h21
      refine jx_ld (pc_q := 20) (l_q := L0) (st_q := [rv (me), rv (me)]) rfl (jl_rvn g1) ?_
      refine cx_gi (pc_q := 23) (c := 10) (q := 8) (v := F (me) (8 : Int)) rfl rfl (by decide) (by decide) (Or.inl rfl) rfl o_me t_me rfl ?_
      refine jx_ld (pc_q := 24) (l_q := L0) (st_q := [rv (me), .int (i32 (F (me) (8 : Int))), rv (me)]) rfl (jl_rvn g1) ?_
      refine cx_gr (pc_q := 27) (c := 10) (q := 2) (v := F (me) (2 : Int)) rfl rfl (by decide) (by decide) rfl rfl o_me t_me rfl ?_
      have y38 : own m (F (me) (2 : Int)) ∧ tg (F (me) (2 : Int)) = 20 ∧ ((0 : Int) ≠ 0 → ln (F (me) (2 : Int)) = 0) := by have z := HC_n (c := 10) (q := 2) hC o_me t_me (own_z o_me) (by decide) rfl; rw [show F (me) ((2 : Nat) : Int) = F (me) (2 : Int) from rfl] at z; exact ⟨z.1, z.2.1, z.2.2.1⟩
      have b39 := HC_l hC y38.1 y38.2.1 (by decide)
      refine cx_len (pc_q := 28) rfl rfl y38.1 (by rw [y38.2.1]; decide) (by omega) ?_
      refine jx_icmp_lt (pc_q := 31) (tg := 35) rfl rfl rfl (by omega) (by omega) (by omega) (by omega) (fun h40 => ?_) (fun h40 => ?_)
      · have _q := h40
        refine jx_ar (pc_q := 36) (st_q := [.int (i32 (0)), rv (me)]) rfl rfl rfl rfl ?_
        refine cx_pb (pc_q := 39) (c := 10) (q := 12) (qi := (12 : Int)) (z := 0) rfl rfl (by decide) (by decide) rfl rfl rfl (by decide) (by omega) rfl o_me t_me rfl ?_
        obtain ⟨F41, eF41⟩ : ∃ q, q = uF F (me) (12 : Int) (0) := ⟨_, rfl⟩
        rw [← eF41]
        have hC42 : HC 0 m tg ln F41 := by rw [eF41]; exact HC_fi (c := 10) (q := 12) hC t_me (by decide) rfl (by omega) (by omega) ⟨fun _ => ⟨fun w1 w2 => absurd w2 (by omega), fun w => absurd w (by decide)⟩, fun w => absurd w (by decide)⟩
        have hM43 : Fq 0 [(11, 12), (11, 13), (11, 14), (11, 15), (11, 16), (11, 17), (11, 18)] m tg F F41 := by rw [eF41]; exact Fq_p hM0 t_me (fun _ => rfl) rfl
        refine jx_ld (pc_q := 40) (l_q := L0) (st_q := [rv (me)]) rfl (jl_rvn g1) ?_
        refine cx_gi (pc_q := 43) (c := 10) (q := 12) (v := 0) rfl rfl (by decide) (by decide) (Or.inr rfl) rfl o_me t_me (show F41 (me) (12 : Int) = 0 from by rw [eF41]; exact uF_e) ?_
        refine jx_if_eq (pc_q := 46) (tg := 57) rfl rfl rfl (by decide) (by decide) (fun h44 => ?_) (fun h44 => ?_)
        · have _q := h44
          refine jx_ld (pc_q := 58) (l_q := L0) (st_q := [rv (me)]) rfl (jl_rvn g1) ?_
          refine jx_ld (pc_q := 59) (l_q := L0) (st_q := [rv (me), rv (me)]) rfl (jl_rvn g1) ?_
          refine cx_gr (pc_q := 62) (c := 10) (q := 2) (v := F (me) (2 : Int)) rfl rfl (by decide) (by decide) rfl rfl o_me t_me (show F41 (me) (2 : Int) = F (me) (2 : Int) from by rw [eF41]; exact uF_j (by decide)) ?_
          refine jx_ld (pc_q := 63) (l_q := L0) (st_q := [rv (me), rv (F (me) (2 : Int)), rv (me)]) rfl (jl_rvn g1) ?_
          refine cx_gi (pc_q := 66) (c := 10) (q := 8) (v := F (me) (8 : Int)) rfl rfl (by decide) (by decide) (Or.inl rfl) rfl o_me t_me (show F41 (me) (8 : Int) = F (me) (8 : Int) from by rw [eF41]; exact uF_j (by decide)) ?_
          refine cx_bal (pc_q := 67) (z := F (me) (8 : Int)) rfl rfl y38.1 (Or.inl y38.2.1) (by omega) (by omega) (by omega) ?_
          rw [show F41 (F (me) (2 : Int)) (F (me) (8 : Int)) = F (F (me) (2 : Int)) (F (me) (8 : Int)) from (show F41 (F (me) (2 : Int)) (F (me) (8 : Int)) = F (F (me) (2 : Int)) (F (me) (8 : Int)) from by rw [eF41]; exact uF_a (fun w => by have q1 := y38.2.1; have q2 := t_me; rw [w, q2] at q1; exact absurd q1 (by decide)))]
          have b45 : (-2147483648 : Int) ≤ F (F (me) (2 : Int)) (F (me) (8 : Int)) ∧ F (F (me) (2 : Int)) (F (me) (8 : Int)) ≤ 2147483647 := by have z := HC_ei (j := F (me) (8 : Int)) hC42 y38.1 (by rw [y38.2.1]; decide) (by omega); rw [show F41 (F (me) (2 : Int)) (F (me) (8 : Int)) = F (F (me) (2 : Int)) (F (me) (8 : Int)) from (show F41 (F (me) (2 : Int)) (F (me) (8 : Int)) = F (F (me) (2 : Int)) (F (me) (8 : Int)) from by rw [eF41]; exact uF_a (fun w => by have q1 := y38.2.1; have q2 := t_me; rw [w, q2] at q1; exact absurd q1 (by decide)))] at z; exact z
          refine cx_pi (pc_q := 70) (c := 10) (q := 15) (qi := (15 : Int)) (z := F (F (me) (2 : Int)) (F (me) (8 : Int))) rfl rfl (by decide) (by decide) rfl rfl rfl (by decide) rfl o_me t_me rfl ?_
          obtain ⟨F46, eF46⟩ : ∃ q, q = uF F41 (me) (15 : Int) (F (F (me) (2 : Int)) (F (me) (8 : Int))) := ⟨_, rfl⟩
          rw [← eF46]
          have hC47 : HC 0 m tg ln F46 := by rw [eF46]; exact HC_fi (c := 10) (q := 15) hC42 t_me (by decide) rfl (by omega) (by omega) ⟨fun _ => ⟨fun w1 w2 => absurd w2 (by omega), fun w => absurd w (by decide)⟩, fun w => absurd w (by decide)⟩
          have hM48 : Fq 0 [(11, 12), (11, 13), (11, 14), (11, 15), (11, 16), (11, 17), (11, 18)] m tg F F46 := by rw [eF46]; exact Fq_p hM43 t_me (fun _ => rfl) rfl
          refine jx_ld (pc_q := 71) (l_q := L0) (st_q := [rv (me)]) rfl (jl_rvn g1) ?_
          refine jx_ld (pc_q := 72) (l_q := L0) (st_q := [rv (me), rv (me)]) rfl (jl_rvn g1) ?_
          refine cx_gr (pc_q := 75) (c := 10) (q := 3) (v := F (me) (3 : Int)) rfl rfl (by decide) (by decide) rfl rfl o_me t_me ((show F46 (me) (3 : Int) = F41 (me) (3 : Int) from by rw [eF46]; exact uF_j (by decide)).trans (show F41 (me) (3 : Int) = F (me) (3 : Int) from by rw [eF41]; exact uF_j (by decide))) ?_
          have y49 : own m (F (me) (3 : Int)) ∧ tg (F (me) (3 : Int)) = 21 ∧ ((0 : Int) ≠ 0 → ln (F (me) (3 : Int)) = 0) := by have z := HC_n (c := 10) (q := 3) hC47 o_me t_me (own_z o_me) (by decide) rfl; rw [show F46 (me) ((3 : Nat) : Int) = F (me) (3 : Int) from ((show F46 (me) (3 : Int) = F41 (me) (3 : Int) from by rw [eF46]; exact uF_j (by decide)).trans (show F41 (me) (3 : Int) = F (me) (3 : Int) from by rw [eF41]; exact uF_j (by decide)))] at z; exact ⟨z.1, z.2.1, z.2.2.1⟩
          have x50 := (hC47.2.2.2.2.2 (me) o_me (own_z o_me)).1 t_me
          rw [show F46 (me) (2 : Int) = F (me) (2 : Int) from ((show F46 (me) (2 : Int) = F41 (me) (2 : Int) from by rw [eF46]; exact uF_j (by decide)).trans (show F41 (me) (2 : Int) = F (me) (2 : Int) from by rw [eF41]; exact uF_j (by decide)))] at x50
          rw [show F46 (me) (3 : Int) = F (me) (3 : Int) from ((show F46 (me) (3 : Int) = F41 (me) (3 : Int) from by rw [eF46]; exact uF_j (by decide)).trans (show F41 (me) (3 : Int) = F (me) (3 : Int) from by rw [eF41]; exact uF_j (by decide)))] at x50
          rw [show F46 (me) (4 : Int) = F (me) (4 : Int) from ((show F46 (me) (4 : Int) = F41 (me) (4 : Int) from by rw [eF46]; exact uF_j (by decide)).trans (show F41 (me) (4 : Int) = F (me) (4 : Int) from by rw [eF41]; exact uF_j (by decide)))] at x50
          rw [show F46 (me) (5 : Int) = F (me) (5 : Int) from ((show F46 (me) (5 : Int) = F41 (me) (5 : Int) from by rw [eF46]; exact uF_j (by decide)).trans (show F41 (me) (5 : Int) = F (me) (5 : Int) from by rw [eF41]; exact uF_j (by decide)))] at x50
          rw [show F46 (me) (6 : Int) = F (me) (6 : Int) from ((show F46 (me) (6 : Int) = F41 (me) (6 : Int) from by rw [eF46]; exact uF_j (by decide)).trans (show F41 (me) (6 : Int) = F (me) (6 : Int) from by rw [eF41]; exact uF_j (by decide)))] at x50
          rw [show F46 (me) (7 : Int) = F (me) (7 : Int) from ((show F46 (me) (7 : Int) = F41 (me) (7 : Int) from by rw [eF46]; exact uF_j (by decide)).trans (show F41 (me) (7 : Int) = F (me) (7 : Int) from by rw [eF41]; exact uF_j (by decide)))] at x50
          refine jx_ld (pc_q := 76) (l_q := L0) (st_q := [rv (me), rv (F (me) (3 : Int)), rv (me)]) rfl (jl_rvn g1) ?_
          refine cx_gi (pc_q := 79) (c := 10) (q := 8) (v := F (me) (8 : Int)) rfl rfl (by decide) (by decide) (Or.inl rfl) rfl o_me t_me ((show F46 (me) (8 : Int) = F41 (me) (8 : Int) from by rw [eF46]; exact uF_j (by decide)).trans (show F41 (me) (8 : Int) = F (me) (8 : Int) from by rw [eF41]; exact uF_j (by decide))) ?_
          have b51 := HC_l hC47 y49.1 y49.2.1 (by decide)
          refine cx_ial (pc_q := 80) (z := F (me) (8 : Int)) rfl rfl y49.1 y49.2.1 (by omega) (by omega) (by omega) ?_
          rw [show F46 (F (me) (3 : Int)) (F (me) (8 : Int)) = F (F (me) (3 : Int)) (F (me) (8 : Int)) from ((show F46 (F (me) (3 : Int)) (F (me) (8 : Int)) = F41 (F (me) (3 : Int)) (F (me) (8 : Int)) from by rw [eF46]; exact uF_a (fun w => by have q1 := y49.2.1; have q2 := t_me; rw [w, q2] at q1; exact absurd q1 (by decide))).trans (show F41 (F (me) (3 : Int)) (F (me) (8 : Int)) = F (F (me) (3 : Int)) (F (me) (8 : Int)) from by rw [eF41]; exact uF_a (fun w => by have q1 := y49.2.1; have q2 := t_me; rw [w, q2] at q1; exact absurd q1 (by decide))))]
          have b52 : (-2147483648 : Int) ≤ F (F (me) (3 : Int)) (F (me) (8 : Int)) ∧ F (F (me) (3 : Int)) (F (me) (8 : Int)) ≤ 2147483647 := by have z := HC_ei (j := F (me) (8 : Int)) hC47 y49.1 (by rw [y49.2.1]; decide) (by omega); rw [show F46 (F (me) (3 : Int)) (F (me) (8 : Int)) = F (F (me) (3 : Int)) (F (me) (8 : Int)) from ((show F46 (F (me) (3 : Int)) (F (me) (8 : Int)) = F41 (F (me) (3 : Int)) (F (me) (8 : Int)) from by rw [eF46]; exact uF_a (fun w => by have q1 := y49.2.1; have q2 := t_me; rw [w, q2] at q1; exact absurd q1 (by decide))).trans (show F41 (F (me) (3 : Int)) (F (me) (8 : Int)) = F (F (me) (3 : Int)) (F (me) (8 : Int)) from by rw [eF41]; exact uF_a (fun w => by have q1 := y49.2.1; have q2 := t_me; rw [w, q2] at q1; exact absurd q1 (by decide))))] at z; exact z
          refine cx_pi (pc_q := 83) (c := 10) (q := 16) (qi := (16 : Int)) (z := F (F (me) (3 : Int)) (F (me) (8 : Int))) rfl rfl (by decide) (by decide) rfl rfl rfl (by decide) rfl o_me t_me rfl ?_
          obtain ⟨F53, eF53⟩ : ∃ q, q = uF F46 (me) (16 : Int) (F (F (me) (3 : Int)) (F (me) (8 : Int))) := ⟨_, rfl⟩
          rw [← eF53]
          have hC54 : HC 0 m tg ln F53 := by rw [eF53]; exact HC_fi (c := 10) (q := 16) hC47 t_me (by decide) rfl (by omega) (by omega) ⟨fun _ => ⟨fun w1 w2 => absurd w2 (by omega), fun w => absurd w (by decide)⟩, fun w => absurd w (by decide)⟩
          have hM55 : Fq 0 [(11, 12), (11, 13), (11, 14), (11, 15), (11, 16), (11, 17), (11, 18)] m tg F F53 := by rw [eF53]; exact Fq_p hM48 t_me (fun _ => rfl) rfl
          refine jx_ld (pc_q := 84) (l_q := L0) (st_q := [rv (me)]) rfl (jl_rvn g1) ?_
          refine jx_ld (pc_q := 85) (l_q := L0) (st_q := [rv (me), rv (me)]) rfl (jl_rvn g1) ?_
          refine cx_gr (pc_q := 88) (c := 10) (q := 4) (v := F (me) (4 : Int)) rfl rfl (by decide) (by decide) rfl rfl o_me t_me ((show F53 (me) (4 : Int) = F46 (me) (4 : Int) from by rw [eF53]; exact uF_j (by decide)).trans ((show F46 (me) (4 : Int) = F41 (me) (4 : Int) from by rw [eF46]; exact uF_j (by decide)).trans (show F41 (me) (4 : Int) = F (me) (4 : Int) from by rw [eF41]; exact uF_j (by decide)))) ?_
          have y56 : own m (F (me) (4 : Int)) ∧ tg (F (me) (4 : Int)) = 22 ∧ ((0 : Int) ≠ 0 → ln (F (me) (4 : Int)) = 0) := by have z := HC_n (c := 10) (q := 4) hC54 o_me t_me (own_z o_me) (by decide) rfl; rw [show F53 (me) ((4 : Nat) : Int) = F (me) (4 : Int) from ((show F53 (me) (4 : Int) = F46 (me) (4 : Int) from by rw [eF53]; exact uF_j (by decide)).trans ((show F46 (me) (4 : Int) = F41 (me) (4 : Int) from by rw [eF46]; exact uF_j (by decide)).trans (show F41 (me) (4 : Int) = F (me) (4 : Int) from by rw [eF41]; exact uF_j (by decide))))] at z; exact ⟨z.1, z.2.1, z.2.2.1⟩
          have x57 := (hC54.2.2.2.2.2 (me) o_me (own_z o_me)).1 t_me
          rw [show F53 (me) (2 : Int) = F (me) (2 : Int) from ((show F53 (me) (2 : Int) = F46 (me) (2 : Int) from by rw [eF53]; exact uF_j (by decide)).trans ((show F46 (me) (2 : Int) = F41 (me) (2 : Int) from by rw [eF46]; exact uF_j (by decide)).trans (show F41 (me) (2 : Int) = F (me) (2 : Int) from by rw [eF41]; exact uF_j (by decide))))] at x57
          rw [show F53 (me) (3 : Int) = F (me) (3 : Int) from ((show F53 (me) (3 : Int) = F46 (me) (3 : Int) from by rw [eF53]; exact uF_j (by decide)).trans ((show F46 (me) (3 : Int) = F41 (me) (3 : Int) from by rw [eF46]; exact uF_j (by decide)).trans (show F41 (me) (3 : Int) = F (me) (3 : Int) from by rw [eF41]; exact uF_j (by decide))))] at x57
          rw [show F53 (me) (4 : Int) = F (me) (4 : Int) from ((show F53 (me) (4 : Int) = F46 (me) (4 : Int) from by rw [eF53]; exact uF_j (by decide)).trans ((show F46 (me) (4 : Int) = F41 (me) (4 : Int) from by rw [eF46]; exact uF_j (by decide)).trans (show F41 (me) (4 : Int) = F (me) (4 : Int) from by rw [eF41]; exact uF_j (by decide))))] at x57
          rw [show F53 (me) (5 : Int) = F (me) (5 : Int) from ((show F53 (me) (5 : Int) = F46 (me) (5 : Int) from by rw [eF53]; exact uF_j (by decide)).trans ((show F46 (me) (5 : Int) = F41 (me) (5 : Int) from by rw [eF46]; exact uF_j (by decide)).trans (show F41 (me) (5 : Int) = F (me) (5 : Int) from by rw [eF41]; exact uF_j (by decide))))] at x57
          rw [show F53 (me) (6 : Int) = F (me) (6 : Int) from ((show F53 (me) (6 : Int) = F46 (me) (6 : Int) from by rw [eF53]; exact uF_j (by decide)).trans ((show F46 (me) (6 : Int) = F41 (me) (6 : Int) from by rw [eF46]; exact uF_j (by decide)).trans (show F41 (me) (6 : Int) = F (me) (6 : Int) from by rw [eF41]; exact uF_j (by decide))))] at x57
          rw [show F53 (me) (7 : Int) = F (me) (7 : Int) from ((show F53 (me) (7 : Int) = F46 (me) (7 : Int) from by rw [eF53]; exact uF_j (by decide)).trans ((show F46 (me) (7 : Int) = F41 (me) (7 : Int) from by rw [eF46]; exact uF_j (by decide)).trans (show F41 (me) (7 : Int) = F (me) (7 : Int) from by rw [eF41]; exact uF_j (by decide))))] at x57
          refine jx_ld (pc_q := 89) (l_q := L0) (st_q := [rv (me), rv (F (me) (4 : Int)), rv (me)]) rfl (jl_rvn g1) ?_
          refine cx_gi (pc_q := 92) (c := 10) (q := 8) (v := F (me) (8 : Int)) rfl rfl (by decide) (by decide) (Or.inl rfl) rfl o_me t_me ((show F53 (me) (8 : Int) = F46 (me) (8 : Int) from by rw [eF53]; exact uF_j (by decide)).trans ((show F46 (me) (8 : Int) = F41 (me) (8 : Int) from by rw [eF46]; exact uF_j (by decide)).trans (show F41 (me) (8 : Int) = F (me) (8 : Int) from by rw [eF41]; exact uF_j (by decide)))) ?_
          have b58 := HC_l hC54 y56.1 y56.2.1 (by decide)
          refine cx_lal (pc_q := 93) rfl rfl y56.1 y56.2.1 (by omega) (by omega) (by omega) ?_
          obtain ⟨y59, ey59⟩ : ∃ q : Int64, q = i64 (F53 (F (me) (4 : Int)) (F (me) (8 : Int))) := ⟨_, rfl⟩
          rw [← ey59]
          clear ey59
          refine jx_l2i (pc_q := 94) rfl rfl (fun r60 hr60 => ?_)
          refine cx_pi (pc_q := 97) (c := 10) (q := 17) (qi := (17 : Int)) (z := r60) rfl rfl (by decide) (by decide) rfl rfl rfl (by decide) rfl o_me t_me rfl ?_
          obtain ⟨F61, eF61⟩ : ∃ q, q = uF F53 (me) (17 : Int) (r60) := ⟨_, rfl⟩
          rw [← eF61]
          have hC62 : HC 0 m tg ln F61 := by rw [eF61]; exact HC_fi (c := 10) (q := 17) hC54 t_me (by decide) rfl (by omega) (by omega) ⟨fun _ => ⟨fun w1 w2 => absurd w2 (by omega), fun w => absurd w (by decide)⟩, fun w => absurd w (by decide)⟩
          have hM63 : Fq 0 [(11, 12), (11, 13), (11, 14), (11, 15), (11, 16), (11, 17), (11, 18)] m tg F F61 := by rw [eF61]; exact Fq_p hM55 t_me (fun _ => rfl) rfl
          refine jx_ld (pc_q := 98) (l_q := L0) (st_q := [rv (me)]) rfl (jl_rvn g1) ?_
          refine jx_ld (pc_q := 99) (l_q := L0) (st_q := [rv (me), rv (me)]) rfl (jl_rvn g1) ?_
          refine cx_gr (pc_q := 102) (c := 10) (q := 4) (v := F (me) (4 : Int)) rfl rfl (by decide) (by decide) rfl rfl o_me t_me ((show F61 (me) (4 : Int) = F53 (me) (4 : Int) from by rw [eF61]; exact uF_j (by decide)).trans ((show F53 (me) (4 : Int) = F46 (me) (4 : Int) from by rw [eF53]; exact uF_j (by decide)).trans ((show F46 (me) (4 : Int) = F41 (me) (4 : Int) from by rw [eF46]; exact uF_j (by decide)).trans (show F41 (me) (4 : Int) = F (me) (4 : Int) from by rw [eF41]; exact uF_j (by decide))))) ?_
          have x64 := (hC62.2.2.2.2.2 (me) o_me (own_z o_me)).1 t_me
          rw [show F61 (me) (2 : Int) = F (me) (2 : Int) from ((show F61 (me) (2 : Int) = F53 (me) (2 : Int) from by rw [eF61]; exact uF_j (by decide)).trans ((show F53 (me) (2 : Int) = F46 (me) (2 : Int) from by rw [eF53]; exact uF_j (by decide)).trans ((show F46 (me) (2 : Int) = F41 (me) (2 : Int) from by rw [eF46]; exact uF_j (by decide)).trans (show F41 (me) (2 : Int) = F (me) (2 : Int) from by rw [eF41]; exact uF_j (by decide)))))] at x64
          rw [show F61 (me) (3 : Int) = F (me) (3 : Int) from ((show F61 (me) (3 : Int) = F53 (me) (3 : Int) from by rw [eF61]; exact uF_j (by decide)).trans ((show F53 (me) (3 : Int) = F46 (me) (3 : Int) from by rw [eF53]; exact uF_j (by decide)).trans ((show F46 (me) (3 : Int) = F41 (me) (3 : Int) from by rw [eF46]; exact uF_j (by decide)).trans (show F41 (me) (3 : Int) = F (me) (3 : Int) from by rw [eF41]; exact uF_j (by decide)))))] at x64
          rw [show F61 (me) (4 : Int) = F (me) (4 : Int) from ((show F61 (me) (4 : Int) = F53 (me) (4 : Int) from by rw [eF61]; exact uF_j (by decide)).trans ((show F53 (me) (4 : Int) = F46 (me) (4 : Int) from by rw [eF53]; exact uF_j (by decide)).trans ((show F46 (me) (4 : Int) = F41 (me) (4 : Int) from by rw [eF46]; exact uF_j (by decide)).trans (show F41 (me) (4 : Int) = F (me) (4 : Int) from by rw [eF41]; exact uF_j (by decide)))))] at x64
          rw [show F61 (me) (5 : Int) = F (me) (5 : Int) from ((show F61 (me) (5 : Int) = F53 (me) (5 : Int) from by rw [eF61]; exact uF_j (by decide)).trans ((show F53 (me) (5 : Int) = F46 (me) (5 : Int) from by rw [eF53]; exact uF_j (by decide)).trans ((show F46 (me) (5 : Int) = F41 (me) (5 : Int) from by rw [eF46]; exact uF_j (by decide)).trans (show F41 (me) (5 : Int) = F (me) (5 : Int) from by rw [eF41]; exact uF_j (by decide)))))] at x64
          rw [show F61 (me) (6 : Int) = F (me) (6 : Int) from ((show F61 (me) (6 : Int) = F53 (me) (6 : Int) from by rw [eF61]; exact uF_j (by decide)).trans ((show F53 (me) (6 : Int) = F46 (me) (6 : Int) from by rw [eF53]; exact uF_j (by decide)).trans ((show F46 (me) (6 : Int) = F41 (me) (6 : Int) from by rw [eF46]; exact uF_j (by decide)).trans (show F41 (me) (6 : Int) = F (me) (6 : Int) from by rw [eF41]; exact uF_j (by decide)))))] at x64
          rw [show F61 (me) (7 : Int) = F (me) (7 : Int) from ((show F61 (me) (7 : Int) = F53 (me) (7 : Int) from by rw [eF61]; exact uF_j (by decide)).trans ((show F53 (me) (7 : Int) = F46 (me) (7 : Int) from by rw [eF53]; exact uF_j (by decide)).trans ((show F46 (me) (7 : Int) = F41 (me) (7 : Int) from by rw [eF46]; exact uF_j (by decide)).trans (show F41 (me) (7 : Int) = F (me) (7 : Int) from by rw [eF41]; exact uF_j (by decide)))))] at x64
          refine jx_ld (pc_q := 103) (l_q := L0) (st_q := [rv (me), rv (F (me) (4 : Int)), rv (me)]) rfl (jl_rvn g1) ?_
          refine cx_gi (pc_q := 106) (c := 10) (q := 8) (v := F (me) (8 : Int)) rfl rfl (by decide) (by decide) (Or.inl rfl) rfl o_me t_me ((show F61 (me) (8 : Int) = F53 (me) (8 : Int) from by rw [eF61]; exact uF_j (by decide)).trans ((show F53 (me) (8 : Int) = F46 (me) (8 : Int) from by rw [eF53]; exact uF_j (by decide)).trans ((show F46 (me) (8 : Int) = F41 (me) (8 : Int) from by rw [eF46]; exact uF_j (by decide)).trans (show F41 (me) (8 : Int) = F (me) (8 : Int) from by rw [eF41]; exact uF_j (by decide))))) ?_
          refine cx_lal (pc_q := 107) rfl rfl y56.1 y56.2.1 (by omega) (by omega) (by omega) ?_
          obtain ⟨y65, ey65⟩ : ∃ q : Int64, q = i64 (F61 (F (me) (4 : Int)) (F (me) (8 : Int))) := ⟨_, rfl⟩
          rw [← ey65]
          clear ey65
          refine cx_pl (pc_q := 110) (c := 10) (q := 18) (qi := (18 : Int)) (y := y65) rfl rfl (by decide) (by decide) rfl rfl rfl (by decide) rfl o_me t_me rfl ?_
          obtain ⟨F66, eF66⟩ : ∃ q, q = uF F61 (me) (18 : Int) ((y65 : Int64).toInt) := ⟨_, rfl⟩
          rw [← eF66]
          have hC67 : HC 0 m tg ln F66 := by rw [eF66]; exact HC_fl (c := 10) (q := 18) hC62 t_me (by decide) rfl ⟨fun _ => ⟨fun w1 w2 => absurd w2 (by omega), fun w => absurd w (by decide)⟩, fun w => absurd w (by decide)⟩
          have hM68 : Fq 0 [(11, 12), (11, 13), (11, 14), (11, 15), (11, 16), (11, 17), (11, 18)] m tg F F66 := by rw [eF66]; exact Fq_p hM63 t_me (fun _ => rfl) rfl
          refine jx_ld (pc_q := 111) (l_q := L0) (st_q := [rv (me)]) rfl (jl_rvn g1) ?_
          refine jx_ld (pc_q := 112) (l_q := L0) (st_q := [rv (me), rv (me)]) rfl (jl_rvn g1) ?_
          refine cx_gr (pc_q := 115) (c := 10) (q := 5) (v := F (me) (5 : Int)) rfl rfl (by decide) (by decide) rfl rfl o_me t_me ((show F66 (me) (5 : Int) = F61 (me) (5 : Int) from by rw [eF66]; exact uF_j (by decide)).trans ((show F61 (me) (5 : Int) = F53 (me) (5 : Int) from by rw [eF61]; exact uF_j (by decide)).trans ((show F53 (me) (5 : Int) = F46 (me) (5 : Int) from by rw [eF53]; exact uF_j (by decide)).trans ((show F46 (me) (5 : Int) = F41 (me) (5 : Int) from by rw [eF46]; exact uF_j (by decide)).trans (show F41 (me) (5 : Int) = F (me) (5 : Int) from by rw [eF41]; exact uF_j (by decide)))))) ?_
          have y69 : own m (F (me) (5 : Int)) ∧ tg (F (me) (5 : Int)) = 21 ∧ ((0 : Int) ≠ 0 → ln (F (me) (5 : Int)) = 0) := by have z := HC_n (c := 10) (q := 5) hC67 o_me t_me (own_z o_me) (by decide) rfl; rw [show F66 (me) ((5 : Nat) : Int) = F (me) (5 : Int) from ((show F66 (me) (5 : Int) = F61 (me) (5 : Int) from by rw [eF66]; exact uF_j (by decide)).trans ((show F61 (me) (5 : Int) = F53 (me) (5 : Int) from by rw [eF61]; exact uF_j (by decide)).trans ((show F53 (me) (5 : Int) = F46 (me) (5 : Int) from by rw [eF53]; exact uF_j (by decide)).trans ((show F46 (me) (5 : Int) = F41 (me) (5 : Int) from by rw [eF46]; exact uF_j (by decide)).trans (show F41 (me) (5 : Int) = F (me) (5 : Int) from by rw [eF41]; exact uF_j (by decide))))))] at z; exact ⟨z.1, z.2.1, z.2.2.1⟩
          have x70 := (hC67.2.2.2.2.2 (me) o_me (own_z o_me)).1 t_me
          rw [show F66 (me) (2 : Int) = F (me) (2 : Int) from ((show F66 (me) (2 : Int) = F61 (me) (2 : Int) from by rw [eF66]; exact uF_j (by decide)).trans ((show F61 (me) (2 : Int) = F53 (me) (2 : Int) from by rw [eF61]; exact uF_j (by decide)).trans ((show F53 (me) (2 : Int) = F46 (me) (2 : Int) from by rw [eF53]; exact uF_j (by decide)).trans ((show F46 (me) (2 : Int) = F41 (me) (2 : Int) from by rw [eF46]; exact uF_j (by decide)).trans (show F41 (me) (2 : Int) = F (me) (2 : Int) from by rw [eF41]; exact uF_j (by decide))))))] at x70
          rw [show F66 (me) (3 : Int) = F (me) (3 : Int) from ((show F66 (me) (3 : Int) = F61 (me) (3 : Int) from by rw [eF66]; exact uF_j (by decide)).trans ((show F61 (me) (3 : Int) = F53 (me) (3 : Int) from by rw [eF61]; exact uF_j (by decide)).trans ((show F53 (me) (3 : Int) = F46 (me) (3 : Int) from by rw [eF53]; exact uF_j (by decide)).trans ((show F46 (me) (3 : Int) = F41 (me) (3 : Int) from by rw [eF46]; exact uF_j (by decide)).trans (show F41 (me) (3 : Int) = F (me) (3 : Int) from by rw [eF41]; exact uF_j (by decide))))))] at x70
          rw [show F66 (me) (4 : Int) = F (me) (4 : Int) from ((show F66 (me) (4 : Int) = F61 (me) (4 : Int) from by rw [eF66]; exact uF_j (by decide)).trans ((show F61 (me) (4 : Int) = F53 (me) (4 : Int) from by rw [eF61]; exact uF_j (by decide)).trans ((show F53 (me) (4 : Int) = F46 (me) (4 : Int) from by rw [eF53]; exact uF_j (by decide)).trans ((show F46 (me) (4 : Int) = F41 (me) (4 : Int) from by rw [eF46]; exact uF_j (by decide)).trans (show F41 (me) (4 : Int) = F (me) (4 : Int) from by rw [eF41]; exact uF_j (by decide))))))] at x70
          rw [show F66 (me) (5 : Int) = F (me) (5 : Int) from ((show F66 (me) (5 : Int) = F61 (me) (5 : Int) from by rw [eF66]; exact uF_j (by decide)).trans ((show F61 (me) (5 : Int) = F53 (me) (5 : Int) from by rw [eF61]; exact uF_j (by decide)).trans ((show F53 (me) (5 : Int) = F46 (me) (5 : Int) from by rw [eF53]; exact uF_j (by decide)).trans ((show F46 (me) (5 : Int) = F41 (me) (5 : Int) from by rw [eF46]; exact uF_j (by decide)).trans (show F41 (me) (5 : Int) = F (me) (5 : Int) from by rw [eF41]; exact uF_j (by decide))))))] at x70
          rw [show F66 (me) (6 : Int) = F (me) (6 : Int) from ((show F66 (me) (6 : Int) = F61 (me) (6 : Int) from by rw [eF66]; exact uF_j (by decide)).trans ((show F61 (me) (6 : Int) = F53 (me) (6 : Int) from by rw [eF61]; exact uF_j (by decide)).trans ((show F53 (me) (6 : Int) = F46 (me) (6 : Int) from by rw [eF53]; exact uF_j (by decide)).trans ((show F46 (me) (6 : Int) = F41 (me) (6 : Int) from by rw [eF46]; exact uF_j (by decide)).trans (show F41 (me) (6 : Int) = F (me) (6 : Int) from by rw [eF41]; exact uF_j (by decide))))))] at x70
          rw [show F66 (me) (7 : Int) = F (me) (7 : Int) from ((show F66 (me) (7 : Int) = F61 (me) (7 : Int) from by rw [eF66]; exact uF_j (by decide)).trans ((show F61 (me) (7 : Int) = F53 (me) (7 : Int) from by rw [eF61]; exact uF_j (by decide)).trans ((show F53 (me) (7 : Int) = F46 (me) (7 : Int) from by rw [eF53]; exact uF_j (by decide)).trans ((show F46 (me) (7 : Int) = F41 (me) (7 : Int) from by rw [eF46]; exact uF_j (by decide)).trans (show F41 (me) (7 : Int) = F (me) (7 : Int) from by rw [eF41]; exact uF_j (by decide))))))] at x70
          refine jx_ld (pc_q := 116) (l_q := L0) (st_q := [rv (me), rv (F (me) (5 : Int)), rv (me)]) rfl (jl_rvn g1) ?_
          refine cx_gi (pc_q := 119) (c := 10) (q := 8) (v := F (me) (8 : Int)) rfl rfl (by decide) (by decide) (Or.inl rfl) rfl o_me t_me ((show F66 (me) (8 : Int) = F61 (me) (8 : Int) from by rw [eF66]; exact uF_j (by decide)).trans ((show F61 (me) (8 : Int) = F53 (me) (8 : Int) from by rw [eF61]; exact uF_j (by decide)).trans ((show F53 (me) (8 : Int) = F46 (me) (8 : Int) from by rw [eF53]; exact uF_j (by decide)).trans ((show F46 (me) (8 : Int) = F41 (me) (8 : Int) from by rw [eF46]; exact uF_j (by decide)).trans (show F41 (me) (8 : Int) = F (me) (8 : Int) from by rw [eF41]; exact uF_j (by decide)))))) ?_
          have b71 := HC_l hC67 y69.1 y69.2.1 (by decide)
          refine cx_ial (pc_q := 120) (z := F (me) (8 : Int)) rfl rfl y69.1 y69.2.1 (by omega) (by omega) (by omega) ?_
          rw [show F66 (F (me) (5 : Int)) (F (me) (8 : Int)) = F (F (me) (5 : Int)) (F (me) (8 : Int)) from ((show F66 (F (me) (5 : Int)) (F (me) (8 : Int)) = F61 (F (me) (5 : Int)) (F (me) (8 : Int)) from by rw [eF66]; exact uF_a (fun w => by have q1 := y69.2.1; have q2 := t_me; rw [w, q2] at q1; exact absurd q1 (by decide))).trans ((show F61 (F (me) (5 : Int)) (F (me) (8 : Int)) = F53 (F (me) (5 : Int)) (F (me) (8 : Int)) from by rw [eF61]; exact uF_a (fun w => by have q1 := y69.2.1; have q2 := t_me; rw [w, q2] at q1; exact absurd q1 (by decide))).trans ((show F53 (F (me) (5 : Int)) (F (me) (8 : Int)) = F46 (F (me) (5 : Int)) (F (me) (8 : Int)) from by rw [eF53]; exact uF_a (fun w => by have q1 := y69.2.1; have q2 := t_me; rw [w, q2] at q1; exact absurd q1 (by decide))).trans ((show F46 (F (me) (5 : Int)) (F (me) (8 : Int)) = F41 (F (me) (5 : Int)) (F (me) (8 : Int)) from by rw [eF46]; exact uF_a (fun w => by have q1 := y69.2.1; have q2 := t_me; rw [w, q2] at q1; exact absurd q1 (by decide))).trans (show F41 (F (me) (5 : Int)) (F (me) (8 : Int)) = F (F (me) (5 : Int)) (F (me) (8 : Int)) from by rw [eF41]; exact uF_a (fun w => by have q1 := y69.2.1; have q2 := t_me; rw [w, q2] at q1; exact absurd q1 (by decide)))))))]
          have b72 : (-2147483648 : Int) ≤ F (F (me) (5 : Int)) (F (me) (8 : Int)) ∧ F (F (me) (5 : Int)) (F (me) (8 : Int)) ≤ 2147483647 := by have z := HC_ei (j := F (me) (8 : Int)) hC67 y69.1 (by rw [y69.2.1]; decide) (by omega); rw [show F66 (F (me) (5 : Int)) (F (me) (8 : Int)) = F (F (me) (5 : Int)) (F (me) (8 : Int)) from ((show F66 (F (me) (5 : Int)) (F (me) (8 : Int)) = F61 (F (me) (5 : Int)) (F (me) (8 : Int)) from by rw [eF66]; exact uF_a (fun w => by have q1 := y69.2.1; have q2 := t_me; rw [w, q2] at q1; exact absurd q1 (by decide))).trans ((show F61 (F (me) (5 : Int)) (F (me) (8 : Int)) = F53 (F (me) (5 : Int)) (F (me) (8 : Int)) from by rw [eF61]; exact uF_a (fun w => by have q1 := y69.2.1; have q2 := t_me; rw [w, q2] at q1; exact absurd q1 (by decide))).trans ((show F53 (F (me) (5 : Int)) (F (me) (8 : Int)) = F46 (F (me) (5 : Int)) (F (me) (8 : Int)) from by rw [eF53]; exact uF_a (fun w => by have q1 := y69.2.1; have q2 := t_me; rw [w, q2] at q1; exact absurd q1 (by decide))).trans ((show F46 (F (me) (5 : Int)) (F (me) (8 : Int)) = F41 (F (me) (5 : Int)) (F (me) (8 : Int)) from by rw [eF46]; exact uF_a (fun w => by have q1 := y69.2.1; have q2 := t_me; rw [w, q2] at q1; exact absurd q1 (by decide))).trans (show F41 (F (me) (5 : Int)) (F (me) (8 : Int)) = F (F (me) (5 : Int)) (F (me) (8 : Int)) from by rw [eF41]; exact uF_a (fun w => by have q1 := y69.2.1; have q2 := t_me; rw [w, q2] at q1; exact absurd q1 (by decide)))))))] at z; exact z
          refine cx_pi (pc_q := 123) (c := 10) (q := 13) (qi := (13 : Int)) (z := F (F (me) (5 : Int)) (F (me) (8 : Int))) rfl rfl (by decide) (by decide) rfl rfl rfl (by decide) rfl o_me t_me rfl ?_
          obtain ⟨F73, eF73⟩ : ∃ q, q = uF F66 (me) (13 : Int) (F (F (me) (5 : Int)) (F (me) (8 : Int))) := ⟨_, rfl⟩
          rw [← eF73]
          have hC74 : HC 0 m tg ln F73 := by rw [eF73]; exact HC_fi (c := 10) (q := 13) hC67 t_me (by decide) rfl (by omega) (by omega) ⟨fun _ => ⟨fun w1 w2 => absurd w2 (by omega), fun w => absurd w (by decide)⟩, fun w => absurd w (by decide)⟩
          have hM75 : Fq 0 [(11, 12), (11, 13), (11, 14), (11, 15), (11, 16), (11, 17), (11, 18)] m tg F F73 := by rw [eF73]; exact Fq_p hM68 t_me (fun _ => rfl) rfl
          refine jx_ld (pc_q := 124) (l_q := L0) (st_q := [rv (me)]) rfl (jl_rvn g1) ?_
          refine jx_ld (pc_q := 125) (l_q := L0) (st_q := [rv (me), rv (me)]) rfl (jl_rvn g1) ?_
          refine cx_gr (pc_q := 128) (c := 10) (q := 6) (v := F (me) (6 : Int)) rfl rfl (by decide) (by decide) rfl rfl o_me t_me ((show F73 (me) (6 : Int) = F66 (me) (6 : Int) from by rw [eF73]; exact uF_j (by decide)).trans ((show F66 (me) (6 : Int) = F61 (me) (6 : Int) from by rw [eF66]; exact uF_j (by decide)).trans ((show F61 (me) (6 : Int) = F53 (me) (6 : Int) from by rw [eF61]; exact uF_j (by decide)).trans ((show F53 (me) (6 : Int) = F46 (me) (6 : Int) from by rw [eF53]; exact uF_j (by decide)).trans ((show F46 (me) (6 : Int) = F41 (me) (6 : Int) from by rw [eF46]; exact uF_j (by decide)).trans (show F41 (me) (6 : Int) = F (me) (6 : Int) from by rw [eF41]; exact uF_j (by decide))))))) ?_
          have y76 : own m (F (me) (6 : Int)) ∧ tg (F (me) (6 : Int)) = 20 ∧ ((0 : Int) ≠ 0 → ln (F (me) (6 : Int)) = 0) := by have z := HC_n (c := 10) (q := 6) hC74 o_me t_me (own_z o_me) (by decide) rfl; rw [show F73 (me) ((6 : Nat) : Int) = F (me) (6 : Int) from ((show F73 (me) (6 : Int) = F66 (me) (6 : Int) from by rw [eF73]; exact uF_j (by decide)).trans ((show F66 (me) (6 : Int) = F61 (me) (6 : Int) from by rw [eF66]; exact uF_j (by decide)).trans ((show F61 (me) (6 : Int) = F53 (me) (6 : Int) from by rw [eF61]; exact uF_j (by decide)).trans ((show F53 (me) (6 : Int) = F46 (me) (6 : Int) from by rw [eF53]; exact uF_j (by decide)).trans ((show F46 (me) (6 : Int) = F41 (me) (6 : Int) from by rw [eF46]; exact uF_j (by decide)).trans (show F41 (me) (6 : Int) = F (me) (6 : Int) from by rw [eF41]; exact uF_j (by decide)))))))] at z; exact ⟨z.1, z.2.1, z.2.2.1⟩
          have x77 := (hC74.2.2.2.2.2 (me) o_me (own_z o_me)).1 t_me
          rw [show F73 (me) (2 : Int) = F (me) (2 : Int) from ((show F73 (me) (2 : Int) = F66 (me) (2 : Int) from by rw [eF73]; exact uF_j (by decide)).trans ((show F66 (me) (2 : Int) = F61 (me) (2 : Int) from by rw [eF66]; exact uF_j (by decide)).trans ((show F61 (me) (2 : Int) = F53 (me) (2 : Int) from by rw [eF61]; exact uF_j (by decide)).trans ((show F53 (me) (2 : Int) = F46 (me) (2 : Int) from by rw [eF53]; exact uF_j (by decide)).trans ((show F46 (me) (2 : Int) = F41 (me) (2 : Int) from by rw [eF46]; exact uF_j (by decide)).trans (show F41 (me) (2 : Int) = F (me) (2 : Int) from by rw [eF41]; exact uF_j (by decide)))))))] at x77
          rw [show F73 (me) (3 : Int) = F (me) (3 : Int) from ((show F73 (me) (3 : Int) = F66 (me) (3 : Int) from by rw [eF73]; exact uF_j (by decide)).trans ((show F66 (me) (3 : Int) = F61 (me) (3 : Int) from by rw [eF66]; exact uF_j (by decide)).trans ((show F61 (me) (3 : Int) = F53 (me) (3 : Int) from by rw [eF61]; exact uF_j (by decide)).trans ((show F53 (me) (3 : Int) = F46 (me) (3 : Int) from by rw [eF53]; exact uF_j (by decide)).trans ((show F46 (me) (3 : Int) = F41 (me) (3 : Int) from by rw [eF46]; exact uF_j (by decide)).trans (show F41 (me) (3 : Int) = F (me) (3 : Int) from by rw [eF41]; exact uF_j (by decide)))))))] at x77
          rw [show F73 (me) (4 : Int) = F (me) (4 : Int) from ((show F73 (me) (4 : Int) = F66 (me) (4 : Int) from by rw [eF73]; exact uF_j (by decide)).trans ((show F66 (me) (4 : Int) = F61 (me) (4 : Int) from by rw [eF66]; exact uF_j (by decide)).trans ((show F61 (me) (4 : Int) = F53 (me) (4 : Int) from by rw [eF61]; exact uF_j (by decide)).trans ((show F53 (me) (4 : Int) = F46 (me) (4 : Int) from by rw [eF53]; exact uF_j (by decide)).trans ((show F46 (me) (4 : Int) = F41 (me) (4 : Int) from by rw [eF46]; exact uF_j (by decide)).trans (show F41 (me) (4 : Int) = F (me) (4 : Int) from by rw [eF41]; exact uF_j (by decide)))))))] at x77
          rw [show F73 (me) (5 : Int) = F (me) (5 : Int) from ((show F73 (me) (5 : Int) = F66 (me) (5 : Int) from by rw [eF73]; exact uF_j (by decide)).trans ((show F66 (me) (5 : Int) = F61 (me) (5 : Int) from by rw [eF66]; exact uF_j (by decide)).trans ((show F61 (me) (5 : Int) = F53 (me) (5 : Int) from by rw [eF61]; exact uF_j (by decide)).trans ((show F53 (me) (5 : Int) = F46 (me) (5 : Int) from by rw [eF53]; exact uF_j (by decide)).trans ((show F46 (me) (5 : Int) = F41 (me) (5 : Int) from by rw [eF46]; exact uF_j (by decide)).trans (show F41 (me) (5 : Int) = F (me) (5 : Int) from by rw [eF41]; exact uF_j (by decide)))))))] at x77
          rw [show F73 (me) (6 : Int) = F (me) (6 : Int) from ((show F73 (me) (6 : Int) = F66 (me) (6 : Int) from by rw [eF73]; exact uF_j (by decide)).trans ((show F66 (me) (6 : Int) = F61 (me) (6 : Int) from by rw [eF66]; exact uF_j (by decide)).trans ((show F61 (me) (6 : Int) = F53 (me) (6 : Int) from by rw [eF61]; exact uF_j (by decide)).trans ((show F53 (me) (6 : Int) = F46 (me) (6 : Int) from by rw [eF53]; exact uF_j (by decide)).trans ((show F46 (me) (6 : Int) = F41 (me) (6 : Int) from by rw [eF46]; exact uF_j (by decide)).trans (show F41 (me) (6 : Int) = F (me) (6 : Int) from by rw [eF41]; exact uF_j (by decide)))))))] at x77
          rw [show F73 (me) (7 : Int) = F (me) (7 : Int) from ((show F73 (me) (7 : Int) = F66 (me) (7 : Int) from by rw [eF73]; exact uF_j (by decide)).trans ((show F66 (me) (7 : Int) = F61 (me) (7 : Int) from by rw [eF66]; exact uF_j (by decide)).trans ((show F61 (me) (7 : Int) = F53 (me) (7 : Int) from by rw [eF61]; exact uF_j (by decide)).trans ((show F53 (me) (7 : Int) = F46 (me) (7 : Int) from by rw [eF53]; exact uF_j (by decide)).trans ((show F46 (me) (7 : Int) = F41 (me) (7 : Int) from by rw [eF46]; exact uF_j (by decide)).trans (show F41 (me) (7 : Int) = F (me) (7 : Int) from by rw [eF41]; exact uF_j (by decide)))))))] at x77
          refine jx_ld (pc_q := 129) (l_q := L0) (st_q := [rv (me), rv (F (me) (6 : Int)), rv (me)]) rfl (jl_rvn g1) ?_
          refine cx_gi (pc_q := 132) (c := 10) (q := 8) (v := F (me) (8 : Int)) rfl rfl (by decide) (by decide) (Or.inl rfl) rfl o_me t_me ((show F73 (me) (8 : Int) = F66 (me) (8 : Int) from by rw [eF73]; exact uF_j (by decide)).trans ((show F66 (me) (8 : Int) = F61 (me) (8 : Int) from by rw [eF66]; exact uF_j (by decide)).trans ((show F61 (me) (8 : Int) = F53 (me) (8 : Int) from by rw [eF61]; exact uF_j (by decide)).trans ((show F53 (me) (8 : Int) = F46 (me) (8 : Int) from by rw [eF53]; exact uF_j (by decide)).trans ((show F46 (me) (8 : Int) = F41 (me) (8 : Int) from by rw [eF46]; exact uF_j (by decide)).trans (show F41 (me) (8 : Int) = F (me) (8 : Int) from by rw [eF41]; exact uF_j (by decide))))))) ?_
          have b78 := HC_l hC74 y76.1 y76.2.1 (by decide)
          refine cx_bal (pc_q := 133) (z := F (me) (8 : Int)) rfl rfl y76.1 (Or.inl y76.2.1) (by omega) (by omega) (by omega) ?_
          rw [show F73 (F (me) (6 : Int)) (F (me) (8 : Int)) = F (F (me) (6 : Int)) (F (me) (8 : Int)) from ((show F73 (F (me) (6 : Int)) (F (me) (8 : Int)) = F66 (F (me) (6 : Int)) (F (me) (8 : Int)) from by rw [eF73]; exact uF_a (fun w => by have q1 := y76.2.1; have q2 := t_me; rw [w, q2] at q1; exact absurd q1 (by decide))).trans ((show F66 (F (me) (6 : Int)) (F (me) (8 : Int)) = F61 (F (me) (6 : Int)) (F (me) (8 : Int)) from by rw [eF66]; exact uF_a (fun w => by have q1 := y76.2.1; have q2 := t_me; rw [w, q2] at q1; exact absurd q1 (by decide))).trans ((show F61 (F (me) (6 : Int)) (F (me) (8 : Int)) = F53 (F (me) (6 : Int)) (F (me) (8 : Int)) from by rw [eF61]; exact uF_a (fun w => by have q1 := y76.2.1; have q2 := t_me; rw [w, q2] at q1; exact absurd q1 (by decide))).trans ((show F53 (F (me) (6 : Int)) (F (me) (8 : Int)) = F46 (F (me) (6 : Int)) (F (me) (8 : Int)) from by rw [eF53]; exact uF_a (fun w => by have q1 := y76.2.1; have q2 := t_me; rw [w, q2] at q1; exact absurd q1 (by decide))).trans ((show F46 (F (me) (6 : Int)) (F (me) (8 : Int)) = F41 (F (me) (6 : Int)) (F (me) (8 : Int)) from by rw [eF46]; exact uF_a (fun w => by have q1 := y76.2.1; have q2 := t_me; rw [w, q2] at q1; exact absurd q1 (by decide))).trans (show F41 (F (me) (6 : Int)) (F (me) (8 : Int)) = F (F (me) (6 : Int)) (F (me) (8 : Int)) from by rw [eF41]; exact uF_a (fun w => by have q1 := y76.2.1; have q2 := t_me; rw [w, q2] at q1; exact absurd q1 (by decide))))))))]
          have b79 : (-2 : Int) ≤ F (F (me) (6 : Int)) (F (me) (8 : Int)) ∧ F (F (me) (6 : Int)) (F (me) (8 : Int)) ≤ 15 := by have z := HC_e (j := F (me) (8 : Int)) hC74 y76.1 (by rw [y76.2.1]; decide) (by omega); rw [(show F73 (F (me) (6 : Int)) (-1) = 1 by have z := HC_n (c := 10) (q := 6) hC74 o_me t_me (own_z o_me) (by decide) rfl; rw [show F73 (me) ((6 : Nat) : Int) = F (me) (6 : Int) from ((show F73 (me) (6 : Int) = F66 (me) (6 : Int) from by rw [eF73]; exact uF_j (by decide)).trans ((show F66 (me) (6 : Int) = F61 (me) (6 : Int) from by rw [eF66]; exact uF_j (by decide)).trans ((show F61 (me) (6 : Int) = F53 (me) (6 : Int) from by rw [eF61]; exact uF_j (by decide)).trans ((show F53 (me) (6 : Int) = F46 (me) (6 : Int) from by rw [eF53]; exact uF_j (by decide)).trans ((show F46 (me) (6 : Int) = F41 (me) (6 : Int) from by rw [eF46]; exact uF_j (by decide)).trans (show F41 (me) (6 : Int) = F (me) (6 : Int) from by rw [eF41]; exact uF_j (by decide)))))))] at z; exact z.2.2.2 (by decide))] at z; rw [show F73 (F (me) (6 : Int)) (F (me) (8 : Int)) = F (F (me) (6 : Int)) (F (me) (8 : Int)) from ((show F73 (F (me) (6 : Int)) (F (me) (8 : Int)) = F66 (F (me) (6 : Int)) (F (me) (8 : Int)) from by rw [eF73]; exact uF_a (fun w => by have q1 := y76.2.1; have q2 := t_me; rw [w, q2] at q1; exact absurd q1 (by decide))).trans ((show F66 (F (me) (6 : Int)) (F (me) (8 : Int)) = F61 (F (me) (6 : Int)) (F (me) (8 : Int)) from by rw [eF66]; exact uF_a (fun w => by have q1 := y76.2.1; have q2 := t_me; rw [w, q2] at q1; exact absurd q1 (by decide))).trans ((show F61 (F (me) (6 : Int)) (F (me) (8 : Int)) = F53 (F (me) (6 : Int)) (F (me) (8 : Int)) from by rw [eF61]; exact uF_a (fun w => by have q1 := y76.2.1; have q2 := t_me; rw [w, q2] at q1; exact absurd q1 (by decide))).trans ((show F53 (F (me) (6 : Int)) (F (me) (8 : Int)) = F46 (F (me) (6 : Int)) (F (me) (8 : Int)) from by rw [eF53]; exact uF_a (fun w => by have q1 := y76.2.1; have q2 := t_me; rw [w, q2] at q1; exact absurd q1 (by decide))).trans ((show F46 (F (me) (6 : Int)) (F (me) (8 : Int)) = F41 (F (me) (6 : Int)) (F (me) (8 : Int)) from by rw [eF46]; exact uF_a (fun w => by have q1 := y76.2.1; have q2 := t_me; rw [w, q2] at q1; exact absurd q1 (by decide))).trans (show F41 (F (me) (6 : Int)) (F (me) (8 : Int)) = F (F (me) (6 : Int)) (F (me) (8 : Int)) from by rw [eF41]; exact uF_a (fun w => by have q1 := y76.2.1; have q2 := t_me; rw [w, q2] at q1; exact absurd q1 (by decide))))))))] at z; exact z
          refine cx_pi (pc_q := 136) (c := 10) (q := 14) (qi := (14 : Int)) (z := F (F (me) (6 : Int)) (F (me) (8 : Int))) rfl rfl (by decide) (by decide) rfl rfl rfl (by decide) rfl o_me t_me rfl ?_
          obtain ⟨F80, eF80⟩ : ∃ q, q = uF F73 (me) (14 : Int) (F (F (me) (6 : Int)) (F (me) (8 : Int))) := ⟨_, rfl⟩
          rw [← eF80]
          have hC81 : HC 0 m tg ln F80 := by rw [eF80]; exact HC_fi (c := 10) (q := 14) hC74 t_me (by decide) rfl (by omega) (by omega) ⟨fun _ => ⟨fun w1 w2 => absurd w2 (by omega), fun w => absurd w (by decide)⟩, fun w => absurd w (by decide)⟩
          have hM82 : Fq 0 [(11, 12), (11, 13), (11, 14), (11, 15), (11, 16), (11, 17), (11, 18)] m tg F F80 := by rw [eF80]; exact Fq_p hM75 t_me (fun _ => rfl) rfl
          refine jx_rt (v := none) rfl rfl rfl rfl rfl rfl ?_
          have q83 : F80 (me) (15 : Int) = F (F (me) (2 : Int)) (F (me) (8 : Int)) := ((show F80 (me) (15 : Int) = F73 (me) (15 : Int) from by rw [eF80]; exact uF_j (by decide)).trans ((show F73 (me) (15 : Int) = F66 (me) (15 : Int) from by rw [eF73]; exact uF_j (by decide)).trans ((show F66 (me) (15 : Int) = F61 (me) (15 : Int) from by rw [eF66]; exact uF_j (by decide)).trans ((show F61 (me) (15 : Int) = F53 (me) (15 : Int) from by rw [eF61]; exact uF_j (by decide)).trans ((show F53 (me) (15 : Int) = F46 (me) (15 : Int) from by rw [eF53]; exact uF_j (by decide)).trans (show F46 (me) (15 : Int) = F (F (me) (2 : Int)) (F (me) (8 : Int)) from by rw [eF46]; exact uF_e))))))
          have q84 : tz (F80 (me) (15 : Int)) = tz (F (F (me) (2 : Int)) (F (me) (8 : Int))) := by rw [q83]
          have q85 := tz_b (F (F (me) (2 : Int)) (F (me) (8 : Int)))
          have q86 : F80 (me) (14 : Int) = F (F (me) (6 : Int)) (F (me) (8 : Int)) := (show F80 (me) (14 : Int) = F (F (me) (6 : Int)) (F (me) (8 : Int)) from by rw [eF80]; exact uF_e)
          have q87 : lz (F80 (me) (14 : Int)) = lz (F (F (me) (6 : Int)) (F (me) (8 : Int))) := by rw [q86]
          have q88 := lz_b (F (F (me) (6 : Int)) (F (me) (8 : Int)))
          exact ⟨F80, rfl, rfl, hC81, hM82, by omega, by omega, trivial⟩
        · have _q := h44
          exact absurd h44 (by omega)
      · have _q := h40
        refine jx_ar (pc_q := 32) (st_q := [.int (i32 (1)), rv (me)]) rfl rfl rfl rfl ?_
        refine jx_go (tg := 36) rfl rfl ?_
        refine cx_pb (pc_q := 39) (c := 10) (q := 12) (qi := (12 : Int)) (z := 1) rfl rfl (by decide) (by decide) rfl rfl rfl (by decide) (by omega) rfl o_me t_me rfl ?_
        obtain ⟨F89, eF89⟩ : ∃ q, q = uF F (me) (12 : Int) (1) := ⟨_, rfl⟩
        rw [← eF89]
        have hC90 : HC 0 m tg ln F89 := by rw [eF89]; exact HC_fi (c := 10) (q := 12) hC t_me (by decide) rfl (by omega) (by omega) ⟨fun _ => ⟨fun w1 w2 => absurd w2 (by omega), fun w => absurd w (by decide)⟩, fun w => absurd w (by decide)⟩
        have hM91 : Fq 0 [(11, 12), (11, 13), (11, 14), (11, 15), (11, 16), (11, 17), (11, 18)] m tg F F89 := by rw [eF89]; exact Fq_p hM0 t_me (fun _ => rfl) rfl
        refine jx_ld (pc_q := 40) (l_q := L0) (st_q := [rv (me)]) rfl (jl_rvn g1) ?_
        refine cx_gi (pc_q := 43) (c := 10) (q := 12) (v := 1) rfl rfl (by decide) (by decide) (Or.inr rfl) rfl o_me t_me (show F89 (me) (12 : Int) = 1 from by rw [eF89]; exact uF_e) ?_
        refine jx_if_eq (pc_q := 46) (tg := 57) rfl rfl rfl (by decide) (by decide) (fun h92 => ?_) (fun h92 => ?_)
        · have _q := h92
          exact absurd h92 (by omega)
        · have _q := h92
          refine jx_ld (pc_q := 47) (l_q := L0) (st_q := [rv (me)]) rfl (jl_rvn g1) ?_
          refine jx_ar (pc_q := 48) (st_q := [.int (i32 (-1)), rv (me)]) rfl rfl rfl rfl ?_
          refine cx_pi (pc_q := 51) (c := 10) (q := 14) (qi := (14 : Int)) (z := -1) rfl rfl (by decide) (by decide) rfl rfl rfl (by decide) rfl o_me t_me rfl ?_
          obtain ⟨F93, eF93⟩ : ∃ q, q = uF F89 (me) (14 : Int) (-1) := ⟨_, rfl⟩
          rw [← eF93]
          have hC94 : HC 0 m tg ln F93 := by rw [eF93]; exact HC_fi (c := 10) (q := 14) hC90 t_me (by decide) rfl (by omega) (by omega) ⟨fun _ => ⟨fun w1 w2 => absurd w2 (by omega), fun w => absurd w (by decide)⟩, fun w => absurd w (by decide)⟩
          have hM95 : Fq 0 [(11, 12), (11, 13), (11, 14), (11, 15), (11, 16), (11, 17), (11, 18)] m tg F F93 := by rw [eF93]; exact Fq_p hM91 t_me (fun _ => rfl) rfl
          refine jx_ld (pc_q := 52) (l_q := L0) (st_q := [rv (me)]) rfl (jl_rvn g1) ?_
          refine jx_ar (pc_q := 53) (st_q := [.int (i32 (0)), rv (me)]) rfl rfl rfl rfl ?_
          refine cx_pi (pc_q := 56) (c := 10) (q := 15) (qi := (15 : Int)) (z := 0) rfl rfl (by decide) (by decide) rfl rfl rfl (by decide) rfl o_me t_me rfl ?_
          obtain ⟨F96, eF96⟩ : ∃ q, q = uF F93 (me) (15 : Int) (0) := ⟨_, rfl⟩
          rw [← eF96]
          have hC97 : HC 0 m tg ln F96 := by rw [eF96]; exact HC_fi (c := 10) (q := 15) hC94 t_me (by decide) rfl (by omega) (by omega) ⟨fun _ => ⟨fun w1 w2 => absurd w2 (by omega), fun w => absurd w (by decide)⟩, fun w => absurd w (by decide)⟩
          have hM98 : Fq 0 [(11, 12), (11, 13), (11, 14), (11, 15), (11, 16), (11, 17), (11, 18)] m tg F F96 := by rw [eF96]; exact Fq_p hM95 t_me (fun _ => rfl) rfl
          refine jx_rt (v := none) rfl rfl rfl rfl rfl rfl ?_
          have q99 : F96 (me) (15 : Int) = 0 := (show F96 (me) (15 : Int) = 0 from by rw [eF96]; exact uF_e)
          have q100 : tz (F96 (me) (15 : Int)) = tz (0) := by rw [q99]
          have q101 : tz (0) = 0 := rfl
          have q102 : F96 (me) (14 : Int) = -1 := ((show F96 (me) (14 : Int) = F93 (me) (14 : Int) from by rw [eF96]; exact uF_j (by decide)).trans (show F93 (me) (14 : Int) = -1 from by rw [eF93]; exact uF_e))
          have q103 : lz (F96 (me) (14 : Int)) = lz (-1) := by rw [q102]
          have q104 : lz (-1) = 0 := rfl
          exact ⟨F96, rfl, rfl, hC97, hM98, by omega, by omega, trivial⟩
set_option maxRecDepth 20000 in
set_option maxHeartbeats 4000000 in
theorem k_LScanner_next {X : jX} {dd : Nat} {R : Nat → jC} {m : Nat} {tg ln : Int → Int} {F : Int → Int → Int} {me : Int} (hd : 2 ≤ dd) (hC : HC 0 m tg ln F) (o_me : own m me) (t_me : tg me = 11) (p_0 : F me (8 : Int) + 2 * tz (F me (15 : Int)) ≤ F me (7 : Int) + 1) (p_1 : F me (8 : Int) + 2 * lz (F me (14 : Int)) ≤ F me (7 : Int) + 1) : wk X dd 207 [rv me] (cV R m tg ln F) (fun o V_q => ∃ (F_q : Int → Int → Int), V_q = cV R m tg ln F_q ∧ o = .inl none ∧ HC 0 m tg ln F_q ∧ Fq 0 [(11, 8), (11, 12), (11, 13), (11, 14), (11, 15), (11, 16), (11, 17), (11, 18)] m tg F F_q ∧ (F_q me (8 : Int) = F me (8 : Int) + tz (F me (15 : Int))) ∧ (F_q me (8 : Int) + 2 * tz (F_q me (15 : Int)) ≤ F me (7 : Int) + 1) ∧ (F_q me (8 : Int) + 2 * lz (F_q me (14 : Int)) ≤ F me (7 : Int) + 1) ∧ True) := by
  obtain ⟨d, rfl⟩ : ∃ d, dd = d + 1 := ⟨dd - 1, by omega⟩
  refine wk_of (e := jm207) rfl (by rw [jS_r, jS_0]; exact Nat.le_of_ble_eq_true rfl) ?_
  rw [la_r, la_0]
  show wj X d jm207 (0, [(0, rv (me))], [], cV R m tg ln F) _
  have hM0 : Fq 0 [(11, 8), (11, 12), (11, 13), (11, 14), (11, 15), (11, 16), (11, 17), (11, 18)] m tg F F := Fq_r
  obtain ⟨L0, eL0⟩ : ∃ q : jL, q = [(0, rv (me))] := ⟨_, rfl⟩
  rw [← eL0]
  have g1 : jGet L0 0 = some (rv (me)) := eL0 ▸ (rfl : jGet [(0, rv (me))] 0 = some (rv (me)))
  clear eL0
  have cb : (0 : Int) ≤ F me (7 : Int) ∧ F me (7 : Int) ≤ 1000000 := HC_i (c := 10) (q := 7) hC o_me t_me (by decide) rfl
  refine jx_ld (pc_q := 1) (l_q := L0) (st_q := [rv (me)]) rfl (jl_rvn g1) ?_
  refine cx_gi (pc_q := 4) (c := 10) (q := 15) (v := F (me) (15 : Int)) rfl rfl (by decide) (by decide) (Or.inl rfl) rfl o_me t_me rfl ?_
  have b2 : (-2147483648 : Int) ≤ F (me) (15 : Int) ∧ F (me) (15 : Int) ≤ 2147483647 := by have z := HC_i (c := 10) (q := 15) hC o_me t_me (by decide) rfl; rw [show F (me) ((15 : Nat) : Int) = F (me) (15 : Int) from rfl] at z; exact z
  refine jx_if_eq (pc_q := 7) (tg := 21) rfl rfl rfl (by omega) (by omega) (fun h3 => ?_) (fun h3 => ?_)
  · have _q := h3
    have t4 : tz (F (me) (15 : Int)) = 0 := by rw [show F (me) (15 : Int) = 0 by omega]; rfl
    refine jx_rt (v := none) rfl rfl rfl rfl rfl rfl ?_
    have q5 := tz_b (F (me) (15 : Int))
    have q6 := lz_b (F (me) (14 : Int))
    exact ⟨F, rfl, rfl, hC, hM0, by omega, by omega, by omega, trivial⟩
  · have _q := h3
    have t7 : tz (F (me) (15 : Int)) = 1 := tz_p (by omega)
    refine jx_ld (pc_q := 8) (l_q := L0) (st_q := [rv (me)]) rfl (jl_rvn g1) ?_
    refine jx_ar (pc_q := 9) (st_q := [rv (me), rv (me)]) rfl rfl ja_dup rfl ?_
    refine cx_gi (pc_q := 12) (c := 10) (q := 8) (v := F (me) (8 : Int)) rfl rfl (by decide) (by decide) (Or.inl rfl) rfl o_me t_me rfl ?_
    have b8 : (-1 : Int) ≤ F (me) (8 : Int) ∧ F (me) (8 : Int) ≤ 1000002 := by have z := HC_i (c := 10) (q := 8) hC o_me t_me (by decide) rfl; rw [show F (me) ((8 : Nat) : Int) = F (me) (8 : Int) from rfl] at z; exact z
    refine jx_ar (pc_q := 13) (st_q := [.int (i32 (1)), .int (i32 (F (me) (8 : Int))), rv (me)]) rfl rfl rfl rfl ?_
    refine jx_add (pc_q := 14) rfl rfl ?_
    refine cx_pi (pc_q := 17) (c := 10) (q := 8) (qi := (8 : Int)) (z := (F (me) (8 : Int) + 1)) rfl rfl (by decide) (by decide) rfl rfl rfl (by decide) rfl o_me t_me rfl ?_
    obtain ⟨F9, eF9⟩ : ∃ q, q = uF F (me) (8 : Int) ((F (me) (8 : Int) + 1)) := ⟨_, rfl⟩
    rw [← eF9]
    have hC10 : HC 0 m tg ln F9 := by rw [eF9]; exact HC_fi (c := 10) (q := 8) hC t_me (by decide) rfl (by omega) (by omega) ⟨fun _ => ⟨fun w1 w2 => absurd w2 (by omega), fun w => absurd w (by decide)⟩, fun w => absurd w (by decide)⟩
    have hM11 : Fq 0 [(11, 8), (11, 12), (11, 13), (11, 14), (11, 15), (11, 16), (11, 17), (11, 18)] m tg F F9 := by rw [eF9]; exact Fq_p hM0 t_me (fun _ => rfl) rfl
    refine jx_ld (pc_q := 18) (l_q := L0) (st_q := [rv (me)]) rfl (jl_rvn g1) ?_
    have q12 : F9 (me) (8 : Int) = (F (me) (8 : Int) + 1) := (show F9 (me) (8 : Int) = (F (me) (8 : Int) + 1) from by rw [eF9]; exact uF_e)
    have q13 : F9 (me) (7 : Int) = F (me) (7 : Int) := (show F9 (me) (7 : Int) = F (me) (7 : Int) from by rw [eF9]; exact uF_j (by decide))
    refine cx_vi (c := 10) (a := me) (st := []) (as := []) rfl rfl rfl o_me t_me (by decide) rfl ⟨rfl, rfl, (Nat.le_of_ble_eq_true rfl)⟩ rfl (k_LScanner_load (dd := d) (R := R) (m := m) (tg := tg) (ln := ln) (F := F9) (me := me) (hd := by omega) (hC := hC10) (o_me := o_me) (t_me := t_me) (p_0 := by omega)) (fun o V_q hq => ?_)
    obtain ⟨F14, rfl, rfl, hC15, hM16, p17, p18, -⟩ := hq
    have hM19 : Fq 0 [(11, 8), (11, 12), (11, 13), (11, 14), (11, 15), (11, 16), (11, 17), (11, 18)] m tg F F14 := Fq_t (ln := ln) (ln1 := ln) hM11 Ex_r hM16 (by decide) (Or.inl rfl)
    refine Or.inl ⟨rfl, ?_⟩
    refine jx_rt (v := none) rfl rfl rfl rfl rfl rfl ?_
    have q20 : F14 (me) (8 : Int) = (F (me) (8 : Int) + 1) := ((show F14 (me) (8 : Int) = F9 (me) (8 : Int) from hM16 _ _ o_me (own_z o_me) (by rw [t_me]; rfl)).trans (show F9 (me) (8 : Int) = (F (me) (8 : Int) + 1) from by rw [eF9]; exact uF_e))
    have q21 := tz_b (F14 (me) (15 : Int))
    have q22 := lz_b (F14 (me) (14 : Int))
    exact ⟨F14, rfl, rfl, hC15, hM19, by omega, by omega, by omega, trivial⟩
set_option maxRecDepth 20000 in
set_option maxHeartbeats 4000000 in
theorem k_LScanner_nextLine {X : jX} {dd : Nat} {R : Nat → jC} {m : Nat} {tg ln : Int → Int} {F : Int → Int → Int} {me : Int} (hd : 2 ≤ dd) (hC : HC 0 m tg ln F) (o_me : own m me) (t_me : tg me = 11) (p_0 : F me (8 : Int) ≤ F me (7 : Int)) : wk X dd 208 [rv me] (cV R m tg ln F) (fun o V_q => ∃ (F_q : Int → Int → Int), V_q = cV R m tg ln F_q ∧ o = .inl none ∧ HC 0 m tg ln F_q ∧ Fq 0 [(11, 8), (11, 12), (11, 13), (11, 14), (11, 15), (11, 16), (11, 17), (11, 18)] m tg F F_q ∧ (F_q me (8 : Int) = F me (8 : Int) + 1) ∧ (F_q me (8 : Int) + 2 * tz (F_q me (15 : Int)) ≤ F me (7 : Int) + 1) ∧ (F_q me (8 : Int) + 2 * lz (F_q me (14 : Int)) ≤ F me (7 : Int) + 1) ∧ True) := by
  obtain ⟨d, rfl⟩ : ∃ d, dd = d + 1 := ⟨dd - 1, by omega⟩
  refine wk_of (e := jm208) rfl (by rw [jS_r, jS_0]; exact Nat.le_of_ble_eq_true rfl) ?_
  rw [la_r, la_0]
  show wj X d jm208 (0, [(0, rv (me))], [], cV R m tg ln F) _
  have hM0 : Fq 0 [(11, 8), (11, 12), (11, 13), (11, 14), (11, 15), (11, 16), (11, 17), (11, 18)] m tg F F := Fq_r
  obtain ⟨L0, eL0⟩ : ∃ q : jL, q = [(0, rv (me))] := ⟨_, rfl⟩
  rw [← eL0]
  have g1 : jGet L0 0 = some (rv (me)) := eL0 ▸ (rfl : jGet [(0, rv (me))] 0 = some (rv (me)))
  clear eL0
  have cb : (0 : Int) ≤ F me (7 : Int) ∧ F me (7 : Int) ≤ 1000000 := HC_i (c := 10) (q := 7) hC o_me t_me (by decide) rfl
  refine jx_ld (pc_q := 1) (l_q := L0) (st_q := [rv (me)]) rfl (jl_rvn g1) ?_
  refine jx_ar (pc_q := 2) (st_q := [rv (me), rv (me)]) rfl rfl ja_dup rfl ?_
  refine cx_gi (pc_q := 5) (c := 10) (q := 8) (v := F (me) (8 : Int)) rfl rfl (by decide) (by decide) (Or.inl rfl) rfl o_me t_me rfl ?_
  have b2 : (-1 : Int) ≤ F (me) (8 : Int) ∧ F (me) (8 : Int) ≤ 1000002 := by have z := HC_i (c := 10) (q := 8) hC o_me t_me (by decide) rfl; rw [show F (me) ((8 : Nat) : Int) = F (me) (8 : Int) from rfl] at z; exact z
  refine jx_ar (pc_q := 6) (st_q := [.int (i32 (1)), .int (i32 (F (me) (8 : Int))), rv (me)]) rfl rfl rfl rfl ?_
  refine jx_add (pc_q := 7) rfl rfl ?_
  refine cx_pi (pc_q := 10) (c := 10) (q := 8) (qi := (8 : Int)) (z := (F (me) (8 : Int) + 1)) rfl rfl (by decide) (by decide) rfl rfl rfl (by decide) rfl o_me t_me rfl ?_
  obtain ⟨F3, eF3⟩ : ∃ q, q = uF F (me) (8 : Int) ((F (me) (8 : Int) + 1)) := ⟨_, rfl⟩
  rw [← eF3]
  have hC4 : HC 0 m tg ln F3 := by rw [eF3]; exact HC_fi (c := 10) (q := 8) hC t_me (by decide) rfl (by omega) (by omega) ⟨fun _ => ⟨fun w1 w2 => absurd w2 (by omega), fun w => absurd w (by decide)⟩, fun w => absurd w (by decide)⟩
  have hM5 : Fq 0 [(11, 8), (11, 12), (11, 13), (11, 14), (11, 15), (11, 16), (11, 17), (11, 18)] m tg F F3 := by rw [eF3]; exact Fq_p hM0 t_me (fun _ => rfl) rfl
  refine jx_ld (pc_q := 11) (l_q := L0) (st_q := [rv (me)]) rfl (jl_rvn g1) ?_
  have q6 : F3 (me) (8 : Int) = (F (me) (8 : Int) + 1) := (show F3 (me) (8 : Int) = (F (me) (8 : Int) + 1) from by rw [eF3]; exact uF_e)
  have q7 : F3 (me) (7 : Int) = F (me) (7 : Int) := (show F3 (me) (7 : Int) = F (me) (7 : Int) from by rw [eF3]; exact uF_j (by decide))
  refine cx_vi (c := 10) (a := me) (st := []) (as := []) rfl rfl rfl o_me t_me (by decide) rfl ⟨rfl, rfl, (Nat.le_of_ble_eq_true rfl)⟩ rfl (k_LScanner_load (dd := d) (R := R) (m := m) (tg := tg) (ln := ln) (F := F3) (me := me) (hd := by omega) (hC := hC4) (o_me := o_me) (t_me := t_me) (p_0 := by omega)) (fun o V_q hq => ?_)
  obtain ⟨F8, rfl, rfl, hC9, hM10, p11, p12, -⟩ := hq
  have hM13 : Fq 0 [(11, 8), (11, 12), (11, 13), (11, 14), (11, 15), (11, 16), (11, 17), (11, 18)] m tg F F8 := Fq_t (ln := ln) (ln1 := ln) hM5 Ex_r hM10 (by decide) (Or.inl rfl)
  refine Or.inl ⟨rfl, ?_⟩
  refine jx_rt (v := none) rfl rfl rfl rfl rfl rfl ?_
  have q14 : F8 (me) (8 : Int) = (F (me) (8 : Int) + 1) := ((show F8 (me) (8 : Int) = F3 (me) (8 : Int) from hM10 _ _ o_me (own_z o_me) (by rw [t_me]; rfl)).trans (show F3 (me) (8 : Int) = (F (me) (8 : Int) + 1) from by rw [eF3]; exact uF_e))
  have q15 := tz_b (F8 (me) (15 : Int))
  have q16 := lz_b (F8 (me) (14 : Int))
  exact ⟨F8, rfl, rfl, hC9, hM13, by omega, by omega, by omega, trivial⟩
set_option maxRecDepth 20000 in
set_option maxHeartbeats 4000000 in
theorem k_LScanner_isOp2 {X : jX} {dd : Nat} {R : Nat → jC} {m : Nat} {tg ln : Int → Int} {F : Int → Int → Int} {me : Int} (hd : 1 ≤ dd) (hC : HC 0 m tg ln F) (o_me : own m me) (t_me : tg me = 11) : wk X dd 210 [rv me] (cV R m tg ln F) (fun o V_q => ∃ (r : Int), V_q = cV R m tg ln F ∧ o = .inl (some (.int (i32 r))) ∧ (0 ≤ r ∧ r ≤ 1) ∧ (r ≤ tz (F me (15 : Int))) ∧ True) := by
  obtain ⟨d, rfl⟩ : ∃ d, dd = d + 1 := ⟨dd - 1, by omega⟩
  refine wk_of (e := jm210) rfl (by rw [jS_r, jS_0]; exact Nat.le_of_ble_eq_true rfl) ?_
  rw [la_r, la_0]
  show wj X d jm210 (0, [(0, rv (me))], [], cV R m tg ln F) _
  obtain ⟨L0, eL0⟩ : ∃ q : jL, q = [(0, rv (me))] := ⟨_, rfl⟩
  rw [← eL0]
  have g1 : jGet L0 0 = some (rv (me)) := eL0 ▸ (rfl : jGet [(0, rv (me))] 0 = some (rv (me)))
  clear eL0
  have tf := tz_f (F me (15 : Int))
  refine jx_ld (pc_q := 1) (l_q := L0) (st_q := [rv (me)]) rfl (jl_rvn g1) ?_
  refine cx_gi (pc_q := 4) (c := 10) (q := 15) (v := F (me) (15 : Int)) rfl rfl (by decide) (by decide) (Or.inl rfl) rfl o_me t_me rfl ?_
  have b2 : (-2147483648 : Int) ≤ F (me) (15 : Int) ∧ F (me) (15 : Int) ≤ 2147483647 := by have z := HC_i (c := 10) (q := 15) hC o_me t_me (by decide) rfl; rw [show F (me) ((15 : Nat) : Int) = F (me) (15 : Int) from rfl] at z; exact z
  refine jx_ar (pc_q := 6) (st_q := [.int (i32 (41)), .int (i32 (F (me) (15 : Int)))]) rfl rfl rfl rfl ?_
  refine jx_icmp_lt (pc_q := 9) (tg := 18) rfl rfl rfl (by omega) (by omega) (by decide) (by decide) (fun h3 => ?_) (fun h3 => ?_)
  · have _q := h3
    refine jx_ld (pc_q := 19) (l_q := L0) (st_q := [rv (me)]) rfl (jl_rvn g1) ?_
    refine cx_gi (pc_q := 22) (c := 10) (q := 15) (v := F (me) (15 : Int)) rfl rfl (by decide) (by decide) (Or.inl rfl) rfl o_me t_me rfl ?_
    refine jx_ar (pc_q := 24) (st_q := [.int (i32 (58)), .int (i32 (F (me) (15 : Int)))]) rfl rfl rfl rfl ?_
    refine jx_icmp_lt (pc_q := 27) (tg := 36) rfl rfl rfl (by omega) (by omega) (by decide) (by decide) (fun h4 => ?_) (fun h4 => ?_)
    · have _q := h4
      refine jx_ld (pc_q := 37) (l_q := L0) (st_q := [rv (me)]) rfl (jl_rvn g1) ?_
      refine cx_gi (pc_q := 40) (c := 10) (q := 15) (v := F (me) (15 : Int)) rfl rfl (by decide) (by decide) (Or.inl rfl) rfl o_me t_me rfl ?_
      refine jx_ar (pc_q := 42) (st_q := [.int (i32 (26)), .int (i32 (F (me) (15 : Int)))]) rfl rfl rfl rfl ?_
      refine jx_icmp_eq (pc_q := 45) (tg := 54) rfl rfl rfl (by omega) (by omega) (by decide) (by decide) (fun h5 => ?_) (fun h5 => ?_)
      · have _q := h5
        have t6 : tz (F (me) (15 : Int)) = 1 := tz_p (by omega)
        refine jx_ar (pc_q := 55) (st_q := [.int (i32 (1))]) rfl rfl rfl rfl ?_
        refine jx_go (tg := 59) rfl rfl ?_
        refine jx_rt (v := some (.int (i32 (1)))) rfl rfl rfl rfl rfl (by first | rfl | exact jRet_b (by omega)) ?_
        exact ⟨(1), rfl, rfl, by omega, by omega, trivial⟩
      · have _q := h5
        refine jx_ld (pc_q := 46) (l_q := L0) (st_q := [rv (me)]) rfl (jl_rvn g1) ?_
        refine cx_gi (pc_q := 49) (c := 10) (q := 15) (v := F (me) (15 : Int)) rfl rfl (by decide) (by decide) (Or.inl rfl) rfl o_me t_me rfl ?_
        refine jx_ar (pc_q := 51) (st_q := [.int (i32 (27)), .int (i32 (F (me) (15 : Int)))]) rfl rfl rfl rfl ?_
        refine jx_icmp_ne (pc_q := 54) (tg := 58) rfl rfl rfl (by omega) (by omega) (by decide) (by decide) (fun h7 => ?_) (fun h7 => ?_)
        · have _q := h7
          refine jx_ar (pc_q := 59) (st_q := [.int (i32 (0))]) rfl rfl rfl rfl ?_
          refine jx_rt (v := some (.int (i32 (0)))) rfl rfl rfl rfl rfl (by first | rfl | exact jRet_b (by omega)) ?_
          exact ⟨(0), rfl, rfl, by omega, by omega, trivial⟩
        · have _q := h7
          have t8 : tz (F (me) (15 : Int)) = 1 := tz_p (by omega)
          refine jx_ar (pc_q := 55) (st_q := [.int (i32 (1))]) rfl rfl rfl rfl ?_
          refine jx_go (tg := 59) rfl rfl ?_
          refine jx_rt (v := some (.int (i32 (1)))) rfl rfl rfl rfl rfl (by first | rfl | exact jRet_b (by omega)) ?_
          exact ⟨(1), rfl, rfl, by omega, by omega, trivial⟩
    · have _q := h4
      refine jx_ld (pc_q := 28) (l_q := L0) (st_q := [rv (me)]) rfl (jl_rvn g1) ?_
      refine cx_gi (pc_q := 31) (c := 10) (q := 15) (v := F (me) (15 : Int)) rfl rfl (by decide) (by decide) (Or.inl rfl) rfl o_me t_me rfl ?_
      refine jx_ar (pc_q := 33) (st_q := [.int (i32 (65)), .int (i32 (F (me) (15 : Int)))]) rfl rfl rfl rfl ?_
      refine jx_icmp_le (pc_q := 36) (tg := 54) rfl rfl rfl (by omega) (by omega) (by decide) (by decide) (fun h9 => ?_) (fun h9 => ?_)
      · have _q := h9
        refine jx_ar (pc_q := 55) (st_q := [.int (i32 (1))]) rfl rfl rfl rfl ?_
        refine jx_go (tg := 59) rfl rfl ?_
        refine jx_rt (v := some (.int (i32 (1)))) rfl rfl rfl rfl rfl (by first | rfl | exact jRet_b (by omega)) ?_
        exact ⟨(1), rfl, rfl, by omega, by omega, trivial⟩
      · have _q := h9
        refine jx_ld (pc_q := 37) (l_q := L0) (st_q := [rv (me)]) rfl (jl_rvn g1) ?_
        refine cx_gi (pc_q := 40) (c := 10) (q := 15) (v := F (me) (15 : Int)) rfl rfl (by decide) (by decide) (Or.inl rfl) rfl o_me t_me rfl ?_
        refine jx_ar (pc_q := 42) (st_q := [.int (i32 (26)), .int (i32 (F (me) (15 : Int)))]) rfl rfl rfl rfl ?_
        refine jx_icmp_eq (pc_q := 45) (tg := 54) rfl rfl rfl (by omega) (by omega) (by decide) (by decide) (fun h10 => ?_) (fun h10 => ?_)
        · have _q := h10
          have t11 : tz (F (me) (15 : Int)) = 1 := tz_p (by omega)
          refine jx_ar (pc_q := 55) (st_q := [.int (i32 (1))]) rfl rfl rfl rfl ?_
          refine jx_go (tg := 59) rfl rfl ?_
          refine jx_rt (v := some (.int (i32 (1)))) rfl rfl rfl rfl rfl (by first | rfl | exact jRet_b (by omega)) ?_
          exact ⟨(1), rfl, rfl, by omega, by omega, trivial⟩
        · have _q := h10
          refine jx_ld (pc_q := 46) (l_q := L0) (st_q := [rv (me)]) rfl (jl_rvn g1) ?_
          refine cx_gi (pc_q := 49) (c := 10) (q := 15) (v := F (me) (15 : Int)) rfl rfl (by decide) (by decide) (Or.inl rfl) rfl o_me t_me rfl ?_
          refine jx_ar (pc_q := 51) (st_q := [.int (i32 (27)), .int (i32 (F (me) (15 : Int)))]) rfl rfl rfl rfl ?_
          refine jx_icmp_ne (pc_q := 54) (tg := 58) rfl rfl rfl (by omega) (by omega) (by decide) (by decide) (fun h12 => ?_) (fun h12 => ?_)
          · have _q := h12
            refine jx_ar (pc_q := 59) (st_q := [.int (i32 (0))]) rfl rfl rfl rfl ?_
            refine jx_rt (v := some (.int (i32 (0)))) rfl rfl rfl rfl rfl (by first | rfl | exact jRet_b (by omega)) ?_
            exact ⟨(0), rfl, rfl, by omega, by omega, trivial⟩
          · have _q := h12
            have t13 : tz (F (me) (15 : Int)) = 1 := tz_p (by omega)
            refine jx_ar (pc_q := 55) (st_q := [.int (i32 (1))]) rfl rfl rfl rfl ?_
            refine jx_go (tg := 59) rfl rfl ?_
            refine jx_rt (v := some (.int (i32 (1)))) rfl rfl rfl rfl rfl (by first | rfl | exact jRet_b (by omega)) ?_
            exact ⟨(1), rfl, rfl, by omega, by omega, trivial⟩
  · have _q := h3
    refine jx_ld (pc_q := 10) (l_q := L0) (st_q := [rv (me)]) rfl (jl_rvn g1) ?_
    refine cx_gi (pc_q := 13) (c := 10) (q := 15) (v := F (me) (15 : Int)) rfl rfl (by decide) (by decide) (Or.inl rfl) rfl o_me t_me rfl ?_
    refine jx_ar (pc_q := 15) (st_q := [.int (i32 (47)), .int (i32 (F (me) (15 : Int)))]) rfl rfl rfl rfl ?_
    refine jx_icmp_le (pc_q := 18) (tg := 54) rfl rfl rfl (by omega) (by omega) (by decide) (by decide) (fun h14 => ?_) (fun h14 => ?_)
    · have _q := h14
      refine jx_ar (pc_q := 55) (st_q := [.int (i32 (1))]) rfl rfl rfl rfl ?_
      refine jx_go (tg := 59) rfl rfl ?_
      refine jx_rt (v := some (.int (i32 (1)))) rfl rfl rfl rfl rfl (by first | rfl | exact jRet_b (by omega)) ?_
      exact ⟨(1), rfl, rfl, by omega, by omega, trivial⟩
    · have _q := h14
      refine jx_ld (pc_q := 19) (l_q := L0) (st_q := [rv (me)]) rfl (jl_rvn g1) ?_
      refine cx_gi (pc_q := 22) (c := 10) (q := 15) (v := F (me) (15 : Int)) rfl rfl (by decide) (by decide) (Or.inl rfl) rfl o_me t_me rfl ?_
      refine jx_ar (pc_q := 24) (st_q := [.int (i32 (58)), .int (i32 (F (me) (15 : Int)))]) rfl rfl rfl rfl ?_
      refine jx_icmp_lt (pc_q := 27) (tg := 36) rfl rfl rfl (by omega) (by omega) (by decide) (by decide) (fun h15 => ?_) (fun h15 => ?_)
      · have _q := h15
        refine jx_ld (pc_q := 37) (l_q := L0) (st_q := [rv (me)]) rfl (jl_rvn g1) ?_
        refine cx_gi (pc_q := 40) (c := 10) (q := 15) (v := F (me) (15 : Int)) rfl rfl (by decide) (by decide) (Or.inl rfl) rfl o_me t_me rfl ?_
        refine jx_ar (pc_q := 42) (st_q := [.int (i32 (26)), .int (i32 (F (me) (15 : Int)))]) rfl rfl rfl rfl ?_
        refine jx_icmp_eq (pc_q := 45) (tg := 54) rfl rfl rfl (by omega) (by omega) (by decide) (by decide) (fun h16 => ?_) (fun h16 => ?_)
        · have _q := h16
          have t17 : tz (F (me) (15 : Int)) = 1 := tz_p (by omega)
          refine jx_ar (pc_q := 55) (st_q := [.int (i32 (1))]) rfl rfl rfl rfl ?_
          refine jx_go (tg := 59) rfl rfl ?_
          refine jx_rt (v := some (.int (i32 (1)))) rfl rfl rfl rfl rfl (by first | rfl | exact jRet_b (by omega)) ?_
          exact ⟨(1), rfl, rfl, by omega, by omega, trivial⟩
        · have _q := h16
          refine jx_ld (pc_q := 46) (l_q := L0) (st_q := [rv (me)]) rfl (jl_rvn g1) ?_
          refine cx_gi (pc_q := 49) (c := 10) (q := 15) (v := F (me) (15 : Int)) rfl rfl (by decide) (by decide) (Or.inl rfl) rfl o_me t_me rfl ?_
          refine jx_ar (pc_q := 51) (st_q := [.int (i32 (27)), .int (i32 (F (me) (15 : Int)))]) rfl rfl rfl rfl ?_
          refine jx_icmp_ne (pc_q := 54) (tg := 58) rfl rfl rfl (by omega) (by omega) (by decide) (by decide) (fun h18 => ?_) (fun h18 => ?_)
          · have _q := h18
            refine jx_ar (pc_q := 59) (st_q := [.int (i32 (0))]) rfl rfl rfl rfl ?_
            refine jx_rt (v := some (.int (i32 (0)))) rfl rfl rfl rfl rfl (by first | rfl | exact jRet_b (by omega)) ?_
            exact ⟨(0), rfl, rfl, by omega, by omega, trivial⟩
          · have _q := h18
            have t19 : tz (F (me) (15 : Int)) = 1 := tz_p (by omega)
            refine jx_ar (pc_q := 55) (st_q := [.int (i32 (1))]) rfl rfl rfl rfl ?_
            refine jx_go (tg := 59) rfl rfl ?_
            refine jx_rt (v := some (.int (i32 (1)))) rfl rfl rfl rfl rfl (by first | rfl | exact jRet_b (by omega)) ?_
            exact ⟨(1), rfl, rfl, by omega, by omega, trivial⟩
      · have _q := h15
        refine jx_ld (pc_q := 28) (l_q := L0) (st_q := [rv (me)]) rfl (jl_rvn g1) ?_
        refine cx_gi (pc_q := 31) (c := 10) (q := 15) (v := F (me) (15 : Int)) rfl rfl (by decide) (by decide) (Or.inl rfl) rfl o_me t_me rfl ?_
        refine jx_ar (pc_q := 33) (st_q := [.int (i32 (65)), .int (i32 (F (me) (15 : Int)))]) rfl rfl rfl rfl ?_
        refine jx_icmp_le (pc_q := 36) (tg := 54) rfl rfl rfl (by omega) (by omega) (by decide) (by decide) (fun h20 => ?_) (fun h20 => ?_)
        · have _q := h20
          refine jx_ar (pc_q := 55) (st_q := [.int (i32 (1))]) rfl rfl rfl rfl ?_
          refine jx_go (tg := 59) rfl rfl ?_
          refine jx_rt (v := some (.int (i32 (1)))) rfl rfl rfl rfl rfl (by first | rfl | exact jRet_b (by omega)) ?_
          exact ⟨(1), rfl, rfl, by omega, by omega, trivial⟩
        · have _q := h20
          refine jx_ld (pc_q := 37) (l_q := L0) (st_q := [rv (me)]) rfl (jl_rvn g1) ?_
          refine cx_gi (pc_q := 40) (c := 10) (q := 15) (v := F (me) (15 : Int)) rfl rfl (by decide) (by decide) (Or.inl rfl) rfl o_me t_me rfl ?_
          refine jx_ar (pc_q := 42) (st_q := [.int (i32 (26)), .int (i32 (F (me) (15 : Int)))]) rfl rfl rfl rfl ?_
          refine jx_icmp_eq (pc_q := 45) (tg := 54) rfl rfl rfl (by omega) (by omega) (by decide) (by decide) (fun h21 => ?_) (fun h21 => ?_)
          · have _q := h21
            have t22 : tz (F (me) (15 : Int)) = 1 := tz_p (by omega)
            refine jx_ar (pc_q := 55) (st_q := [.int (i32 (1))]) rfl rfl rfl rfl ?_
            refine jx_go (tg := 59) rfl rfl ?_
            refine jx_rt (v := some (.int (i32 (1)))) rfl rfl rfl rfl rfl (by first | rfl | exact jRet_b (by omega)) ?_
            exact ⟨(1), rfl, rfl, by omega, by omega, trivial⟩
          · have _q := h21
            refine jx_ld (pc_q := 46) (l_q := L0) (st_q := [rv (me)]) rfl (jl_rvn g1) ?_
            refine cx_gi (pc_q := 49) (c := 10) (q := 15) (v := F (me) (15 : Int)) rfl rfl (by decide) (by decide) (Or.inl rfl) rfl o_me t_me rfl ?_
            refine jx_ar (pc_q := 51) (st_q := [.int (i32 (27)), .int (i32 (F (me) (15 : Int)))]) rfl rfl rfl rfl ?_
            refine jx_icmp_ne (pc_q := 54) (tg := 58) rfl rfl rfl (by omega) (by omega) (by decide) (by decide) (fun h23 => ?_) (fun h23 => ?_)
            · have _q := h23
              refine jx_ar (pc_q := 59) (st_q := [.int (i32 (0))]) rfl rfl rfl rfl ?_
              refine jx_rt (v := some (.int (i32 (0)))) rfl rfl rfl rfl rfl (by first | rfl | exact jRet_b (by omega)) ?_
              exact ⟨(0), rfl, rfl, by omega, by omega, trivial⟩
            · have _q := h23
              have t24 : tz (F (me) (15 : Int)) = 1 := tz_p (by omega)
              refine jx_ar (pc_q := 55) (st_q := [.int (i32 (1))]) rfl rfl rfl rfl ?_
              refine jx_go (tg := 59) rfl rfl ?_
              refine jx_rt (v := some (.int (i32 (1)))) rfl rfl rfl rfl rfl (by first | rfl | exact jRet_b (by omega)) ?_
              exact ⟨(1), rfl, rfl, by omega, by omega, trivial⟩
set_option maxRecDepth 20000 in
set_option maxHeartbeats 4000000 in
theorem k_LParser_fail {X : jX} {dd : Nat} {R : Nat → jC} {m : Nat} {tg ln : Int → Int} {F : Int → Int → Int} {me kd pl : Int} (hd : 1 ≤ dd) (hC : HC 0 m tg ln F) {sc pg : Int} (o_sc : own m sc) (t_sc : tg sc = 11) (e_sc : F me (1 : Int) = sc) (o_pg : own m pg) (t_pg : tg pg = 10) (e_pg : F me (0 : Int) = pg) (o_me : own m me) (t_me : tg me = 9) (h_kd : (-2147483648 : Int) ≤ kd ∧ kd ≤ 2147483647) (h_pl : (-2147483648 : Int) ≤ pl ∧ pl ≤ 2147483647) (p_0 : 1 ≤ kd) (p_1 : F sc (8 : Int) ≤ F sc (7 : Int) + 1) (c_NP : NP m tg F) : wk X dd 162 [rv me, .int (i32 kd), .int (i32 pl)] (cV R m tg ln F) (fun o V_q => (∃ (m_q : Nat) (tg_q ln_q : Int → Int) (F_q : Int → Int → Int), V_q = cV R m_q tg_q ln_q F_q ∧ o = .inl none ∧ Ex m tg ln m_q tg_q ln_q ∧ HC 0 m_q tg_q ln_q F_q ∧ Fq 0 [(10, 0), (10, 1), (10, 2)] m tg F F_q ∧ (False) ∧ (NP m_q tg_q F_q) ∧ (NM m m_q tg_q) ∧ True) ∨ (∃ (m_q : Nat) (tg_q ln_q : Int → Int) (F_q : Int → Int → Int) (x : Nat), V_q = cV R m_q tg_q ln_q F_q ∧ o = .inr x ∧ Ex m tg ln m_q tg_q ln_q ∧ HC 0 m_q tg_q ln_q F_q ∧ Fq 0 [(10, 0), (10, 1), (10, 2)] m tg F F_q ∧ (own m_q (x : Int)) ∧ (tg_q (x : Int) = 16) ∧ (F_q pg (0 : Int) ≠ 0) ∧ (szD m_q tg_q ln_q = szD m tg ln + 25 * ((m_q : Int) - (m : Int))) ∧ ((m_q : Int) ≤ (m : Int) + (F_q sc (8 : Int) - F sc (8 : Int)) + (1)) ∧ (F_q sc (8 : Int) ≤ F sc (7 : Int) + 1) ∧ (NP m_q tg_q F_q) ∧ (NM m m_q tg_q) ∧ True)) := by
  obtain ⟨d, rfl⟩ : ∃ d, dd = d + 1 := ⟨dd - 1, by omega⟩
  refine wk_of (e := jm162) rfl (by rw [jS_r, jS_i, jS_i, jS_0]; exact Nat.le_of_ble_eq_true rfl) ?_
  rw [la_r, la_i, la_i, la_0]
  show wj X d jm162 (0, [(0, rv (me)), (1, .int (i32 (kd))), (2, .int (i32 (pl)))], [], cV R m tg ln F) _
  have hM0 : Fq 0 [(10, 0), (10, 1), (10, 2)] m tg F F := Fq_r
  have hX0 : Ex m tg ln m tg ln := Ex_r
  obtain ⟨L0, eL0⟩ : ∃ q : jL, q = [(0, rv (me)), (1, .int (i32 (kd))), (2, .int (i32 (pl)))] := ⟨_, rfl⟩
  rw [← eL0]
  have g1 : jGet L0 0 = some (rv (me)) := eL0 ▸ (rfl : jGet [(0, rv (me)), (1, .int (i32 (kd))), (2, .int (i32 (pl)))] 0 = some (rv (me)))
  have g2 : jGet L0 1 = some (.int (i32 (kd))) := eL0 ▸ (rfl : jGet [(0, rv (me)), (1, .int (i32 (kd))), (2, .int (i32 (pl)))] 1 = some (.int (i32 (kd))))
  have g3 : jGet L0 2 = some (.int (i32 (pl))) := eL0 ▸ (rfl : jGet [(0, rv (me)), (1, .int (i32 (kd))), (2, .int (i32 (pl)))] 2 = some (.int (i32 (pl))))
  clear eL0
  have tb0 := tz_b (F sc (15 : Int))
  have lb0 := lz_b (F sc (14 : Int))
  have ob0 : (0 : Int) ≤ F me (3 : Int) ∧ F me (3 : Int) ≤ 8 := HC_i (c := 8) (q := 3) hC o_me t_me (by decide) rfl
  have tp0 : F me (2 : Int) < 64 + (m : Int) := by
    have z : F me (2 : Int) = 0 ∨ (own m (F me (2 : Int)) ∧ tg (F me (2 : Int)) = 7) := HC_r (c := 8) (q := 2) hC o_me t_me (by decide) rfl
    rcases z with w | w
    · omega
    · exact w.1.2.1
  refine jx_ld (pc_q := 1) (l_q := L0) (st_q := [rv (me)]) rfl (jl_rvn g1) ?_
  refine cx_gr (pc_q := 4) (c := 8) (q := 0) (v := pg) rfl rfl (by decide) (by decide) rfl rfl o_me t_me e_pg ?_
  refine jx_ld (pc_q := 5) (l_q := L0) (st_q := [.int (i32 (kd)), rv (pg)]) rfl (jl_iloadn g2) ?_
  refine cx_pi (pc_q := 8) (c := 9) (q := 0) (qi := (0 : Int)) (z := kd) rfl rfl (by decide) (by decide) rfl rfl rfl (by decide) rfl o_pg t_pg rfl ?_
  obtain ⟨F4, eF4⟩ : ∃ q, q = uF F (pg) (0 : Int) (kd) := ⟨_, rfl⟩
  rw [← eF4]
  have hC5 : HC 0 m tg ln F4 := by rw [eF4]; exact HC_fi (c := 9) (q := 0) hC t_pg (by decide) rfl (by omega) (by omega) ⟨fun w => absurd w (by decide), fun w => absurd w (by decide)⟩
  have hM6 : Fq 0 [(10, 0), (10, 1), (10, 2)] m tg F F4 := by rw [eF4]; exact Fq_p hM0 t_pg (fun w => (hX0.2 _ w).1) rfl
  have c7 : NP m tg F4 := by rw [eF4]; exact NP_u hC c_NP t_pg (by omega)
  refine jx_ld (pc_q := 9) (l_q := L0) (st_q := [rv (me)]) rfl (jl_rvn g1) ?_
  refine cx_gr (pc_q := 12) (c := 8) (q := 0) (v := pg) rfl rfl (by decide) (by decide) rfl rfl o_me t_me ((show F4 (me) (0 : Int) = F (me) (0 : Int) from by rw [eF4]; exact uF_a (fun w => by have q1 := t_me; have q2 := t_pg; rw [w, q2] at q1; exact absurd q1 (by decide))).trans e_pg) ?_
  refine jx_ld (pc_q := 13) (l_q := L0) (st_q := [rv (me), rv (pg)]) rfl (jl_rvn g1) ?_
  refine cx_gr (pc_q := 16) (c := 8) (q := 1) (v := sc) rfl rfl (by decide) (by decide) rfl rfl o_me t_me ((show F4 (me) (1 : Int) = F (me) (1 : Int) from by rw [eF4]; exact uF_j (by decide)).trans e_sc) ?_
  refine cx_gi (pc_q := 19) (c := 10) (q := 12) (v := F (sc) (12 : Int)) rfl rfl (by decide) (by decide) (Or.inr rfl) rfl o_sc t_sc (show F4 (sc) (12 : Int) = F (sc) (12 : Int) from by rw [eF4]; exact uF_j (by decide)) ?_
  have b8 : (0 : Int) ≤ F (sc) (12 : Int) ∧ F (sc) (12 : Int) ≤ 1 := by have z := HC_i (c := 10) (q := 12) hC5 o_sc t_sc (by decide) rfl; rw [show F4 (sc) ((12 : Nat) : Int) = F (sc) (12 : Int) from (show F4 (sc) (12 : Int) = F (sc) (12 : Int) from by rw [eF4]; exact uF_j (by decide))] at z; exact z
  refine jx_if_eq (pc_q := 22) (tg := 26) rfl rfl rfl (by omega) (by omega) (fun h9 => ?_) (fun h9 => ?_)
  · have _q := h9
    refine jx_ld (pc_q := 27) (l_q := L0) (st_q := [rv (me), rv (pg)]) rfl (jl_rvn g1) ?_
    refine cx_gr (pc_q := 30) (c := 8) (q := 1) (v := sc) rfl rfl (by decide) (by decide) rfl rfl o_me t_me ((show F4 (me) (1 : Int) = F (me) (1 : Int) from by rw [eF4]; exact uF_j (by decide)).trans e_sc) ?_
    refine cx_gi (pc_q := 33) (c := 10) (q := 13) (v := F (sc) (13 : Int)) rfl rfl (by decide) (by decide) (Or.inl rfl) rfl o_sc t_sc (show F4 (sc) (13 : Int) = F (sc) (13 : Int) from by rw [eF4]; exact uF_j (by decide)) ?_
    have b10 : (-2147483648 : Int) ≤ F (sc) (13 : Int) ∧ F (sc) (13 : Int) ≤ 2147483647 := by have z := HC_i (c := 10) (q := 13) hC5 o_sc t_sc (by decide) rfl; rw [show F4 (sc) ((13 : Nat) : Int) = F (sc) (13 : Int) from (show F4 (sc) (13 : Int) = F (sc) (13 : Int) from by rw [eF4]; exact uF_j (by decide))] at z; exact z
    refine cx_pi (pc_q := 36) (c := 9) (q := 1) (qi := (1 : Int)) (z := F (sc) (13 : Int)) rfl rfl (by decide) (by decide) rfl rfl rfl (by decide) rfl o_pg t_pg rfl ?_
    obtain ⟨F11, eF11⟩ : ∃ q, q = uF F4 (pg) (1 : Int) (F (sc) (13 : Int)) := ⟨_, rfl⟩
    rw [← eF11]
    have hC12 : HC 0 m tg ln F11 := by rw [eF11]; exact HC_fi (c := 9) (q := 1) hC5 t_pg (by decide) rfl (by omega) (by omega) ⟨fun w => absurd w (by decide), fun w => absurd w (by decide)⟩
    have hM13 : Fq 0 [(10, 0), (10, 1), (10, 2)] m tg F F11 := by rw [eF11]; exact Fq_p hM6 t_pg (fun w => (hX0.2 _ w).1) rfl
    have c14 : NP m tg F11 := by rw [eF11]; exact NP_u hC5 c7 t_pg (by omega)
    refine jx_ld (pc_q := 37) (l_q := L0) (st_q := [rv (me)]) rfl (jl_rvn g1) ?_
    refine cx_gr (pc_q := 40) (c := 8) (q := 0) (v := pg) rfl rfl (by decide) (by decide) rfl rfl o_me t_me (((show F11 (me) (0 : Int) = F4 (me) (0 : Int) from by rw [eF11]; exact uF_j (by decide)).trans (show F4 (me) (0 : Int) = F (me) (0 : Int) from by rw [eF4]; exact uF_a (fun w => by have q1 := t_me; have q2 := t_pg; rw [w, q2] at q1; exact absurd q1 (by decide)))).trans e_pg) ?_
    refine jx_ld (pc_q := 41) (l_q := L0) (st_q := [rv (me), rv (pg)]) rfl (jl_rvn g1) ?_
    refine cx_gr (pc_q := 44) (c := 8) (q := 1) (v := sc) rfl rfl (by decide) (by decide) rfl rfl o_me t_me (((show F11 (me) (1 : Int) = F4 (me) (1 : Int) from by rw [eF11]; exact uF_a (fun w => by have q1 := t_me; have q2 := t_pg; rw [w, q2] at q1; exact absurd q1 (by decide))).trans (show F4 (me) (1 : Int) = F (me) (1 : Int) from by rw [eF4]; exact uF_j (by decide))).trans e_sc) ?_
    refine cx_gi (pc_q := 47) (c := 10) (q := 12) (v := F (sc) (12 : Int)) rfl rfl (by decide) (by decide) (Or.inr rfl) rfl o_sc t_sc ((show F11 (sc) (12 : Int) = F4 (sc) (12 : Int) from by rw [eF11]; exact uF_j (by decide)).trans (show F4 (sc) (12 : Int) = F (sc) (12 : Int) from by rw [eF4]; exact uF_j (by decide))) ?_
    refine jx_if_eq (pc_q := 50) (tg := 54) rfl rfl rfl (by omega) (by omega) (fun h15 => ?_) (fun h15 => ?_)
    · have _q := h15
      refine jx_ld (pc_q := 55) (l_q := L0) (st_q := [.int (i32 (pl)), rv (pg)]) rfl (jl_iloadn g3) ?_
      refine cx_pi (pc_q := 58) (c := 9) (q := 2) (qi := (2 : Int)) (z := pl) rfl rfl (by decide) (by decide) rfl rfl rfl (by decide) rfl o_pg t_pg rfl ?_
      obtain ⟨F16, eF16⟩ : ∃ q, q = uF F11 (pg) (2 : Int) (pl) := ⟨_, rfl⟩
      rw [← eF16]
      have hC17 : HC 0 m tg ln F16 := by rw [eF16]; exact HC_fi (c := 9) (q := 2) hC12 t_pg (by decide) rfl (by omega) (by omega) ⟨fun w => absurd w (by decide), fun w => absurd w (by decide)⟩
      have hM18 : Fq 0 [(10, 0), (10, 1), (10, 2)] m tg F F16 := by rw [eF16]; exact Fq_p hM13 t_pg (fun w => (hX0.2 _ w).1) rfl
      have c19 : NP m tg F16 := by rw [eF16]; exact NP_u hC12 c14 t_pg (by omega)
      refine cx_thr2 (c := 15) rfl rfl rfl rfl ⟨by decide, by decide, (Nat.le_of_ble_eq_true rfl), rfl, rfl, rfl⟩ rfl rfl hC17 (fun x20 m20 tg20 ln20 F20 en20 em20 ho20 hx20 hC20 hf20 hs20 => ?_)
      have ex20 : 64 + (m : Int) ≤ (x20 : Int) := by have := hX0.1; omega
      have c21 : NM m m20 tg20 := NM_n NM_0 hC17.1 hx20 en20 em20 ho20.2 (by decide)
      have c22 : NP m20 tg20 F20 := NP_nn hC17 c19 hx20 en20 em20 (fun b i ob => hf20 b i (ne_n ob en20)) (fun w => absurd (ho20.2.symm.trans w) (by decide)) (fun w => absurd (ho20.2.symm.trans w) (by decide)) (fun w => absurd (ho20.2.symm.trans w) (by decide))
      have lm23 := hx20.1
      have q24 : F16 (sc) (8 : Int) = F (sc) (8 : Int) := ((show F16 (sc) (8 : Int) = F11 (sc) (8 : Int) from by rw [eF16]; exact uF_j (by decide)).trans ((show F11 (sc) (8 : Int) = F4 (sc) (8 : Int) from by rw [eF11]; exact uF_j (by decide)).trans (show F4 (sc) (8 : Int) = F (sc) (8 : Int) from by rw [eF4]; exact uF_j (by decide))))
      have q25 : F16 (sc) (7 : Int) = F (sc) (7 : Int) := ((show F16 (sc) (7 : Int) = F11 (sc) (7 : Int) from by rw [eF16]; exact uF_j (by decide)).trans ((show F11 (sc) (7 : Int) = F4 (sc) (7 : Int) from by rw [eF11]; exact uF_j (by decide)).trans (show F4 (sc) (7 : Int) = F (sc) (7 : Int) from by rw [eF4]; exact uF_j (by decide))))
      have q26 : F20 (sc) (8 : Int) = F (sc) (8 : Int) := (hf20 _ _ (ne_n o_sc en20)).trans ((show F16 (sc) (8 : Int) = F11 (sc) (8 : Int) from by rw [eF16]; exact uF_j (by decide)).trans ((show F11 (sc) (8 : Int) = F4 (sc) (8 : Int) from by rw [eF11]; exact uF_j (by decide)).trans (show F4 (sc) (8 : Int) = F (sc) (8 : Int) from by rw [eF4]; exact uF_j (by decide))))
      have q27 : F20 (sc) (7 : Int) = F (sc) (7 : Int) := (hf20 _ _ (ne_n o_sc en20)).trans ((show F16 (sc) (7 : Int) = F11 (sc) (7 : Int) from by rw [eF16]; exact uF_j (by decide)).trans ((show F11 (sc) (7 : Int) = F4 (sc) (7 : Int) from by rw [eF11]; exact uF_j (by decide)).trans (show F4 (sc) (7 : Int) = F (sc) (7 : Int) from by rw [eF4]; exact uF_j (by decide))))
      have q28 : F20 (pg) (0 : Int) = kd := (hf20 _ _ (ne_n o_pg en20)).trans ((show F16 (pg) (0 : Int) = F11 (pg) (0 : Int) from by rw [eF16]; exact uF_j (by decide)).trans ((show F11 (pg) (0 : Int) = F4 (pg) (0 : Int) from by rw [eF11]; exact uF_j (by decide)).trans (show F4 (pg) (0 : Int) = kd from by rw [eF4]; exact uF_e)))
      exact Or.inr ⟨m20, tg20, ln20, F20, x20, rfl, rfl, Ex_t hX0 hx20, hC20, Fq_n hM18 hf20 ex20, ho20.1, ho20.2, by omega, by omega, by omega, by omega, c22, c21, trivial⟩
    · have _q := h15
      refine jx_ar (pc_q := 51) (st_q := [.int (i32 (-1)), rv (pg)]) rfl rfl rfl rfl ?_
      refine jx_go (tg := 55) rfl rfl ?_
      refine cx_pi (pc_q := 58) (c := 9) (q := 2) (qi := (2 : Int)) (z := -1) rfl rfl (by decide) (by decide) rfl rfl rfl (by decide) rfl o_pg t_pg rfl ?_
      obtain ⟨F29, eF29⟩ : ∃ q, q = uF F11 (pg) (2 : Int) (-1) := ⟨_, rfl⟩
      rw [← eF29]
      have hC30 : HC 0 m tg ln F29 := by rw [eF29]; exact HC_fi (c := 9) (q := 2) hC12 t_pg (by decide) rfl (by omega) (by omega) ⟨fun w => absurd w (by decide), fun w => absurd w (by decide)⟩
      have hM31 : Fq 0 [(10, 0), (10, 1), (10, 2)] m tg F F29 := by rw [eF29]; exact Fq_p hM13 t_pg (fun w => (hX0.2 _ w).1) rfl
      have c32 : NP m tg F29 := by rw [eF29]; exact NP_u hC12 c14 t_pg (by omega)
      refine cx_thr2 (c := 15) rfl rfl rfl rfl ⟨by decide, by decide, (Nat.le_of_ble_eq_true rfl), rfl, rfl, rfl⟩ rfl rfl hC30 (fun x33 m33 tg33 ln33 F33 en33 em33 ho33 hx33 hC33 hf33 hs33 => ?_)
      have ex33 : 64 + (m : Int) ≤ (x33 : Int) := by have := hX0.1; omega
      have c34 : NM m m33 tg33 := NM_n NM_0 hC30.1 hx33 en33 em33 ho33.2 (by decide)
      have c35 : NP m33 tg33 F33 := NP_nn hC30 c32 hx33 en33 em33 (fun b i ob => hf33 b i (ne_n ob en33)) (fun w => absurd (ho33.2.symm.trans w) (by decide)) (fun w => absurd (ho33.2.symm.trans w) (by decide)) (fun w => absurd (ho33.2.symm.trans w) (by decide))
      have lm36 := hx33.1
      have q37 : F29 (sc) (8 : Int) = F (sc) (8 : Int) := ((show F29 (sc) (8 : Int) = F11 (sc) (8 : Int) from by rw [eF29]; exact uF_j (by decide)).trans ((show F11 (sc) (8 : Int) = F4 (sc) (8 : Int) from by rw [eF11]; exact uF_j (by decide)).trans (show F4 (sc) (8 : Int) = F (sc) (8 : Int) from by rw [eF4]; exact uF_j (by decide))))
      have q38 : F29 (sc) (7 : Int) = F (sc) (7 : Int) := ((show F29 (sc) (7 : Int) = F11 (sc) (7 : Int) from by rw [eF29]; exact uF_j (by decide)).trans ((show F11 (sc) (7 : Int) = F4 (sc) (7 : Int) from by rw [eF11]; exact uF_j (by decide)).trans (show F4 (sc) (7 : Int) = F (sc) (7 : Int) from by rw [eF4]; exact uF_j (by decide))))
      have q39 : F33 (sc) (8 : Int) = F (sc) (8 : Int) := (hf33 _ _ (ne_n o_sc en33)).trans ((show F29 (sc) (8 : Int) = F11 (sc) (8 : Int) from by rw [eF29]; exact uF_j (by decide)).trans ((show F11 (sc) (8 : Int) = F4 (sc) (8 : Int) from by rw [eF11]; exact uF_j (by decide)).trans (show F4 (sc) (8 : Int) = F (sc) (8 : Int) from by rw [eF4]; exact uF_j (by decide))))
      have q40 : F33 (sc) (7 : Int) = F (sc) (7 : Int) := (hf33 _ _ (ne_n o_sc en33)).trans ((show F29 (sc) (7 : Int) = F11 (sc) (7 : Int) from by rw [eF29]; exact uF_j (by decide)).trans ((show F11 (sc) (7 : Int) = F4 (sc) (7 : Int) from by rw [eF11]; exact uF_j (by decide)).trans (show F4 (sc) (7 : Int) = F (sc) (7 : Int) from by rw [eF4]; exact uF_j (by decide))))
      have q41 : F33 (pg) (0 : Int) = kd := (hf33 _ _ (ne_n o_pg en33)).trans ((show F29 (pg) (0 : Int) = F11 (pg) (0 : Int) from by rw [eF29]; exact uF_j (by decide)).trans ((show F11 (pg) (0 : Int) = F4 (pg) (0 : Int) from by rw [eF11]; exact uF_j (by decide)).trans (show F4 (pg) (0 : Int) = kd from by rw [eF4]; exact uF_e)))
      exact Or.inr ⟨m33, tg33, ln33, F33, x33, rfl, rfl, Ex_t hX0 hx33, hC33, Fq_n hM31 hf33 ex33, ho33.1, ho33.2, by omega, by omega, by omega, by omega, c35, c34, trivial⟩
  · have _q := h9
    refine jx_ar (pc_q := 23) (st_q := [.int (i32 (-1)), rv (pg)]) rfl rfl rfl rfl ?_
    refine jx_go (tg := 33) rfl rfl ?_
    refine cx_pi (pc_q := 36) (c := 9) (q := 1) (qi := (1 : Int)) (z := -1) rfl rfl (by decide) (by decide) rfl rfl rfl (by decide) rfl o_pg t_pg rfl ?_
    obtain ⟨F42, eF42⟩ : ∃ q, q = uF F4 (pg) (1 : Int) (-1) := ⟨_, rfl⟩
    rw [← eF42]
    have hC43 : HC 0 m tg ln F42 := by rw [eF42]; exact HC_fi (c := 9) (q := 1) hC5 t_pg (by decide) rfl (by omega) (by omega) ⟨fun w => absurd w (by decide), fun w => absurd w (by decide)⟩
    have hM44 : Fq 0 [(10, 0), (10, 1), (10, 2)] m tg F F42 := by rw [eF42]; exact Fq_p hM6 t_pg (fun w => (hX0.2 _ w).1) rfl
    have c45 : NP m tg F42 := by rw [eF42]; exact NP_u hC5 c7 t_pg (by omega)
    refine jx_ld (pc_q := 37) (l_q := L0) (st_q := [rv (me)]) rfl (jl_rvn g1) ?_
    refine cx_gr (pc_q := 40) (c := 8) (q := 0) (v := pg) rfl rfl (by decide) (by decide) rfl rfl o_me t_me (((show F42 (me) (0 : Int) = F4 (me) (0 : Int) from by rw [eF42]; exact uF_j (by decide)).trans (show F4 (me) (0 : Int) = F (me) (0 : Int) from by rw [eF4]; exact uF_a (fun w => by have q1 := t_me; have q2 := t_pg; rw [w, q2] at q1; exact absurd q1 (by decide)))).trans e_pg) ?_
    refine jx_ld (pc_q := 41) (l_q := L0) (st_q := [rv (me), rv (pg)]) rfl (jl_rvn g1) ?_
    refine cx_gr (pc_q := 44) (c := 8) (q := 1) (v := sc) rfl rfl (by decide) (by decide) rfl rfl o_me t_me (((show F42 (me) (1 : Int) = F4 (me) (1 : Int) from by rw [eF42]; exact uF_a (fun w => by have q1 := t_me; have q2 := t_pg; rw [w, q2] at q1; exact absurd q1 (by decide))).trans (show F4 (me) (1 : Int) = F (me) (1 : Int) from by rw [eF4]; exact uF_j (by decide))).trans e_sc) ?_
    refine cx_gi (pc_q := 47) (c := 10) (q := 12) (v := F (sc) (12 : Int)) rfl rfl (by decide) (by decide) (Or.inr rfl) rfl o_sc t_sc ((show F42 (sc) (12 : Int) = F4 (sc) (12 : Int) from by rw [eF42]; exact uF_j (by decide)).trans (show F4 (sc) (12 : Int) = F (sc) (12 : Int) from by rw [eF4]; exact uF_j (by decide))) ?_
    refine jx_if_eq (pc_q := 50) (tg := 54) rfl rfl rfl (by omega) (by omega) (fun h46 => ?_) (fun h46 => ?_)
    · have _q := h46
      refine jx_ld (pc_q := 55) (l_q := L0) (st_q := [.int (i32 (pl)), rv (pg)]) rfl (jl_iloadn g3) ?_
      refine cx_pi (pc_q := 58) (c := 9) (q := 2) (qi := (2 : Int)) (z := pl) rfl rfl (by decide) (by decide) rfl rfl rfl (by decide) rfl o_pg t_pg rfl ?_
      obtain ⟨F47, eF47⟩ : ∃ q, q = uF F42 (pg) (2 : Int) (pl) := ⟨_, rfl⟩
      rw [← eF47]
      have hC48 : HC 0 m tg ln F47 := by rw [eF47]; exact HC_fi (c := 9) (q := 2) hC43 t_pg (by decide) rfl (by omega) (by omega) ⟨fun w => absurd w (by decide), fun w => absurd w (by decide)⟩
      have hM49 : Fq 0 [(10, 0), (10, 1), (10, 2)] m tg F F47 := by rw [eF47]; exact Fq_p hM44 t_pg (fun w => (hX0.2 _ w).1) rfl
      have c50 : NP m tg F47 := by rw [eF47]; exact NP_u hC43 c45 t_pg (by omega)
      refine cx_thr2 (c := 15) rfl rfl rfl rfl ⟨by decide, by decide, (Nat.le_of_ble_eq_true rfl), rfl, rfl, rfl⟩ rfl rfl hC48 (fun x51 m51 tg51 ln51 F51 en51 em51 ho51 hx51 hC51 hf51 hs51 => ?_)
      have ex51 : 64 + (m : Int) ≤ (x51 : Int) := by have := hX0.1; omega
      have c52 : NM m m51 tg51 := NM_n NM_0 hC48.1 hx51 en51 em51 ho51.2 (by decide)
      have c53 : NP m51 tg51 F51 := NP_nn hC48 c50 hx51 en51 em51 (fun b i ob => hf51 b i (ne_n ob en51)) (fun w => absurd (ho51.2.symm.trans w) (by decide)) (fun w => absurd (ho51.2.symm.trans w) (by decide)) (fun w => absurd (ho51.2.symm.trans w) (by decide))
      have lm54 := hx51.1
      have q55 : F47 (sc) (8 : Int) = F (sc) (8 : Int) := ((show F47 (sc) (8 : Int) = F42 (sc) (8 : Int) from by rw [eF47]; exact uF_j (by decide)).trans ((show F42 (sc) (8 : Int) = F4 (sc) (8 : Int) from by rw [eF42]; exact uF_j (by decide)).trans (show F4 (sc) (8 : Int) = F (sc) (8 : Int) from by rw [eF4]; exact uF_j (by decide))))
      have q56 : F47 (sc) (7 : Int) = F (sc) (7 : Int) := ((show F47 (sc) (7 : Int) = F42 (sc) (7 : Int) from by rw [eF47]; exact uF_j (by decide)).trans ((show F42 (sc) (7 : Int) = F4 (sc) (7 : Int) from by rw [eF42]; exact uF_j (by decide)).trans (show F4 (sc) (7 : Int) = F (sc) (7 : Int) from by rw [eF4]; exact uF_j (by decide))))
      have q57 : F51 (sc) (8 : Int) = F (sc) (8 : Int) := (hf51 _ _ (ne_n o_sc en51)).trans ((show F47 (sc) (8 : Int) = F42 (sc) (8 : Int) from by rw [eF47]; exact uF_j (by decide)).trans ((show F42 (sc) (8 : Int) = F4 (sc) (8 : Int) from by rw [eF42]; exact uF_j (by decide)).trans (show F4 (sc) (8 : Int) = F (sc) (8 : Int) from by rw [eF4]; exact uF_j (by decide))))
      have q58 : F51 (sc) (7 : Int) = F (sc) (7 : Int) := (hf51 _ _ (ne_n o_sc en51)).trans ((show F47 (sc) (7 : Int) = F42 (sc) (7 : Int) from by rw [eF47]; exact uF_j (by decide)).trans ((show F42 (sc) (7 : Int) = F4 (sc) (7 : Int) from by rw [eF42]; exact uF_j (by decide)).trans (show F4 (sc) (7 : Int) = F (sc) (7 : Int) from by rw [eF4]; exact uF_j (by decide))))
      have q59 : F51 (pg) (0 : Int) = kd := (hf51 _ _ (ne_n o_pg en51)).trans ((show F47 (pg) (0 : Int) = F42 (pg) (0 : Int) from by rw [eF47]; exact uF_j (by decide)).trans ((show F42 (pg) (0 : Int) = F4 (pg) (0 : Int) from by rw [eF42]; exact uF_j (by decide)).trans (show F4 (pg) (0 : Int) = kd from by rw [eF4]; exact uF_e)))
      exact Or.inr ⟨m51, tg51, ln51, F51, x51, rfl, rfl, Ex_t hX0 hx51, hC51, Fq_n hM49 hf51 ex51, ho51.1, ho51.2, by omega, by omega, by omega, by omega, c53, c52, trivial⟩
    · have _q := h46
      refine jx_ar (pc_q := 51) (st_q := [.int (i32 (-1)), rv (pg)]) rfl rfl rfl rfl ?_
      refine jx_go (tg := 55) rfl rfl ?_
      refine cx_pi (pc_q := 58) (c := 9) (q := 2) (qi := (2 : Int)) (z := -1) rfl rfl (by decide) (by decide) rfl rfl rfl (by decide) rfl o_pg t_pg rfl ?_
      obtain ⟨F60, eF60⟩ : ∃ q, q = uF F42 (pg) (2 : Int) (-1) := ⟨_, rfl⟩
      rw [← eF60]
      have hC61 : HC 0 m tg ln F60 := by rw [eF60]; exact HC_fi (c := 9) (q := 2) hC43 t_pg (by decide) rfl (by omega) (by omega) ⟨fun w => absurd w (by decide), fun w => absurd w (by decide)⟩
      have hM62 : Fq 0 [(10, 0), (10, 1), (10, 2)] m tg F F60 := by rw [eF60]; exact Fq_p hM44 t_pg (fun w => (hX0.2 _ w).1) rfl
      have c63 : NP m tg F60 := by rw [eF60]; exact NP_u hC43 c45 t_pg (by omega)
      refine cx_thr2 (c := 15) rfl rfl rfl rfl ⟨by decide, by decide, (Nat.le_of_ble_eq_true rfl), rfl, rfl, rfl⟩ rfl rfl hC61 (fun x64 m64 tg64 ln64 F64 en64 em64 ho64 hx64 hC64 hf64 hs64 => ?_)
      have ex64 : 64 + (m : Int) ≤ (x64 : Int) := by have := hX0.1; omega
      have c65 : NM m m64 tg64 := NM_n NM_0 hC61.1 hx64 en64 em64 ho64.2 (by decide)
      have c66 : NP m64 tg64 F64 := NP_nn hC61 c63 hx64 en64 em64 (fun b i ob => hf64 b i (ne_n ob en64)) (fun w => absurd (ho64.2.symm.trans w) (by decide)) (fun w => absurd (ho64.2.symm.trans w) (by decide)) (fun w => absurd (ho64.2.symm.trans w) (by decide))
      have lm67 := hx64.1
      have q68 : F60 (sc) (8 : Int) = F (sc) (8 : Int) := ((show F60 (sc) (8 : Int) = F42 (sc) (8 : Int) from by rw [eF60]; exact uF_j (by decide)).trans ((show F42 (sc) (8 : Int) = F4 (sc) (8 : Int) from by rw [eF42]; exact uF_j (by decide)).trans (show F4 (sc) (8 : Int) = F (sc) (8 : Int) from by rw [eF4]; exact uF_j (by decide))))
      have q69 : F60 (sc) (7 : Int) = F (sc) (7 : Int) := ((show F60 (sc) (7 : Int) = F42 (sc) (7 : Int) from by rw [eF60]; exact uF_j (by decide)).trans ((show F42 (sc) (7 : Int) = F4 (sc) (7 : Int) from by rw [eF42]; exact uF_j (by decide)).trans (show F4 (sc) (7 : Int) = F (sc) (7 : Int) from by rw [eF4]; exact uF_j (by decide))))
      have q70 : F64 (sc) (8 : Int) = F (sc) (8 : Int) := (hf64 _ _ (ne_n o_sc en64)).trans ((show F60 (sc) (8 : Int) = F42 (sc) (8 : Int) from by rw [eF60]; exact uF_j (by decide)).trans ((show F42 (sc) (8 : Int) = F4 (sc) (8 : Int) from by rw [eF42]; exact uF_j (by decide)).trans (show F4 (sc) (8 : Int) = F (sc) (8 : Int) from by rw [eF4]; exact uF_j (by decide))))
      have q71 : F64 (sc) (7 : Int) = F (sc) (7 : Int) := (hf64 _ _ (ne_n o_sc en64)).trans ((show F60 (sc) (7 : Int) = F42 (sc) (7 : Int) from by rw [eF60]; exact uF_j (by decide)).trans ((show F42 (sc) (7 : Int) = F4 (sc) (7 : Int) from by rw [eF42]; exact uF_j (by decide)).trans (show F4 (sc) (7 : Int) = F (sc) (7 : Int) from by rw [eF4]; exact uF_j (by decide))))
      have q72 : F64 (pg) (0 : Int) = kd := (hf64 _ _ (ne_n o_pg en64)).trans ((show F60 (pg) (0 : Int) = F42 (pg) (0 : Int) from by rw [eF60]; exact uF_j (by decide)).trans ((show F42 (pg) (0 : Int) = F4 (pg) (0 : Int) from by rw [eF42]; exact uF_j (by decide)).trans (show F4 (pg) (0 : Int) = kd from by rw [eF4]; exact uF_e)))
      exact Or.inr ⟨m64, tg64, ln64, F64, x64, rfl, rfl, Ex_t hX0 hx64, hC64, Fq_n hM62 hf64 ex64, ho64.1, ho64.2, by omega, by omega, by omega, by omega, c66, c65, trivial⟩
set_option maxRecDepth 20000 in
set_option maxHeartbeats 4000000 in
theorem k_LParser_form {X : jX} {dd : Nat} {R : Nat → jC} {m : Nat} {tg ln : Int → Int} {F : Int → Int → Int} {me : Int} (hd : 2 ≤ dd) (hC : HC 0 m tg ln F) {sc pg : Int} (o_sc : own m sc) (t_sc : tg sc = 11) (e_sc : F me (1 : Int) = sc) (o_pg : own m pg) (t_pg : tg pg = 10) (e_pg : F me (0 : Int) = pg) (o_me : own m me) (t_me : tg me = 9) (p_0 : F sc (8 : Int) ≤ F sc (7 : Int) + 1) (c_NP : NP m tg F) : wk X dd 163 [rv me] (cV R m tg ln F) (fun o V_q => (∃ (m_q : Nat) (tg_q ln_q : Int → Int) (F_q : Int → Int → Int), V_q = cV R m_q tg_q ln_q F_q ∧ o = .inl none ∧ Ex m tg ln m_q tg_q ln_q ∧ HC 0 m_q tg_q ln_q F_q ∧ Fq 0 [(10, 0), (10, 1), (10, 2)] m tg F F_q ∧ (False) ∧ (NP m_q tg_q F_q) ∧ (NM m m_q tg_q) ∧ True) ∨ (∃ (m_q : Nat) (tg_q ln_q : Int → Int) (F_q : Int → Int → Int) (x : Nat), V_q = cV R m_q tg_q ln_q F_q ∧ o = .inr x ∧ Ex m tg ln m_q tg_q ln_q ∧ HC 0 m_q tg_q ln_q F_q ∧ Fq 0 [(10, 0), (10, 1), (10, 2)] m tg F F_q ∧ (own m_q (x : Int)) ∧ (tg_q (x : Int) = 16) ∧ (F_q pg (0 : Int) ≠ 0) ∧ (szD m_q tg_q ln_q = szD m tg ln + 25 * ((m_q : Int) - (m : Int))) ∧ ((m_q : Int) ≤ (m : Int) + (F_q sc (8 : Int) - F sc (8 : Int)) + (1)) ∧ (F_q sc (8 : Int) ≤ F sc (7 : Int) + 1) ∧ (NP m_q tg_q F_q) ∧ (NM m m_q tg_q) ∧ True)) := by
  obtain ⟨d, rfl⟩ : ∃ d, dd = d + 1 := ⟨dd - 1, by omega⟩
  refine wk_of (e := jm163) rfl (by rw [jS_r, jS_0]; exact Nat.le_of_ble_eq_true rfl) ?_
  rw [la_r, la_0]
  show wj X d jm163 (0, [(0, rv (me))], [], cV R m tg ln F) _
  have hM0 : Fq 0 [(10, 0), (10, 1), (10, 2)] m tg F F := Fq_r
  have hX0 : Ex m tg ln m tg ln := Ex_r
  obtain ⟨L0, eL0⟩ : ∃ q : jL, q = [(0, rv (me))] := ⟨_, rfl⟩
  rw [← eL0]
  have g1 : jGet L0 0 = some (rv (me)) := eL0 ▸ (rfl : jGet [(0, rv (me))] 0 = some (rv (me)))
  clear eL0
  have tb0 := tz_b (F sc (15 : Int))
  have lb0 := lz_b (F sc (14 : Int))
  have ob0 : (0 : Int) ≤ F me (3 : Int) ∧ F me (3 : Int) ≤ 8 := HC_i (c := 8) (q := 3) hC o_me t_me (by decide) rfl
  have tp0 : F me (2 : Int) < 64 + (m : Int) := by
    have z : F me (2 : Int) = 0 ∨ (own m (F me (2 : Int)) ∧ tg (F me (2 : Int)) = 7) := HC_r (c := 8) (q := 2) hC o_me t_me (by decide) rfl
    rcases z with w | w
    · omega
    · exact w.1.2.1
  refine jx_ld (pc_q := 1) (l_q := L0) (st_q := [rv (me)]) rfl (jl_rvn g1) ?_
  refine jx_ar (pc_q := 2) (st_q := [.int (i32 (1)), rv (me)]) rfl rfl rfl rfl ?_
  refine jx_ld (pc_q := 3) (l_q := L0) (st_q := [rv (me), .int (i32 (1)), rv (me)]) rfl (jl_rvn g1) ?_
  refine cx_gr (pc_q := 6) (c := 8) (q := 1) (v := sc) rfl rfl (by decide) (by decide) rfl rfl o_me t_me e_sc ?_
  refine cx_gi (pc_q := 9) (c := 10) (q := 16) (v := F (sc) (16 : Int)) rfl rfl (by decide) (by decide) (Or.inl rfl) rfl o_sc t_sc rfl ?_
  have b2 : (-2147483648 : Int) ≤ F (sc) (16 : Int) ∧ F (sc) (16 : Int) ≤ 2147483647 := by have z := HC_i (c := 10) (q := 16) hC o_sc t_sc (by decide) rfl; rw [show F (sc) ((16 : Nat) : Int) = F (sc) (16 : Int) from rfl] at z; exact z
  refine cx_vi (c := 8) (a := me) (st := []) (as := [.int (i32 (1)), .int (i32 (F (sc) (16 : Int)))]) rfl rfl rfl o_me t_me (by decide) rfl ⟨rfl, rfl, (Nat.le_of_ble_eq_true rfl)⟩ rfl (k_LParser_fail (dd := d) (R := R) (m := m) (tg := tg) (ln := ln) (F := F) (me := me) (kd := 1) (pl := F (sc) (16 : Int)) (hd := by omega) (hC := hC) (o_me := o_me) (t_me := t_me) (h_kd := by omega) (h_pl := by omega) (sc := sc) (pg := pg) (o_sc := o_sc) (t_sc := t_sc) (e_sc := e_sc) (o_pg := o_pg) (t_pg := t_pg) (e_pg := e_pg) (p_0 := by omega) (p_1 := by omega) (c_NP := c_NP)) (fun o V_q hq => ?_)
  obtain ⟨m3, tg3, ln3, F4, rfl, rfl, hx5, hC6, hM7, p8, c9, c10, -⟩ | ⟨m11, tg11, ln11, F11, x11, rfl, rfl, hx11, hC11, hM11, ho11, ht11, p12, p13, p14, p15, c16, c17, -⟩ := hq
  rotate_left
  ·
    have c18 : NM m m11 tg11 := NM_t NM_0 hx11 c17
    have lm19 := hx11.1
    refine Or.inr (Or.inr (Or.inr ⟨_, _, rfl, cx_exc (c := 15) ho11 ht11 (by decide), rfl, ?_⟩))
    exact Or.inr ⟨m11, tg11, ln11, F11, x11, rfl, rfl, Ex_t hX0 hx11, hC11, Fq_t (ln := ln) (ln1 := ln) hM0 hX0 hM11 (by decide) (Or.inl rfl), (And.intro ho11 ht11).1, (And.intro ho11 ht11).2, by omega, by omega, by omega, by omega, c16, c18, trivial⟩
  exact p8.elim
set_option maxRecDepth 20000 in
set_option maxHeartbeats 4000000 in
theorem k_LParser_expect {X : jX} {dd : Nat} {R : Nat → jC} {m : Nat} {tg ln : Int → Int} {F : Int → Int → Int} {me tk : Int} (hd : 3 ≤ dd) (hC : HC 0 m tg ln F) {sc pg : Int} (o_sc : own m sc) (t_sc : tg sc = 11) (e_sc : F me (1 : Int) = sc) (o_pg : own m pg) (t_pg : tg pg = 10) (e_pg : F me (0 : Int) = pg) (o_me : own m me) (t_me : tg me = 9) (h_tk : (-2147483648 : Int) ≤ tk ∧ tk ≤ 2147483647) (p_0 : F sc (8 : Int) + 2 * tz (F sc (15 : Int)) ≤ F sc (7 : Int) + 1) (p_1 : F sc (8 : Int) + 2 * lz (F sc (14 : Int)) ≤ F sc (7 : Int) + 1) (p_2 : F sc (8 : Int) ≤ F sc (7 : Int)) (p_3 : 1 ≤ tk) (c_NP : NP m tg F) : wk X dd 164 [rv me, .int (i32 tk)] (cV R m tg ln F) (fun o V_q => (∃ (m_q : Nat) (tg_q ln_q : Int → Int) (F_q : Int → Int → Int), V_q = cV R m_q tg_q ln_q F_q ∧ o = .inl none ∧ Ex m tg ln m_q tg_q ln_q ∧ HC 0 m_q tg_q ln_q F_q ∧ Fq 0 [(10, 0), (10, 1), (10, 2), (11, 8), (11, 12), (11, 13), (11, 14), (11, 15), (11, 16), (11, 17), (11, 18)] m tg F F_q ∧ (F_q sc (8 : Int) + 2 * tz (F_q sc (15 : Int)) ≤ F sc (7 : Int) + 1) ∧ (F_q sc (8 : Int) + 2 * lz (F_q sc (14 : Int)) ≤ F sc (7 : Int) + 1) ∧ (F_q sc (8 : Int) ≤ F sc (7 : Int)) ∧ (F_q sc (8 : Int) = F sc (8 : Int) + 1) ∧ (szD m_q tg_q ln_q = szD m tg ln + 25 * ((m_q : Int) - (m : Int))) ∧ ((m_q : Int) = (m : Int)) ∧ (F_q pg (9 : Int) ≤ F pg (9 : Int) + ((m_q : Int) - (m : Int))) ∧ (NP m_q tg_q F_q) ∧ (NM m m_q tg_q) ∧ True) ∨ (∃ (m_q : Nat) (tg_q ln_q : Int → Int) (F_q : Int → Int → Int) (x : Nat), V_q = cV R m_q tg_q ln_q F_q ∧ o = .inr x ∧ Ex m tg ln m_q tg_q ln_q ∧ HC 0 m_q tg_q ln_q F_q ∧ Fq 0 [(10, 0), (10, 1), (10, 2), (11, 8), (11, 12), (11, 13), (11, 14), (11, 15), (11, 16), (11, 17), (11, 18)] m tg F F_q ∧ (own m_q (x : Int)) ∧ (tg_q (x : Int) = 16) ∧ (F_q pg (0 : Int) ≠ 0) ∧ (szD m_q tg_q ln_q = szD m tg ln + 25 * ((m_q : Int) - (m : Int))) ∧ ((m_q : Int) ≤ (m : Int) + (F_q sc (8 : Int) - F sc (8 : Int)) + (1)) ∧ (F_q sc (8 : Int) ≤ F sc (7 : Int) + 1) ∧ (NP m_q tg_q F_q) ∧ (NM m m_q tg_q) ∧ True)) := by
  obtain ⟨d, rfl⟩ : ∃ d, dd = d + 1 := ⟨dd - 1, by omega⟩
  refine wk_of (e := jm164) rfl (by rw [jS_r, jS_i, jS_0]; exact Nat.le_of_ble_eq_true rfl) ?_
  rw [la_r, la_i, la_0]
  show wj X d jm164 (0, [(0, rv (me)), (1, .int (i32 (tk)))], [], cV R m tg ln F) _
  have hM0 : Fq 0 [(10, 0), (10, 1), (10, 2), (11, 8), (11, 12), (11, 13), (11, 14), (11, 15), (11, 16), (11, 17), (11, 18)] m tg F F := Fq_r
  have hX0 : Ex m tg ln m tg ln := Ex_r
  obtain ⟨L0, eL0⟩ : ∃ q : jL, q = [(0, rv (me)), (1, .int (i32 (tk)))] := ⟨_, rfl⟩
  rw [← eL0]
  have g1 : jGet L0 0 = some (rv (me)) := eL0 ▸ (rfl : jGet [(0, rv (me)), (1, .int (i32 (tk)))] 0 = some (rv (me)))
  have g2 : jGet L0 1 = some (.int (i32 (tk))) := eL0 ▸ (rfl : jGet [(0, rv (me)), (1, .int (i32 (tk)))] 1 = some (.int (i32 (tk))))
  clear eL0
  have tb0 := tz_b (F sc (15 : Int))
  have lb0 := lz_b (F sc (14 : Int))
  have ob0 : (0 : Int) ≤ F me (3 : Int) ∧ F me (3 : Int) ≤ 8 := HC_i (c := 8) (q := 3) hC o_me t_me (by decide) rfl
  have tp0 : F me (2 : Int) < 64 + (m : Int) := by
    have z : F me (2 : Int) = 0 ∨ (own m (F me (2 : Int)) ∧ tg (F me (2 : Int)) = 7) := HC_r (c := 8) (q := 2) hC o_me t_me (by decide) rfl
    rcases z with w | w
    · omega
    · exact w.1.2.1
  refine jx_ld (pc_q := 1) (l_q := L0) (st_q := [rv (me)]) rfl (jl_rvn g1) ?_
  refine cx_gr (pc_q := 4) (c := 8) (q := 1) (v := sc) rfl rfl (by decide) (by decide) rfl rfl o_me t_me e_sc ?_
  refine cx_gi (pc_q := 7) (c := 10) (q := 15) (v := F (sc) (15 : Int)) rfl rfl (by decide) (by decide) (Or.inl rfl) rfl o_sc t_sc rfl ?_
  have b3 : (-2147483648 : Int) ≤ F (sc) (15 : Int) ∧ F (sc) (15 : Int) ≤ 2147483647 := by have z := HC_i (c := 10) (q := 15) hC o_sc t_sc (by decide) rfl; rw [show F (sc) ((15 : Nat) : Int) = F (sc) (15 : Int) from rfl] at z; exact z
  refine jx_ld (pc_q := 8) (l_q := L0) (st_q := [.int (i32 (tk)), .int (i32 (F (sc) (15 : Int)))]) rfl (jl_iloadn g2) ?_
  refine jx_icmp_eq (pc_q := 11) (tg := 23) rfl rfl rfl (by omega) (by omega) (by omega) (by omega) (fun h4 => ?_) (fun h4 => ?_)
  · have _q := h4
    have t5 : tz (F (sc) (15 : Int)) = 1 := tz_p (by omega)
    refine jx_ld (pc_q := 24) (l_q := L0) (st_q := [rv (me)]) rfl (jl_rvn g1) ?_
    refine cx_gr (pc_q := 27) (c := 8) (q := 1) (v := sc) rfl rfl (by decide) (by decide) rfl rfl o_me t_me e_sc ?_
    have q6 := tz_b (F (sc) (15 : Int))
    have q7 := lz_b (F (sc) (14 : Int))
    refine cx_vi (c := 10) (a := sc) (st := []) (as := []) rfl rfl rfl o_sc t_sc (by decide) rfl ⟨rfl, rfl, (Nat.le_of_ble_eq_true rfl)⟩ rfl (k_LScanner_next (dd := d) (R := R) (m := m) (tg := tg) (ln := ln) (F := F) (me := sc) (hd := by omega) (hC := hC) (o_me := o_sc) (t_me := t_sc) (p_0 := by omega) (p_1 := by omega)) (fun o V_q hq => ?_)
    obtain ⟨F8, rfl, rfl, hC9, hM10, p11, p12, p13, -⟩ := hq
    have hM14 : Fq 0 [(10, 0), (10, 1), (10, 2), (11, 8), (11, 12), (11, 13), (11, 14), (11, 15), (11, 16), (11, 17), (11, 18)] m tg F F8 := Fq_t (ln := ln) (ln1 := ln) hM0 hX0 hM10 (by decide) (Or.inl rfl)
    have c15 : NP m tg F8 := NP_q hC c_NP hM10 rfl rfl
    refine Or.inl ⟨rfl, ?_⟩
    refine jx_rt (v := none) rfl rfl rfl rfl rfl rfl ?_
    have q16 : F8 (sc) (7 : Int) = F (sc) (7 : Int) := (show F8 (sc) (7 : Int) = F (sc) (7 : Int) from hM10 _ _ o_sc (own_z o_sc) (by rw [t_sc]; rfl))
    have q17 : F8 (pg) (9 : Int) = F (pg) (9 : Int) := (show F8 (pg) (9 : Int) = F (pg) (9 : Int) from hM10 _ _ o_pg (own_z o_pg) (by rw [t_pg]; rfl))
    have q18 := tz_b (F8 (sc) (15 : Int))
    have q19 := lz_b (F8 (sc) (14 : Int))
    have q20 : F8 (pg) (9 : Int) = F (pg) (9 : Int) := (show F8 (pg) (9 : Int) = F (pg) (9 : Int) from hM10 _ _ o_pg (own_z o_pg) (by rw [t_pg]; rfl))
    exact Or.inl ⟨m, tg, ln, F8, rfl, rfl, hX0, hC9, hM14, by omega, by omega, by omega, by omega, by omega, by omega, by omega, c15, NM_0, trivial⟩
  · have _q := h4
    refine jx_ld (pc_q := 12) (l_q := L0) (st_q := [rv (me)]) rfl (jl_rvn g1) ?_
    refine jx_ar (pc_q := 13) (st_q := [.int (i32 (1)), rv (me)]) rfl rfl rfl rfl ?_
    refine jx_ld (pc_q := 14) (l_q := L0) (st_q := [rv (me), .int (i32 (1)), rv (me)]) rfl (jl_rvn g1) ?_
    refine cx_gr (pc_q := 17) (c := 8) (q := 1) (v := sc) rfl rfl (by decide) (by decide) rfl rfl o_me t_me e_sc ?_
    refine cx_gi (pc_q := 20) (c := 10) (q := 16) (v := F (sc) (16 : Int)) rfl rfl (by decide) (by decide) (Or.inl rfl) rfl o_sc t_sc rfl ?_
    have b21 : (-2147483648 : Int) ≤ F (sc) (16 : Int) ∧ F (sc) (16 : Int) ≤ 2147483647 := by have z := HC_i (c := 10) (q := 16) hC o_sc t_sc (by decide) rfl; rw [show F (sc) ((16 : Nat) : Int) = F (sc) (16 : Int) from rfl] at z; exact z
    refine cx_vi (c := 8) (a := me) (st := []) (as := [.int (i32 (1)), .int (i32 (F (sc) (16 : Int)))]) rfl rfl rfl o_me t_me (by decide) rfl ⟨rfl, rfl, (Nat.le_of_ble_eq_true rfl)⟩ rfl (k_LParser_fail (dd := d) (R := R) (m := m) (tg := tg) (ln := ln) (F := F) (me := me) (kd := 1) (pl := F (sc) (16 : Int)) (hd := by omega) (hC := hC) (o_me := o_me) (t_me := t_me) (h_kd := by omega) (h_pl := by omega) (sc := sc) (pg := pg) (o_sc := o_sc) (t_sc := t_sc) (e_sc := e_sc) (o_pg := o_pg) (t_pg := t_pg) (e_pg := e_pg) (p_0 := by omega) (p_1 := by omega) (c_NP := c_NP)) (fun o V_q hq => ?_)
    obtain ⟨m22, tg22, ln22, F23, rfl, rfl, hx24, hC25, hM26, p27, c28, c29, -⟩ | ⟨m30, tg30, ln30, F30, x30, rfl, rfl, hx30, hC30, hM30, ho30, ht30, p31, p32, p33, p34, c35, c36, -⟩ := hq
    rotate_left
    ·
      have c37 : NM m m30 tg30 := NM_t NM_0 hx30 c36
      have lm38 := hx30.1
      refine Or.inr (Or.inr (Or.inr ⟨_, _, rfl, cx_exc (c := 15) ho30 ht30 (by decide), rfl, ?_⟩))
      exact Or.inr ⟨m30, tg30, ln30, F30, x30, rfl, rfl, Ex_t hX0 hx30, hC30, Fq_t (ln := ln) (ln1 := ln) hM0 hX0 hM30 (by decide) (Or.inl rfl), (And.intro ho30 ht30).1, (And.intro ho30 ht30).2, by omega, by omega, by omega, by omega, c35, c37, trivial⟩
    exact p27.elim
set_option maxRecDepth 20000 in
set_option maxHeartbeats 4000000 in
theorem k_LParser_needLevel {X : jX} {dd : Nat} {R : Nat → jC} {m : Nat} {tg ln : Int → Int} {F : Int → Int → Int} {me lv : Int} (hd : 3 ≤ dd) (hC : HC 0 m tg ln F) {sc pg : Int} (o_sc : own m sc) (t_sc : tg sc = 11) (e_sc : F me (1 : Int) = sc) (o_pg : own m pg) (t_pg : tg pg = 10) (e_pg : F me (0 : Int) = pg) (o_me : own m me) (t_me : tg me = 9) (h_lv : (-2147483648 : Int) ≤ lv ∧ lv ≤ 2147483647) (p_0 : F sc (8 : Int) + 2 * tz (F sc (15 : Int)) ≤ F sc (7 : Int) + 1) (p_1 : F sc (8 : Int) + 2 * lz (F sc (14 : Int)) ≤ F sc (7 : Int) + 1) (p_2 : 0 ≤ lv) (c_NP : NP m tg F) : wk X dd 165 [rv me, .int (i32 lv)] (cV R m tg ln F) (fun o V_q => (∃ (m_q : Nat) (tg_q ln_q : Int → Int) (F_q : Int → Int → Int), V_q = cV R m_q tg_q ln_q F_q ∧ o = .inl none ∧ Ex m tg ln m_q tg_q ln_q ∧ HC 0 m_q tg_q ln_q F_q ∧ Fq 0 [(10, 0), (10, 1), (10, 2)] m tg F F_q ∧ (F_q sc (8 : Int) + 2 * tz (F_q sc (15 : Int)) ≤ F sc (7 : Int) + 1) ∧ (F_q sc (8 : Int) + 2 * lz (F_q sc (14 : Int)) ≤ F sc (7 : Int) + 1) ∧ (F_q sc (8 : Int) = F sc (8 : Int)) ∧ (szD m_q tg_q ln_q = szD m tg ln + 25 * ((m_q : Int) - (m : Int))) ∧ ((m_q : Int) = (m : Int)) ∧ (F_q pg (9 : Int) ≤ F pg (9 : Int) + ((m_q : Int) - (m : Int))) ∧ (F sc (14 : Int) = lv) ∧ (lz (F sc (14 : Int)) = 1) ∧ (lv ≤ 15) ∧ (NP m_q tg_q F_q) ∧ (NM m m_q tg_q) ∧ True) ∨ (∃ (m_q : Nat) (tg_q ln_q : Int → Int) (F_q : Int → Int → Int) (x : Nat), V_q = cV R m_q tg_q ln_q F_q ∧ o = .inr x ∧ Ex m tg ln m_q tg_q ln_q ∧ HC 0 m_q tg_q ln_q F_q ∧ Fq 0 [(10, 0), (10, 1), (10, 2)] m tg F F_q ∧ (own m_q (x : Int)) ∧ (tg_q (x : Int) = 16) ∧ (F_q pg (0 : Int) ≠ 0) ∧ (szD m_q tg_q ln_q = szD m tg ln + 25 * ((m_q : Int) - (m : Int))) ∧ ((m_q : Int) ≤ (m : Int) + (F_q sc (8 : Int) - F sc (8 : Int)) + (1)) ∧ (F_q sc (8 : Int) ≤ F sc (7 : Int) + 1) ∧ (NP m_q tg_q F_q) ∧ (NM m m_q tg_q) ∧ True)) := by
  obtain ⟨d, rfl⟩ : ∃ d, dd = d + 1 := ⟨dd - 1, by omega⟩
  refine wk_of (e := jm165) rfl (by rw [jS_r, jS_i, jS_0]; exact Nat.le_of_ble_eq_true rfl) ?_
  rw [la_r, la_i, la_0]
  show wj X d jm165 (0, [(0, rv (me)), (1, .int (i32 (lv)))], [], cV R m tg ln F) _
  have hM0 : Fq 0 [(10, 0), (10, 1), (10, 2)] m tg F F := Fq_r
  have hX0 : Ex m tg ln m tg ln := Ex_r
  obtain ⟨L0, eL0⟩ : ∃ q : jL, q = [(0, rv (me)), (1, .int (i32 (lv)))] := ⟨_, rfl⟩
  rw [← eL0]
  have g1 : jGet L0 0 = some (rv (me)) := eL0 ▸ (rfl : jGet [(0, rv (me)), (1, .int (i32 (lv)))] 0 = some (rv (me)))
  have g2 : jGet L0 1 = some (.int (i32 (lv))) := eL0 ▸ (rfl : jGet [(0, rv (me)), (1, .int (i32 (lv)))] 1 = some (.int (i32 (lv))))
  clear eL0
  have tb0 := tz_b (F sc (15 : Int))
  have lb0 := lz_b (F sc (14 : Int))
  have ob0 : (0 : Int) ≤ F me (3 : Int) ∧ F me (3 : Int) ≤ 8 := HC_i (c := 8) (q := 3) hC o_me t_me (by decide) rfl
  have tp0 : F me (2 : Int) < 64 + (m : Int) := by
    have z : F me (2 : Int) = 0 ∨ (own m (F me (2 : Int)) ∧ tg (F me (2 : Int)) = 7) := HC_r (c := 8) (q := 2) hC o_me t_me (by decide) rfl
    rcases z with w | w
    · omega
    · exact w.1.2.1
  refine jx_ld (pc_q := 1) (l_q := L0) (st_q := [rv (me)]) rfl (jl_rvn g1) ?_
  refine cx_gr (pc_q := 4) (c := 8) (q := 1) (v := sc) rfl rfl (by decide) (by decide) rfl rfl o_me t_me e_sc ?_
  refine cx_gi (pc_q := 7) (c := 10) (q := 14) (v := F (sc) (14 : Int)) rfl rfl (by decide) (by decide) (Or.inl rfl) rfl o_sc t_sc rfl ?_
  have b3 : (-2 : Int) ≤ F (sc) (14 : Int) ∧ F (sc) (14 : Int) ≤ 15 := by have z := HC_i (c := 10) (q := 14) hC o_sc t_sc (by decide) rfl; rw [show F (sc) ((14 : Nat) : Int) = F (sc) (14 : Int) from rfl] at z; exact z
  refine jx_ld (pc_q := 8) (l_q := L0) (st_q := [.int (i32 (lv)), .int (i32 (F (sc) (14 : Int)))]) rfl (jl_iloadn g2) ?_
  refine jx_icmp_eq (pc_q := 11) (tg := 15) rfl rfl rfl (by omega) (by omega) (by omega) (by omega) (fun h4 => ?_) (fun h4 => ?_)
  · have _q := h4
    have t5 : lz (F (sc) (14 : Int)) = 1 := lz_p (by omega)
    refine jx_rt (v := none) rfl rfl rfl rfl rfl rfl ?_
    have q6 := lz_b (F (sc) (14 : Int))
    have q7 := tz_b (F (sc) (15 : Int))
    have q8 := lz_b (F (sc) (14 : Int))
    exact Or.inl ⟨m, tg, ln, F, rfl, rfl, hX0, hC, hM0, by omega, by omega, by omega, by omega, by omega, by omega, by omega, by omega, by omega, c_NP, NM_0, trivial⟩
  · have _q := h4
    refine jx_ld (pc_q := 12) (l_q := L0) (st_q := [rv (me)]) rfl (jl_rvn g1) ?_
    refine cx_vi (c := 8) (a := me) (st := []) (as := []) rfl rfl rfl o_me t_me (by decide) rfl ⟨rfl, rfl, (Nat.le_of_ble_eq_true rfl)⟩ rfl (k_LParser_form (dd := d) (R := R) (m := m) (tg := tg) (ln := ln) (F := F) (me := me) (hd := by omega) (hC := hC) (o_me := o_me) (t_me := t_me) (sc := sc) (pg := pg) (o_sc := o_sc) (t_sc := t_sc) (e_sc := e_sc) (o_pg := o_pg) (t_pg := t_pg) (e_pg := e_pg) (p_0 := by omega) (c_NP := c_NP)) (fun o V_q hq => ?_)
    obtain ⟨m9, tg9, ln9, F10, rfl, rfl, hx11, hC12, hM13, p14, c15, c16, -⟩ | ⟨m17, tg17, ln17, F17, x17, rfl, rfl, hx17, hC17, hM17, ho17, ht17, p18, p19, p20, p21, c22, c23, -⟩ := hq
    rotate_left
    ·
      have c24 : NM m m17 tg17 := NM_t NM_0 hx17 c23
      have lm25 := hx17.1
      refine Or.inr (Or.inr (Or.inr ⟨_, _, rfl, cx_exc (c := 15) ho17 ht17 (by decide), rfl, ?_⟩))
      exact Or.inr ⟨m17, tg17, ln17, F17, x17, rfl, rfl, Ex_t hX0 hx17, hC17, Fq_t (ln := ln) (ln1 := ln) hM0 hX0 hM17 (by decide) (Or.inl rfl), (And.intro ho17 ht17).1, (And.intro ho17 ht17).2, by omega, by omega, by omega, by omega, c22, c24, trivial⟩
    exact p14.elim
set_option maxRecDepth 20000 in
set_option maxHeartbeats 4000000 in
theorem k_LParser_endLine {X : jX} {dd : Nat} {R : Nat → jC} {m : Nat} {tg ln : Int → Int} {F : Int → Int → Int} {me : Int} (hd : 3 ≤ dd) (hC : HC 0 m tg ln F) {sc pg : Int} (o_sc : own m sc) (t_sc : tg sc = 11) (e_sc : F me (1 : Int) = sc) (o_pg : own m pg) (t_pg : tg pg = 10) (e_pg : F me (0 : Int) = pg) (o_me : own m me) (t_me : tg me = 9) (p_0 : F sc (8 : Int) + 2 * tz (F sc (15 : Int)) ≤ F sc (7 : Int) + 1) (p_1 : F sc (8 : Int) + 2 * lz (F sc (14 : Int)) ≤ F sc (7 : Int) + 1) (p_2 : F sc (8 : Int) ≤ F sc (7 : Int)) (c_NP : NP m tg F) : wk X dd 166 [rv me] (cV R m tg ln F) (fun o V_q => (∃ (m_q : Nat) (tg_q ln_q : Int → Int) (F_q : Int → Int → Int), V_q = cV R m_q tg_q ln_q F_q ∧ o = .inl none ∧ Ex m tg ln m_q tg_q ln_q ∧ HC 0 m_q tg_q ln_q F_q ∧ Fq 0 [(9, 3), (10, 0), (10, 1), (10, 2), (11, 8), (11, 12), (11, 13), (11, 14), (11, 15), (11, 16), (11, 17), (11, 18)] m tg F F_q ∧ (F_q sc (8 : Int) + 2 * tz (F_q sc (15 : Int)) ≤ F sc (7 : Int) + 1) ∧ (F_q sc (8 : Int) + 2 * lz (F_q sc (14 : Int)) ≤ F sc (7 : Int) + 1) ∧ (F_q sc (8 : Int) = F sc (8 : Int) + 1) ∧ (szD m_q tg_q ln_q = szD m tg ln + 25 * ((m_q : Int) - (m : Int))) ∧ ((m_q : Int) = (m : Int)) ∧ (F_q pg (9 : Int) ≤ F pg (9 : Int) + ((m_q : Int) - (m : Int))) ∧ (F_q me (3 : Int) = 0) ∧ (NP m_q tg_q F_q) ∧ (NM m m_q tg_q) ∧ True) ∨ (∃ (m_q : Nat) (tg_q ln_q : Int → Int) (F_q : Int → Int → Int) (x : Nat), V_q = cV R m_q tg_q ln_q F_q ∧ o = .inr x ∧ Ex m tg ln m_q tg_q ln_q ∧ HC 0 m_q tg_q ln_q F_q ∧ Fq 0 [(9, 3), (10, 0), (10, 1), (10, 2), (11, 8), (11, 12), (11, 13), (11, 14), (11, 15), (11, 16), (11, 17), (11, 18)] m tg F F_q ∧ (own m_q (x : Int)) ∧ (tg_q (x : Int) = 16) ∧ (F_q pg (0 : Int) ≠ 0) ∧ (szD m_q tg_q ln_q = szD m tg ln + 25 * ((m_q : Int) - (m : Int))) ∧ ((m_q : Int) ≤ (m : Int) + (F_q sc (8 : Int) - F sc (8 : Int)) + (1)) ∧ (F_q sc (8 : Int) ≤ F sc (7 : Int) + 1) ∧ (NP m_q tg_q F_q) ∧ (NM m m_q tg_q) ∧ True)) := by
  obtain ⟨d, rfl⟩ : ∃ d, dd = d + 1 := ⟨dd - 1, by omega⟩
  refine wk_of (e := jm166) rfl (by rw [jS_r, jS_0]; exact Nat.le_of_ble_eq_true rfl) ?_
  rw [la_r, la_0]
  show wj X d jm166 (0, [(0, rv (me))], [], cV R m tg ln F) _
  have hM0 : Fq 0 [(9, 3), (10, 0), (10, 1), (10, 2), (11, 8), (11, 12), (11, 13), (11, 14), (11, 15), (11, 16), (11, 17), (11, 18)] m tg F F := Fq_r
  have hX0 : Ex m tg ln m tg ln := Ex_r
  obtain ⟨L0, eL0⟩ : ∃ q : jL, q = [(0, rv (me))] := ⟨_, rfl⟩
  rw [← eL0]
  have g1 : jGet L0 0 = some (rv (me)) := eL0 ▸ (rfl : jGet [(0, rv (me))] 0 = some (rv (me)))
  clear eL0
  have tb0 := tz_b (F sc (15 : Int))
  have lb0 := lz_b (F sc (14 : Int))
  have ob0 : (0 : Int) ≤ F me (3 : Int) ∧ F me (3 : Int) ≤ 8 := HC_i (c := 8) (q := 3) hC o_me t_me (by decide) rfl
  have tp0 : F me (2 : Int) < 64 + (m : Int) := by
    have z : F me (2 : Int) = 0 ∨ (own m (F me (2 : Int)) ∧ tg (F me (2 : Int)) = 7) := HC_r (c := 8) (q := 2) hC o_me t_me (by decide) rfl
    rcases z with w | w
    · omega
    · exact w.1.2.1
  refine jx_ld (pc_q := 1) (l_q := L0) (st_q := [rv (me)]) rfl (jl_rvn g1) ?_
  refine cx_gr (pc_q := 4) (c := 8) (q := 1) (v := sc) rfl rfl (by decide) (by decide) rfl rfl o_me t_me e_sc ?_
  refine cx_gi (pc_q := 7) (c := 10) (q := 15) (v := F (sc) (15 : Int)) rfl rfl (by decide) (by decide) (Or.inl rfl) rfl o_sc t_sc rfl ?_
  have b2 : (-2147483648 : Int) ≤ F (sc) (15 : Int) ∧ F (sc) (15 : Int) ≤ 2147483647 := by have z := HC_i (c := 10) (q := 15) hC o_sc t_sc (by decide) rfl; rw [show F (sc) ((15 : Nat) : Int) = F (sc) (15 : Int) from rfl] at z; exact z
  refine jx_if_eq (pc_q := 10) (tg := 14) rfl rfl rfl (by omega) (by omega) (fun h3 => ?_) (fun h3 => ?_)
  · have _q := h3
    have t4 : tz (F (sc) (15 : Int)) = 0 := by rw [show F (sc) (15 : Int) = 0 by omega]; rfl
    refine jx_ld (pc_q := 15) (l_q := L0) (st_q := [rv (me)]) rfl (jl_rvn g1) ?_
    refine jx_ar (pc_q := 16) (st_q := [.int (i32 (0)), rv (me)]) rfl rfl rfl rfl ?_
    refine cx_pi (pc_q := 19) (c := 8) (q := 3) (qi := (3 : Int)) (z := 0) rfl rfl (by decide) (by decide) rfl rfl rfl (by decide) rfl o_me t_me rfl ?_
    obtain ⟨F5, eF5⟩ : ∃ q, q = uF F (me) (3 : Int) (0) := ⟨_, rfl⟩
    rw [← eF5]
    have hC6 : HC 0 m tg ln F5 := by rw [eF5]; exact HC_fi (c := 8) (q := 3) hC t_me (by decide) rfl (by omega) (by omega) ⟨fun w => absurd w (by decide), fun w => absurd w (by decide)⟩
    have hM7 : Fq 0 [(9, 3), (10, 0), (10, 1), (10, 2), (11, 8), (11, 12), (11, 13), (11, 14), (11, 15), (11, 16), (11, 17), (11, 18)] m tg F F5 := by rw [eF5]; exact Fq_p hM0 t_me (fun w => (hX0.2 _ w).1) rfl
    have c8 : NP m tg F5 := by rw [eF5]; exact NP_u hC c_NP t_me (by omega)
    refine jx_ld (pc_q := 20) (l_q := L0) (st_q := [rv (me)]) rfl (jl_rvn g1) ?_
    refine cx_gr (pc_q := 23) (c := 8) (q := 1) (v := sc) rfl rfl (by decide) (by decide) rfl rfl o_me t_me ((show F5 (me) (1 : Int) = F (me) (1 : Int) from by rw [eF5]; exact uF_j (by decide)).trans e_sc) ?_
    have q9 : F5 (sc) (8 : Int) = F (sc) (8 : Int) := (show F5 (sc) (8 : Int) = F (sc) (8 : Int) from by rw [eF5]; exact uF_j (by decide))
    have q10 : F5 (sc) (7 : Int) = F (sc) (7 : Int) := (show F5 (sc) (7 : Int) = F (sc) (7 : Int) from by rw [eF5]; exact uF_j (by decide))
    refine cx_vi (c := 10) (a := sc) (st := []) (as := []) rfl rfl rfl o_sc t_sc (by decide) rfl ⟨rfl, rfl, (Nat.le_of_ble_eq_true rfl)⟩ rfl (k_LScanner_nextLine (dd := d) (R := R) (m := m) (tg := tg) (ln := ln) (F := F5) (me := sc) (hd := by omega) (hC := hC6) (o_me := o_sc) (t_me := t_sc) (p_0 := by omega)) (fun o V_q hq => ?_)
    obtain ⟨F11, rfl, rfl, hC12, hM13, p14, p15, p16, -⟩ := hq
    have hM17 : Fq 0 [(9, 3), (10, 0), (10, 1), (10, 2), (11, 8), (11, 12), (11, 13), (11, 14), (11, 15), (11, 16), (11, 17), (11, 18)] m tg F F11 := Fq_t (ln := ln) (ln1 := ln) hM7 hX0 hM13 (by decide) (Or.inl rfl)
    have c18 : NP m tg F11 := NP_q hC6 c8 hM13 rfl rfl
    refine Or.inl ⟨rfl, ?_⟩
    refine jx_rt (v := none) rfl rfl rfl rfl rfl rfl ?_
    have q19 : F11 (sc) (7 : Int) = F (sc) (7 : Int) := ((show F11 (sc) (7 : Int) = F5 (sc) (7 : Int) from hM13 _ _ o_sc (own_z o_sc) (by rw [t_sc]; rfl)).trans (show F5 (sc) (7 : Int) = F (sc) (7 : Int) from by rw [eF5]; exact uF_j (by decide)))
    have q20 : F11 (pg) (9 : Int) = F (pg) (9 : Int) := ((show F11 (pg) (9 : Int) = F5 (pg) (9 : Int) from hM13 _ _ o_pg (own_z o_pg) (by rw [t_pg]; rfl)).trans (show F5 (pg) (9 : Int) = F (pg) (9 : Int) from by rw [eF5]; exact uF_j (by decide)))
    have q21 := tz_b (F11 (sc) (15 : Int))
    have q22 := lz_b (F11 (sc) (14 : Int))
    have q23 : F11 (pg) (9 : Int) = F (pg) (9 : Int) := ((show F11 (pg) (9 : Int) = F5 (pg) (9 : Int) from hM13 _ _ o_pg (own_z o_pg) (by rw [t_pg]; rfl)).trans (show F5 (pg) (9 : Int) = F (pg) (9 : Int) from by rw [eF5]; exact uF_j (by decide)))
    have q24 : F11 (me) (3 : Int) = 0 := ((show F11 (me) (3 : Int) = F5 (me) (3 : Int) from hM13 _ _ o_me (own_z o_me) (by rw [t_me]; rfl)).trans (show F5 (me) (3 : Int) = 0 from by rw [eF5]; exact uF_e))
    exact Or.inl ⟨m, tg, ln, F11, rfl, rfl, hX0, hC12, hM17, by omega, by omega, by omega, by omega, by omega, by omega, by omega, c18, NM_0, trivial⟩
  · have _q := h3
    have t25 : tz (F (sc) (15 : Int)) = 1 := tz_p (by omega)
    refine jx_ld (pc_q := 11) (l_q := L0) (st_q := [rv (me)]) rfl (jl_rvn g1) ?_
    refine cx_vi (c := 8) (a := me) (st := []) (as := []) rfl rfl rfl o_me t_me (by decide) rfl ⟨rfl, rfl, (Nat.le_of_ble_eq_true rfl)⟩ rfl (k_LParser_form (dd := d) (R := R) (m := m) (tg := tg) (ln := ln) (F := F) (me := me) (hd := by omega) (hC := hC) (o_me := o_me) (t_me := t_me) (sc := sc) (pg := pg) (o_sc := o_sc) (t_sc := t_sc) (e_sc := e_sc) (o_pg := o_pg) (t_pg := t_pg) (e_pg := e_pg) (p_0 := by omega) (c_NP := c_NP)) (fun o V_q hq => ?_)
    obtain ⟨m26, tg26, ln26, F27, rfl, rfl, hx28, hC29, hM30, p31, c32, c33, -⟩ | ⟨m34, tg34, ln34, F34, x34, rfl, rfl, hx34, hC34, hM34, ho34, ht34, p35, p36, p37, p38, c39, c40, -⟩ := hq
    rotate_left
    ·
      have c41 : NM m m34 tg34 := NM_t NM_0 hx34 c40
      have lm42 := hx34.1
      refine Or.inr (Or.inr (Or.inr ⟨_, _, rfl, cx_exc (c := 15) ho34 ht34 (by decide), rfl, ?_⟩))
      exact Or.inr ⟨m34, tg34, ln34, F34, x34, rfl, rfl, Ex_t hX0 hx34, hC34, Fq_t (ln := ln) (ln1 := ln) hM0 hX0 hM34 (by decide) (Or.inl rfl), (And.intro ho34 ht34).1, (And.intro ho34 ht34).2, by omega, by omega, by omega, by omega, c39, c41, trivial⟩
    exact p31.elim
set_option maxRecDepth 20000 in
set_option maxHeartbeats 4000000 in
theorem k_LParser_readNumber {X : jX} {dd : Nat} {R : Nat → jC} {m : Nat} {tg ln : Int → Int} {F : Int → Int → Int} {me le mo : Int} (hd : 3 ≤ dd) (hC : HC 0 m tg ln F) {sc pg : Int} (o_sc : own m sc) (t_sc : tg sc = 11) (e_sc : F me (1 : Int) = sc) (o_pg : own m pg) (t_pg : tg pg = 10) (e_pg : F me (0 : Int) = pg) (o_me : own m me) (t_me : tg me = 9) (h_le : (-2147483648 : Int) ≤ le ∧ le ≤ 2147483647) (h_mo : (-2147483648 : Int) ≤ mo ∧ mo ≤ 2147483647) (p_0 : F sc (8 : Int) + 2 * tz (F sc (15 : Int)) ≤ F sc (7 : Int) + 1) (p_1 : F sc (8 : Int) + 2 * lz (F sc (14 : Int)) ≤ F sc (7 : Int) + 1) (p_2 : F sc (8 : Int) ≤ F sc (7 : Int)) (c_NP : NP m tg F) : wk X dd 167 [rv me, .int (i32 le), .int (i32 mo)] (cV R m tg ln F) (fun o V_q => (∃ (m_q : Nat) (tg_q ln_q : Int → Int) (F_q : Int → Int → Int) (r : Int), V_q = cV R m_q tg_q ln_q F_q ∧ o = .inl (some (.int (i32 r))) ∧ Ex m tg ln m_q tg_q ln_q ∧ HC 0 m_q tg_q ln_q F_q ∧ Fq 0 [(10, 0), (10, 1), (10, 2), (11, 8), (11, 12), (11, 13), (11, 14), (11, 15), (11, 16), (11, 17), (11, 18)] m tg F F_q ∧ (-2147483648 ≤ r ∧ r ≤ 2147483647) ∧ (F_q sc (8 : Int) + 2 * tz (F_q sc (15 : Int)) ≤ F sc (7 : Int) + 1) ∧ (F_q sc (8 : Int) + 2 * lz (F_q sc (14 : Int)) ≤ F sc (7 : Int) + 1) ∧ (F_q sc (8 : Int) ≤ F sc (7 : Int)) ∧ (F_q sc (8 : Int) = F sc (8 : Int) + 1) ∧ (szD m_q tg_q ln_q = szD m tg ln + 25 * ((m_q : Int) - (m : Int))) ∧ ((m_q : Int) = (m : Int)) ∧ (F_q pg (9 : Int) ≤ F pg (9 : Int) + ((m_q : Int) - (m : Int))) ∧ (le ≤ r) ∧ (r ≤ mo) ∧ (tz (F sc (15 : Int)) = 1) ∧ (NP m_q tg_q F_q) ∧ (NM m m_q tg_q) ∧ True) ∨ (∃ (m_q : Nat) (tg_q ln_q : Int → Int) (F_q : Int → Int → Int) (x : Nat), V_q = cV R m_q tg_q ln_q F_q ∧ o = .inr x ∧ Ex m tg ln m_q tg_q ln_q ∧ HC 0 m_q tg_q ln_q F_q ∧ Fq 0 [(10, 0), (10, 1), (10, 2), (11, 8), (11, 12), (11, 13), (11, 14), (11, 15), (11, 16), (11, 17), (11, 18)] m tg F F_q ∧ (own m_q (x : Int)) ∧ (tg_q (x : Int) = 16) ∧ (F_q pg (0 : Int) ≠ 0) ∧ (szD m_q tg_q ln_q = szD m tg ln + 25 * ((m_q : Int) - (m : Int))) ∧ ((m_q : Int) ≤ (m : Int) + (F_q sc (8 : Int) - F sc (8 : Int)) + (1)) ∧ (F_q sc (8 : Int) ≤ F sc (7 : Int) + 1) ∧ (NP m_q tg_q F_q) ∧ (NM m m_q tg_q) ∧ True)) := by
  obtain ⟨d, rfl⟩ : ∃ d, dd = d + 1 := ⟨dd - 1, by omega⟩
  refine wk_of (e := jm167) rfl (by rw [jS_r, jS_i, jS_i, jS_0]; exact Nat.le_of_ble_eq_true rfl) ?_
  rw [la_r, la_i, la_i, la_0]
  show wj X d jm167 (0, [(0, rv (me)), (1, .int (i32 (le))), (2, .int (i32 (mo)))], [], cV R m tg ln F) _
  have hM0 : Fq 0 [(10, 0), (10, 1), (10, 2), (11, 8), (11, 12), (11, 13), (11, 14), (11, 15), (11, 16), (11, 17), (11, 18)] m tg F F := Fq_r
  have hX0 : Ex m tg ln m tg ln := Ex_r
  obtain ⟨L0, eL0⟩ : ∃ q : jL, q = [(0, rv (me)), (1, .int (i32 (le))), (2, .int (i32 (mo)))] := ⟨_, rfl⟩
  rw [← eL0]
  have g1 : jGet L0 0 = some (rv (me)) := eL0 ▸ (rfl : jGet [(0, rv (me)), (1, .int (i32 (le))), (2, .int (i32 (mo)))] 0 = some (rv (me)))
  have g2 : jGet L0 1 = some (.int (i32 (le))) := eL0 ▸ (rfl : jGet [(0, rv (me)), (1, .int (i32 (le))), (2, .int (i32 (mo)))] 1 = some (.int (i32 (le))))
  have g3 : jGet L0 2 = some (.int (i32 (mo))) := eL0 ▸ (rfl : jGet [(0, rv (me)), (1, .int (i32 (le))), (2, .int (i32 (mo)))] 2 = some (.int (i32 (mo))))
  clear eL0
  have tb0 := tz_b (F sc (15 : Int))
  have lb0 := lz_b (F sc (14 : Int))
  have ob0 : (0 : Int) ≤ F me (3 : Int) ∧ F me (3 : Int) ≤ 8 := HC_i (c := 8) (q := 3) hC o_me t_me (by decide) rfl
  have tp0 : F me (2 : Int) < 64 + (m : Int) := by
    have z : F me (2 : Int) = 0 ∨ (own m (F me (2 : Int)) ∧ tg (F me (2 : Int)) = 7) := HC_r (c := 8) (q := 2) hC o_me t_me (by decide) rfl
    rcases z with w | w
    · omega
    · exact w.1.2.1
  refine jx_ld (pc_q := 1) (l_q := L0) (st_q := [rv (me)]) rfl (jl_rvn g1) ?_
  refine cx_gr (pc_q := 4) (c := 8) (q := 1) (v := sc) rfl rfl (by decide) (by decide) rfl rfl o_me t_me e_sc ?_
  refine cx_gi (pc_q := 7) (c := 10) (q := 15) (v := F (sc) (15 : Int)) rfl rfl (by decide) (by decide) (Or.inl rfl) rfl o_sc t_sc rfl ?_
  have b4 : (-2147483648 : Int) ≤ F (sc) (15 : Int) ∧ F (sc) (15 : Int) ≤ 2147483647 := by have z := HC_i (c := 10) (q := 15) hC o_sc t_sc (by decide) rfl; rw [show F (sc) ((15 : Nat) : Int) = F (sc) (15 : Int) from rfl] at z; exact z
  refine jx_ar (pc_q := 8) (st_q := [.int (i32 (3)), .int (i32 (F (sc) (15 : Int)))]) rfl rfl rfl rfl ?_
  refine jx_icmp_ne (pc_q := 11) (tg := 33) rfl rfl rfl (by omega) (by omega) (by decide) (by decide) (fun h5 => ?_) (fun h5 => ?_)
  · have _q := h5
    refine jx_ld (pc_q := 34) (l_q := L0) (st_q := [rv (me)]) rfl (jl_rvn g1) ?_
    refine cx_vi (c := 8) (a := me) (st := []) (as := []) rfl rfl rfl o_me t_me (by decide) rfl ⟨rfl, rfl, (Nat.le_of_ble_eq_true rfl)⟩ rfl (k_LParser_form (dd := d) (R := R) (m := m) (tg := tg) (ln := ln) (F := F) (me := me) (hd := by omega) (hC := hC) (o_me := o_me) (t_me := t_me) (sc := sc) (pg := pg) (o_sc := o_sc) (t_sc := t_sc) (e_sc := e_sc) (o_pg := o_pg) (t_pg := t_pg) (e_pg := e_pg) (p_0 := by omega) (c_NP := c_NP)) (fun o V_q hq => ?_)
    obtain ⟨m6, tg6, ln6, F7, rfl, rfl, hx8, hC9, hM10, p11, c12, c13, -⟩ | ⟨m14, tg14, ln14, F14, x14, rfl, rfl, hx14, hC14, hM14, ho14, ht14, p15, p16, p17, p18, c19, c20, -⟩ := hq
    rotate_left
    ·
      have c21 : NM m m14 tg14 := NM_t NM_0 hx14 c20
      have lm22 := hx14.1
      refine Or.inr (Or.inr (Or.inr ⟨_, _, rfl, cx_exc (c := 15) ho14 ht14 (by decide), rfl, ?_⟩))
      exact Or.inr ⟨m14, tg14, ln14, F14, x14, rfl, rfl, Ex_t hX0 hx14, hC14, Fq_t (ln := ln) (ln1 := ln) hM0 hX0 hM14 (by decide) (Or.inl rfl), (And.intro ho14 ht14).1, (And.intro ho14 ht14).2, by omega, by omega, by omega, by omega, c19, c21, trivial⟩
    exact p11.elim
  · have _q := h5
    have t23 : tz (F (sc) (15 : Int)) = 1 := tz_p (by omega)
    refine jx_ld (pc_q := 12) (l_q := L0) (st_q := [rv (me)]) rfl (jl_rvn g1) ?_
    refine cx_gr (pc_q := 15) (c := 8) (q := 1) (v := sc) rfl rfl (by decide) (by decide) rfl rfl o_me t_me e_sc ?_
    refine cx_gi (pc_q := 18) (c := 10) (q := 17) (v := F (sc) (17 : Int)) rfl rfl (by decide) (by decide) (Or.inl rfl) rfl o_sc t_sc rfl ?_
    have b24 : (-2147483648 : Int) ≤ F (sc) (17 : Int) ∧ F (sc) (17 : Int) ≤ 2147483647 := by have z := HC_i (c := 10) (q := 17) hC o_sc t_sc (by decide) rfl; rw [show F (sc) ((17 : Nat) : Int) = F (sc) (17 : Int) from rfl] at z; exact z
    refine jx_ld (pc_q := 19) (l_q := L0) (st_q := [.int (i32 (le)), .int (i32 (F (sc) (17 : Int)))]) rfl (jl_iloadn g2) ?_
    refine jx_icmp_lt (pc_q := 22) (tg := 33) rfl rfl rfl (by omega) (by omega) (by omega) (by omega) (fun h25 => ?_) (fun h25 => ?_)
    · have _q := h25
      refine jx_ld (pc_q := 34) (l_q := L0) (st_q := [rv (me)]) rfl (jl_rvn g1) ?_
      refine cx_vi (c := 8) (a := me) (st := []) (as := []) rfl rfl rfl o_me t_me (by decide) rfl ⟨rfl, rfl, (Nat.le_of_ble_eq_true rfl)⟩ rfl (k_LParser_form (dd := d) (R := R) (m := m) (tg := tg) (ln := ln) (F := F) (me := me) (hd := by omega) (hC := hC) (o_me := o_me) (t_me := t_me) (sc := sc) (pg := pg) (o_sc := o_sc) (t_sc := t_sc) (e_sc := e_sc) (o_pg := o_pg) (t_pg := t_pg) (e_pg := e_pg) (p_0 := by omega) (c_NP := c_NP)) (fun o V_q hq => ?_)
      obtain ⟨m26, tg26, ln26, F27, rfl, rfl, hx28, hC29, hM30, p31, c32, c33, -⟩ | ⟨m34, tg34, ln34, F34, x34, rfl, rfl, hx34, hC34, hM34, ho34, ht34, p35, p36, p37, p38, c39, c40, -⟩ := hq
      rotate_left
      ·
        have c41 : NM m m34 tg34 := NM_t NM_0 hx34 c40
        have lm42 := hx34.1
        refine Or.inr (Or.inr (Or.inr ⟨_, _, rfl, cx_exc (c := 15) ho34 ht34 (by decide), rfl, ?_⟩))
        exact Or.inr ⟨m34, tg34, ln34, F34, x34, rfl, rfl, Ex_t hX0 hx34, hC34, Fq_t (ln := ln) (ln1 := ln) hM0 hX0 hM34 (by decide) (Or.inl rfl), (And.intro ho34 ht34).1, (And.intro ho34 ht34).2, by omega, by omega, by omega, by omega, c39, c41, trivial⟩
      exact p31.elim
    · have _q := h25
      refine jx_ld (pc_q := 23) (l_q := L0) (st_q := [rv (me)]) rfl (jl_rvn g1) ?_
      refine cx_gr (pc_q := 26) (c := 8) (q := 1) (v := sc) rfl rfl (by decide) (by decide) rfl rfl o_me t_me e_sc ?_
      refine cx_gi (pc_q := 29) (c := 10) (q := 17) (v := F (sc) (17 : Int)) rfl rfl (by decide) (by decide) (Or.inl rfl) rfl o_sc t_sc rfl ?_
      refine jx_ld (pc_q := 30) (l_q := L0) (st_q := [.int (i32 (mo)), .int (i32 (F (sc) (17 : Int)))]) rfl (jl_iloadn g3) ?_
      refine jx_icmp_le (pc_q := 33) (tg := 37) rfl rfl rfl (by omega) (by omega) (by omega) (by omega) (fun h43 => ?_) (fun h43 => ?_)
      · have _q := h43
        refine jx_ld (pc_q := 38) (l_q := L0) (st_q := [rv (me)]) rfl (jl_rvn g1) ?_
        refine cx_gr (pc_q := 41) (c := 8) (q := 1) (v := sc) rfl rfl (by decide) (by decide) rfl rfl o_me t_me e_sc ?_
        refine cx_gi (pc_q := 44) (c := 10) (q := 17) (v := F (sc) (17 : Int)) rfl rfl (by decide) (by decide) (Or.inl rfl) rfl o_sc t_sc rfl ?_
        refine jx_ld (pc_q := 45) (l_q := jSto1 L0 3 (.int (i32 (F (sc) (17 : Int))))) (st_q := []) rfl rfl ?_
        obtain ⟨L44, eL44⟩ : ∃ q : jL, q = jSto1 L0 3 (.int (i32 (F (sc) (17 : Int)))) := ⟨_, rfl⟩
        rw [← eL44]
        have g45 : jGet L44 0 = some (rv (me)) := eL44 ▸ jg_nr (by decide) g1
        have g46 : jGet L44 1 = some (.int (i32 (le))) := eL44 ▸ jg_ne (by decide) g2 rfl
        have g47 : jGet L44 2 = some (.int (i32 (mo))) := eL44 ▸ jg_ne (by decide) g3 rfl
        have g48 : jGet L44 3 = some (.int (i32 (F (sc) (17 : Int)))) := eL44 ▸ jg_eq
        clear eL44
        refine jx_ld (pc_q := 46) (l_q := L44) (st_q := [rv (me)]) rfl (jl_rvn g45) ?_
        refine cx_gr (pc_q := 49) (c := 8) (q := 1) (v := sc) rfl rfl (by decide) (by decide) rfl rfl o_me t_me e_sc ?_
        have q49 := tz_b (F (sc) (15 : Int))
        have q50 := lz_b (F (sc) (14 : Int))
        refine cx_vi (c := 10) (a := sc) (st := []) (as := []) rfl rfl rfl o_sc t_sc (by decide) rfl ⟨rfl, rfl, (Nat.le_of_ble_eq_true rfl)⟩ rfl (k_LScanner_next (dd := d) (R := R) (m := m) (tg := tg) (ln := ln) (F := F) (me := sc) (hd := by omega) (hC := hC) (o_me := o_sc) (t_me := t_sc) (p_0 := by omega) (p_1 := by omega)) (fun o V_q hq => ?_)
        obtain ⟨F51, rfl, rfl, hC52, hM53, p54, p55, p56, -⟩ := hq
        have hM57 : Fq 0 [(10, 0), (10, 1), (10, 2), (11, 8), (11, 12), (11, 13), (11, 14), (11, 15), (11, 16), (11, 17), (11, 18)] m tg F F51 := Fq_t (ln := ln) (ln1 := ln) hM0 hX0 hM53 (by decide) (Or.inl rfl)
        have c58 : NP m tg F51 := NP_q hC c_NP hM53 rfl rfl
        refine Or.inl ⟨rfl, ?_⟩
        refine jx_ld (pc_q := 53) (l_q := L44) (st_q := [.int (i32 (F (sc) (17 : Int)))]) rfl (jl_iloadn g48) ?_
        refine jx_rt (v := some (.int (i32 (F (sc) (17 : Int))))) rfl rfl rfl rfl rfl rfl ?_
        have q59 : F51 (sc) (7 : Int) = F (sc) (7 : Int) := (show F51 (sc) (7 : Int) = F (sc) (7 : Int) from hM53 _ _ o_sc (own_z o_sc) (by rw [t_sc]; rfl))
        have q60 : F51 (pg) (9 : Int) = F (pg) (9 : Int) := (show F51 (pg) (9 : Int) = F (pg) (9 : Int) from hM53 _ _ o_pg (own_z o_pg) (by rw [t_pg]; rfl))
        have q61 := tz_b (F51 (sc) (15 : Int))
        have q62 := tz_b (F51 (sc) (15 : Int))
        have q63 := lz_b (F51 (sc) (14 : Int))
        have q64 : F51 (pg) (9 : Int) = F (pg) (9 : Int) := (show F51 (pg) (9 : Int) = F (pg) (9 : Int) from hM53 _ _ o_pg (own_z o_pg) (by rw [t_pg]; rfl))
        exact Or.inl ⟨m, tg, ln, F51, (F (sc) (17 : Int)), rfl, rfl, hX0, hC52, hM57, by omega, by omega, by omega, by omega, by omega, by omega, by omega, by omega, by omega, by omega, by omega, c58, NM_0, trivial⟩
      · have _q := h43
        refine jx_ld (pc_q := 34) (l_q := L0) (st_q := [rv (me)]) rfl (jl_rvn g1) ?_
        refine cx_vi (c := 8) (a := me) (st := []) (as := []) rfl rfl rfl o_me t_me (by decide) rfl ⟨rfl, rfl, (Nat.le_of_ble_eq_true rfl)⟩ rfl (k_LParser_form (dd := d) (R := R) (m := m) (tg := tg) (ln := ln) (F := F) (me := me) (hd := by omega) (hC := hC) (o_me := o_me) (t_me := t_me) (sc := sc) (pg := pg) (o_sc := o_sc) (t_sc := t_sc) (e_sc := e_sc) (o_pg := o_pg) (t_pg := t_pg) (e_pg := e_pg) (p_0 := by omega) (c_NP := c_NP)) (fun o V_q hq => ?_)
        obtain ⟨m65, tg65, ln65, F66, rfl, rfl, hx67, hC68, hM69, p70, c71, c72, -⟩ | ⟨m73, tg73, ln73, F73, x73, rfl, rfl, hx73, hC73, hM73, ho73, ht73, p74, p75, p76, p77, c78, c79, -⟩ := hq
        rotate_left
        ·
          have c80 : NM m m73 tg73 := NM_t NM_0 hx73 c79
          have lm81 := hx73.1
          refine Or.inr (Or.inr (Or.inr ⟨_, _, rfl, cx_exc (c := 15) ho73 ht73 (by decide), rfl, ?_⟩))
          exact Or.inr ⟨m73, tg73, ln73, F73, x73, rfl, rfl, Ex_t hX0 hx73, hC73, Fq_t (ln := ln) (ln1 := ln) hM0 hX0 hM73 (by decide) (Or.inl rfl), (And.intro ho73 ht73).1, (And.intro ho73 ht73).2, by omega, by omega, by omega, by omega, c78, c80, trivial⟩
        exact p70.elim
set_option maxRecDepth 20000 in
set_option maxHeartbeats 4000000 in
theorem k_LParser_show {X : jX} {dd : Nat} {R : Nat → jC} {m : Nat} {tg ln : Int → Int} {F : Int → Int → Int} {me nm : Int} (hd : 1 ≤ dd) (hC : HC 0 m tg ln F) {sc pg : Int} (o_sc : own m sc) (t_sc : tg sc = 11) (e_sc : F me (1 : Int) = sc) (o_pg : own m pg) (t_pg : tg pg = 10) (e_pg : F me (0 : Int) = pg) (o_me : own m me) (t_me : tg me = 9) (o_nm : own m nm) (t_nm : tg nm = 7) (p_0 : F me (2 : Int) < nm) (c_NP : NP m tg F) : wk X dd 168 [rv me, rv nm] (cV R m tg ln F) (fun o V_q => ∃ (F_q : Int → Int → Int), V_q = cV R m tg ln F_q ∧ o = .inl none ∧ HC 0 m tg ln F_q ∧ Fq 0 [(7, 15), (9, 2)] m tg F F_q ∧ (F_q me (2 : Int) = nm) ∧ (NP m tg F_q) ∧ (NM m m tg) ∧ True) := by
  obtain ⟨d, rfl⟩ : ∃ d, dd = d + 1 := ⟨dd - 1, by omega⟩
  refine wk_of (e := jm168) rfl (by rw [jS_r, jS_r, jS_0]; exact Nat.le_of_ble_eq_true rfl) ?_
  rw [la_r, la_r, la_0]
  show wj X d jm168 (0, [(0, rv (me)), (1, rv (nm))], [], cV R m tg ln F) _
  have hM0 : Fq 0 [(7, 15), (9, 2)] m tg F F := Fq_r
  obtain ⟨L0, eL0⟩ : ∃ q : jL, q = [(0, rv (me)), (1, rv (nm))] := ⟨_, rfl⟩
  rw [← eL0]
  have g1 : jGet L0 0 = some (rv (me)) := eL0 ▸ (rfl : jGet [(0, rv (me)), (1, rv (nm))] 0 = some (rv (me)))
  have g2 : jGet L0 1 = some (rv (nm)) := eL0 ▸ (rfl : jGet [(0, rv (me)), (1, rv (nm))] 1 = some (rv (nm)))
  clear eL0
  have tb0 := tz_b (F sc (15 : Int))
  have lb0 := lz_b (F sc (14 : Int))
  have ob0 : (0 : Int) ≤ F me (3 : Int) ∧ F me (3 : Int) ≤ 8 := HC_i (c := 8) (q := 3) hC o_me t_me (by decide) rfl
  have tp0 : F me (2 : Int) < 64 + (m : Int) := by
    have z : F me (2 : Int) = 0 ∨ (own m (F me (2 : Int)) ∧ tg (F me (2 : Int)) = 7) := HC_r (c := 8) (q := 2) hC o_me t_me (by decide) rfl
    rcases z with w | w
    · omega
    · exact w.1.2.1
  have nz_nm := own_z o_nm
  refine jx_ld (pc_q := 1) (l_q := L0) (st_q := [rv (nm)]) rfl (jl_rvn g2) ?_
  refine jx_ld (pc_q := 2) (l_q := L0) (st_q := [rv (me), rv (nm)]) rfl (jl_rvn g1) ?_
  refine cx_gr (pc_q := 5) (c := 8) (q := 2) (v := F (me) (2 : Int)) rfl rfl (by decide) (by decide) rfl rfl o_me t_me rfl ?_
  have y3 : F (me) (2 : Int) = 0 ∨ (own m (F (me) (2 : Int)) ∧ tg (F (me) (2 : Int)) = 7) := by have z := HC_r (c := 8) (q := 2) hC o_me t_me (by decide) rfl; rw [show F (me) ((2 : Nat) : Int) = F (me) (2 : Int) from rfl] at z; exact z
  refine cx_po (pc_q := 8) (c := 6) (q := 15) (qi := (15 : Int)) (z := F (me) (2 : Int)) rfl rfl (by decide) (by decide) rfl rfl rfl (by decide) rfl o_nm t_nm rfl ?_
  obtain ⟨F4, eF4⟩ : ∃ q, q = uF F (nm) (15 : Int) (F (me) (2 : Int)) := ⟨_, rfl⟩
  rw [← eF4]
  have hC5 : HC 0 m tg ln F4 := by rw [eF4]; exact HC_fr (c := 6) (q := 15) (by decide) hC t_nm (by decide) rfl y3 ⟨fun w => absurd w (by decide), fun w => absurd w (by decide)⟩
  have hM6 : Fq 0 [(7, 15), (9, 2)] m tg F F4 := by rw [eF4]; exact Fq_p hM0 t_nm (fun _ => rfl) rfl
  have c7 : NP m tg F4 := by rw [eF4]; exact NP_nm hC c_NP t_nm (Or.inr (Or.inl ⟨rfl, by omega⟩))
  refine jx_ld (pc_q := 9) (l_q := L0) (st_q := [rv (me)]) rfl (jl_rvn g1) ?_
  refine jx_ld (pc_q := 10) (l_q := L0) (st_q := [rv (nm), rv (me)]) rfl (jl_rvn g2) ?_
  refine cx_po (pc_q := 13) (c := 8) (q := 2) (qi := (2 : Int)) (z := nm) rfl rfl (by decide) (by decide) rfl rfl rfl (by decide) rfl o_me t_me rfl ?_
  obtain ⟨F8, eF8⟩ : ∃ q, q = uF F4 (me) (2 : Int) (nm) := ⟨_, rfl⟩
  rw [← eF8]
  have hC9 : HC 0 m tg ln F8 := by rw [eF8]; exact HC_fr (c := 8) (q := 2) (by decide) hC5 t_me (by decide) rfl (Or.inr ⟨o_nm, t_nm⟩) ⟨fun w => absurd w (by decide), fun w => absurd w (by decide)⟩
  have hM10 : Fq 0 [(7, 15), (9, 2)] m tg F F8 := by rw [eF8]; exact Fq_p hM6 t_me (fun _ => rfl) rfl
  have c11 : NP m tg F8 := by rw [eF8]; exact NP_u hC5 c7 t_me (by omega)
  refine jx_rt (v := none) rfl rfl rfl rfl rfl rfl ?_
  have q12 : F8 (me) (2 : Int) = nm := (show F8 (me) (2 : Int) = nm from by rw [eF8]; exact uF_e)
  exact ⟨F8, rfl, rfl, hC9, hM10, by omega, c11, NM_0, trivial⟩
set_option maxRecDepth 20000 in
set_option maxHeartbeats 4000000 in
theorem k_LParser_find_at_5 {X : jX} {d : Nat} {R : Nat → jC} {m : Nat} {tg ln : Int → Int} {F : Int → Int → Int} {me : Int} (hd : 1 ≤ d + 1) (hC : HC 0 m tg ln F) {sc pg : Int} (o_sc : own m sc) (t_sc : tg sc = 11) (e_sc : F me (1 : Int) = sc) (o_pg : own m pg) (t_pg : tg pg = 10) (e_pg : F me (0 : Int) = pg) (o_me : own m me) (t_me : tg me = 9) (c_NP : NP m tg F) : ∀ (mm : Nat) (L : jL) (nm : Int), (nm).toNat = mm → jGet L 0 = some (rv (me)) → jGet L 1 = some (rv nm) → (nm = 0 ∨ (own m nm ∧ tg nm = 7)) → (NP m tg F) → (NM m m tg) → wj X d jm169 (5, L, [], cV R m tg ln F) (fun o V_q => ∃ (r : Int), V_q = cV R m tg ln F ∧ o = .inl (some (rv r)) ∧ (r = 0 ∨ (own m r ∧ tg r = 7)) ∧ (NP m tg F) ∧ (NM m m tg) ∧ True) := by
  intro mm
  induction mm using Nat.strongRecOn with
  | ind mm ih =>
    intro L nm hmm gL_0 gL_1 yx_nm cx_NP cx_NM
    have tb0 := tz_b (F sc (15 : Int))
    have lb0 := lz_b (F sc (14 : Int))
    have ob0 : (0 : Int) ≤ F me (3 : Int) ∧ F me (3 : Int) ≤ 8 := HC_i (c := 8) (q := 3) hC o_me t_me (by decide) rfl
    have tp0 : F me (2 : Int) < 64 + (m : Int) := by
      have z : F me (2 : Int) = 0 ∨ (own m (F me (2 : Int)) ∧ tg (F me (2 : Int)) = 7) := HC_r (c := 8) (q := 2) hC o_me t_me (by decide) rfl
      rcases z with w | w
      · omega
      · exact w.1.2.1
    refine jx_ld (pc_q := 6) (l_q := L) (st_q := [rv (nm)]) rfl (jl_rvn gL_1) ?_
    refine cx_nul (pc_q := 9) (tg_q := 34) rfl rfl rfl (fun h1 => ?_) (fun h1 => ?_)
    · have _q := h1
      refine jx_ar (pc_q := 35) (st_q := .null :: []) rfl rfl rfl rfl ?_
      rw [← rv_0]
      refine jx_rt (v := some (rv (0))) rfl rfl rfl rfl rfl jr_are ?_
      exact ⟨(0), rfl, rfl, (Or.inl rfl), cx_NP, cx_NM, trivial⟩
    · have _q := h1
      have ho2 : own m (nm) ∧ tg (nm) = 7 := yx_nm.resolve_left h1
      refine jx_ld (pc_q := 10) (l_q := L) (st_q := [rv (nm)]) rfl (jl_rvn gL_1) ?_
      refine cx_gl (pc_q := 13) (c := 6) (q := 1) rfl rfl (by decide) (by decide) rfl rfl ho2.1 ho2.2 (fun y3 => ?_)
      refine jx_ld (pc_q := 14) (l_q := L) (st_q := [rv (me), .long (y3)]) rfl (jl_rvn gL_0) ?_
      refine cx_gr (pc_q := 17) (c := 8) (q := 1) (v := sc) rfl rfl (by decide) (by decide) rfl rfl o_me t_me e_sc ?_
      refine cx_gl (pc_q := 20) (c := 10) (q := 18) rfl rfl (by decide) (by decide) rfl rfl o_sc t_sc (fun y4 => ?_)
      refine jx_lcmp (pc_q := 21) rfl rfl (fun r5 hr5 => ?_)
      refine jx_if_ne (pc_q := 24) (tg := 26) rfl rfl rfl (by omega) (by omega) (fun h6 => ?_) (fun h6 => ?_)
      · have _q := h6
        refine jx_ld (pc_q := 27) (l_q := L) (st_q := [rv (nm)]) rfl (jl_rvn gL_1) ?_
        refine cx_gr (pc_q := 30) (c := 6) (q := 15) (v := F (nm) (15 : Int)) rfl rfl (by decide) (by decide) rfl rfl ho2.1 ho2.2 rfl ?_
        have y7 : F (nm) (15 : Int) = 0 ∨ (own m (F (nm) (15 : Int)) ∧ tg (F (nm) (15 : Int)) = 7) := by have z := HC_r (c := 6) (q := 15) hC ho2.1 ho2.2 (by decide) rfl; rw [show F (nm) ((15 : Nat) : Int) = F (nm) (15 : Int) from rfl] at z; exact z
        have z8 := (cx_NP.1.2 _ ho2.1 ho2.2).2
        have z9 := ho2.1.1
        refine jx_ld (pc_q := 31) (l_q := jSto1 L 1 (rv (F (nm) (15 : Int)))) (st_q := []) rfl (js_rvn (by decide)) ?_
        obtain ⟨L10, eL10⟩ : ∃ q : jL, q = jSto1 L 1 (rv (F (nm) (15 : Int))) := ⟨_, rfl⟩
        rw [← eL10]
        have g11 : jGet L10 0 = some (rv (me)) := eL10 ▸ jg_nr (by decide) gL_0
        have g12 : jGet L10 1 = some (rv (F (nm) (15 : Int))) := eL10 ▸ jg_eq
        clear eL10
        refine jx_go (tg := 5) rfl rfl ?_
        exact ih _ (by omega) L10 (F (nm) (15 : Int)) rfl g11 g12 y7 cx_NP cx_NM
      · have _q := h6
        refine jx_ld (pc_q := 25) (l_q := L) (st_q := [rv (nm)]) rfl (jl_rvn gL_1) ?_
        refine jx_rt (v := some (rv (nm))) rfl rfl rfl rfl rfl jr_are ?_
        exact ⟨(nm), rfl, rfl, (Or.inr ⟨ho2.1, ho2.2⟩), cx_NP, cx_NM, trivial⟩
set_option maxRecDepth 20000 in
set_option maxHeartbeats 4000000 in
theorem k_LParser_find {X : jX} {dd : Nat} {R : Nat → jC} {m : Nat} {tg ln : Int → Int} {F : Int → Int → Int} {me : Int} (hd : 1 ≤ dd) (hC : HC 0 m tg ln F) {sc pg : Int} (o_sc : own m sc) (t_sc : tg sc = 11) (e_sc : F me (1 : Int) = sc) (o_pg : own m pg) (t_pg : tg pg = 10) (e_pg : F me (0 : Int) = pg) (o_me : own m me) (t_me : tg me = 9) (c_NP : NP m tg F) : wk X dd 169 [rv me] (cV R m tg ln F) (fun o V_q => ∃ (r : Int), V_q = cV R m tg ln F ∧ o = .inl (some (rv r)) ∧ (r = 0 ∨ (own m r ∧ tg r = 7)) ∧ (NP m tg F) ∧ (NM m m tg) ∧ True) := by
  obtain ⟨d, rfl⟩ : ∃ d, dd = d + 1 := ⟨dd - 1, by omega⟩
  refine wk_of (e := jm169) rfl (by rw [jS_r, jS_0]; exact Nat.le_of_ble_eq_true rfl) ?_
  rw [la_r, la_0]
  show wj X d jm169 (0, [(0, rv (me))], [], cV R m tg ln F) _
  obtain ⟨L0, eL0⟩ : ∃ q : jL, q = [(0, rv (me))] := ⟨_, rfl⟩
  rw [← eL0]
  have g13 : jGet L0 0 = some (rv (me)) := eL0 ▸ (rfl : jGet [(0, rv (me))] 0 = some (rv (me)))
  clear eL0
  have tb0 := tz_b (F sc (15 : Int))
  have lb0 := lz_b (F sc (14 : Int))
  have ob0 : (0 : Int) ≤ F me (3 : Int) ∧ F me (3 : Int) ≤ 8 := HC_i (c := 8) (q := 3) hC o_me t_me (by decide) rfl
  have tp0 : F me (2 : Int) < 64 + (m : Int) := by
    have z : F me (2 : Int) = 0 ∨ (own m (F me (2 : Int)) ∧ tg (F me (2 : Int)) = 7) := HC_r (c := 8) (q := 2) hC o_me t_me (by decide) rfl
    rcases z with w | w
    · omega
    · exact w.1.2.1
  refine jx_ld (pc_q := 1) (l_q := L0) (st_q := [rv (me)]) rfl (jl_rvn g13) ?_
  refine cx_gr (pc_q := 4) (c := 8) (q := 2) (v := F (me) (2 : Int)) rfl rfl (by decide) (by decide) rfl rfl o_me t_me rfl ?_
  have y14 : F (me) (2 : Int) = 0 ∨ (own m (F (me) (2 : Int)) ∧ tg (F (me) (2 : Int)) = 7) := by have z := HC_r (c := 8) (q := 2) hC o_me t_me (by decide) rfl; rw [show F (me) ((2 : Nat) : Int) = F (me) (2 : Int) from rfl] at z; exact z
  refine jx_ld (pc_q := 5) (l_q := jSto1 L0 1 (rv (F (me) (2 : Int)))) (st_q := []) rfl (js_rvn (by decide)) ?_
  obtain ⟨L15, eL15⟩ : ∃ q : jL, q = jSto1 L0 1 (rv (F (me) (2 : Int))) := ⟨_, rfl⟩
  rw [← eL15]
  have g16 : jGet L15 0 = some (rv (me)) := eL15 ▸ jg_nr (by decide) g13
  have g17 : jGet L15 1 = some (rv (F (me) (2 : Int))) := eL15 ▸ jg_eq
  clear eL15
  exact k_LParser_find_at_5 (X := X) (d := d) (R := R) (m := m) (tg := tg) (ln := ln) (F := F) (me := me) (hd := hd) (hC := hC) (sc := sc) (pg := pg) (o_sc := o_sc) (t_sc := t_sc) (e_sc := e_sc) (o_pg := o_pg) (t_pg := t_pg) (e_pg := e_pg) (o_me := o_me) (t_me := t_me) (c_NP := c_NP) _ L15 (F (me) (2 : Int)) rfl g16 g17 y14 c_NP NM_0
set_option maxRecDepth 20000 in
set_option maxHeartbeats 4000000 in
theorem k_LParser_known {X : jX} {dd : Nat} {R : Nat → jC} {m : Nat} {tg ln : Int → Int} {F : Int → Int → Int} {me : Int} (hd : 2 ≤ dd) (hC : HC 0 m tg ln F) {sc pg : Int} (o_sc : own m sc) (t_sc : tg sc = 11) (e_sc : F me (1 : Int) = sc) (o_pg : own m pg) (t_pg : tg pg = 10) (e_pg : F me (0 : Int) = pg) (o_me : own m me) (t_me : tg me = 9) (p_0 : F sc (8 : Int) + 2 * tz (F sc (15 : Int)) ≤ F sc (7 : Int) + 1) (p_1 : F sc (8 : Int) + 2 * lz (F sc (14 : Int)) ≤ F sc (7 : Int) + 1) (p_2 : F sc (8 : Int) ≤ F sc (7 : Int)) (c_NP : NP m tg F) : wk X dd 170 [rv me] (cV R m tg ln F) (fun o V_q => (∃ (m_q : Nat) (tg_q ln_q : Int → Int) (F_q : Int → Int → Int) (r : Int), V_q = cV R m_q tg_q ln_q F_q ∧ o = .inl (some (rv r)) ∧ Ex m tg ln m_q tg_q ln_q ∧ HC 0 m_q tg_q ln_q F_q ∧ Fq 0 [(10, 0), (10, 1), (10, 2)] m tg F F_q ∧ (own m_q r ∧ tg_q r = 7) ∧ (F_q sc (8 : Int) + 2 * tz (F_q sc (15 : Int)) ≤ F sc (7 : Int) + 1) ∧ (F_q sc (8 : Int) + 2 * lz (F_q sc (14 : Int)) ≤ F sc (7 : Int) + 1) ∧ (F_q sc (8 : Int) ≤ F sc (7 : Int)) ∧ (F_q sc (8 : Int) = F sc (8 : Int)) ∧ (szD m_q tg_q ln_q = szD m tg ln + 25 * ((m_q : Int) - (m : Int))) ∧ ((m_q : Int) = (m : Int)) ∧ (F_q pg (9 : Int) ≤ F pg (9 : Int) + ((m_q : Int) - (m : Int))) ∧ (NP m_q tg_q F_q) ∧ (NM m m_q tg_q) ∧ True) ∨ (∃ (m_q : Nat) (tg_q ln_q : Int → Int) (F_q : Int → Int → Int) (x : Nat), V_q = cV R m_q tg_q ln_q F_q ∧ o = .inr x ∧ Ex m tg ln m_q tg_q ln_q ∧ HC 0 m_q tg_q ln_q F_q ∧ Fq 0 [(10, 0), (10, 1), (10, 2)] m tg F F_q ∧ (own m_q (x : Int)) ∧ (tg_q (x : Int) = 16) ∧ (F_q pg (0 : Int) ≠ 0) ∧ (szD m_q tg_q ln_q = szD m tg ln + 25 * ((m_q : Int) - (m : Int))) ∧ ((m_q : Int) ≤ (m : Int) + (F_q sc (8 : Int) - F sc (8 : Int)) + (1)) ∧ (F_q sc (8 : Int) ≤ F sc (7 : Int) + 1) ∧ (NP m_q tg_q F_q) ∧ (NM m m_q tg_q) ∧ True)) := by
  obtain ⟨d, rfl⟩ : ∃ d, dd = d + 1 := ⟨dd - 1, by omega⟩
  refine wk_of (e := jm170) rfl (by rw [jS_r, jS_0]; exact Nat.le_of_ble_eq_true rfl) ?_
  rw [la_r, la_0]
  show wj X d jm170 (0, [(0, rv (me))], [], cV R m tg ln F) _
  have hM0 : Fq 0 [(10, 0), (10, 1), (10, 2)] m tg F F := Fq_r
  have hX0 : Ex m tg ln m tg ln := Ex_r
  obtain ⟨L0, eL0⟩ : ∃ q : jL, q = [(0, rv (me))] := ⟨_, rfl⟩
  rw [← eL0]
  have g1 : jGet L0 0 = some (rv (me)) := eL0 ▸ (rfl : jGet [(0, rv (me))] 0 = some (rv (me)))
  clear eL0
  have tb0 := tz_b (F sc (15 : Int))
  have lb0 := lz_b (F sc (14 : Int))
  have ob0 : (0 : Int) ≤ F me (3 : Int) ∧ F me (3 : Int) ≤ 8 := HC_i (c := 8) (q := 3) hC o_me t_me (by decide) rfl
  have tp0 : F me (2 : Int) < 64 + (m : Int) := by
    have z : F me (2 : Int) = 0 ∨ (own m (F me (2 : Int)) ∧ tg (F me (2 : Int)) = 7) := HC_r (c := 8) (q := 2) hC o_me t_me (by decide) rfl
    rcases z with w | w
    · omega
    · exact w.1.2.1
  refine jx_ld (pc_q := 1) (l_q := L0) (st_q := [rv (me)]) rfl (jl_rvn g1) ?_
  refine cx_vi (c := 8) (a := me) (st := []) (as := []) rfl rfl rfl o_me t_me (by decide) rfl ⟨rfl, rfl, (Nat.le_of_ble_eq_true rfl)⟩ rfl (k_LParser_find (dd := d) (R := R) (m := m) (tg := tg) (ln := ln) (F := F) (me := me) (hd := by omega) (hC := hC) (o_me := o_me) (t_me := t_me) (sc := sc) (pg := pg) (o_sc := o_sc) (t_sc := t_sc) (e_sc := e_sc) (o_pg := o_pg) (t_pg := t_pg) (e_pg := e_pg) (c_NP := c_NP)) (fun o V_q hq => ?_)
  obtain ⟨r2, rfl, rfl, b3, c4, c5, -⟩ := hq
  refine Or.inr (Or.inl ⟨_, rfl, ?_⟩)
  refine jx_ld (pc_q := 5) (l_q := jSto1 L0 1 (rv (r2))) (st_q := []) rfl (js_rvn (by decide)) ?_
  obtain ⟨L6, eL6⟩ : ∃ q : jL, q = jSto1 L0 1 (rv (r2)) := ⟨_, rfl⟩
  rw [← eL6]
  have g7 : jGet L6 0 = some (rv (me)) := eL6 ▸ jg_nr (by decide) g1
  have g8 : jGet L6 1 = some (rv (r2)) := eL6 ▸ jg_eq
  clear eL6
  refine jx_ld (pc_q := 6) (l_q := L6) (st_q := [rv (r2)]) rfl (jl_rvn g8) ?_
  refine cx_non (pc_q := 9) (tg_q := 21) rfl rfl rfl (fun h9 => ?_) (fun h9 => ?_)
  · have _q := h9
    have ho10 : own m (r2) ∧ tg (r2) = 7 := b3.resolve_left h9
    refine jx_ld (pc_q := 22) (l_q := L6) (st_q := [rv (r2)]) rfl (jl_rvn g8) ?_
    refine jx_rt (v := some (rv (r2))) rfl rfl rfl rfl rfl jr_are ?_
    have q11 := tz_b (F (sc) (15 : Int))
    have q12 := lz_b (F (sc) (14 : Int))
    exact Or.inl ⟨m, tg, ln, F, (r2), rfl, rfl, hX0, hC, hM0, ⟨ho10.1, ho10.2⟩, by omega, by omega, by omega, by omega, by omega, by omega, by omega, c4, NM_0, trivial⟩
  · have _q := h9
    refine jx_ld (pc_q := 10) (l_q := L6) (st_q := [rv (me)]) rfl (jl_rvn g7) ?_
    refine jx_ar (pc_q := 11) (st_q := [.int (i32 (3)), rv (me)]) rfl rfl rfl rfl ?_
    refine jx_ld (pc_q := 12) (l_q := L6) (st_q := [rv (me), .int (i32 (3)), rv (me)]) rfl (jl_rvn g7) ?_
    refine cx_gr (pc_q := 15) (c := 8) (q := 1) (v := sc) rfl rfl (by decide) (by decide) rfl rfl o_me t_me e_sc ?_
    refine cx_gi (pc_q := 18) (c := 10) (q := 16) (v := F (sc) (16 : Int)) rfl rfl (by decide) (by decide) (Or.inl rfl) rfl o_sc t_sc rfl ?_
    have b13 : (-2147483648 : Int) ≤ F (sc) (16 : Int) ∧ F (sc) (16 : Int) ≤ 2147483647 := by have z := HC_i (c := 10) (q := 16) hC o_sc t_sc (by decide) rfl; rw [show F (sc) ((16 : Nat) : Int) = F (sc) (16 : Int) from rfl] at z; exact z
    refine cx_vi (c := 8) (a := me) (st := []) (as := [.int (i32 (3)), .int (i32 (F (sc) (16 : Int)))]) rfl rfl rfl o_me t_me (by decide) rfl ⟨rfl, rfl, (Nat.le_of_ble_eq_true rfl)⟩ rfl (k_LParser_fail (dd := d) (R := R) (m := m) (tg := tg) (ln := ln) (F := F) (me := me) (kd := 3) (pl := F (sc) (16 : Int)) (hd := by omega) (hC := hC) (o_me := o_me) (t_me := t_me) (h_kd := by omega) (h_pl := by omega) (sc := sc) (pg := pg) (o_sc := o_sc) (t_sc := t_sc) (e_sc := e_sc) (o_pg := o_pg) (t_pg := t_pg) (e_pg := e_pg) (p_0 := by omega) (p_1 := by omega) (c_NP := c4)) (fun o V_q hq => ?_)
    obtain ⟨m14, tg14, ln14, F15, rfl, rfl, hx16, hC17, hM18, p19, c20, c21, -⟩ | ⟨m22, tg22, ln22, F22, x22, rfl, rfl, hx22, hC22, hM22, ho22, ht22, p23, p24, p25, p26, c27, c28, -⟩ := hq
    rotate_left
    ·
      have c29 : NM m m22 tg22 := NM_t NM_0 hx22 c28
      have lm30 := hx22.1
      refine Or.inr (Or.inr (Or.inr ⟨_, _, rfl, cx_exc (c := 15) ho22 ht22 (by decide), rfl, ?_⟩))
      exact Or.inr ⟨m22, tg22, ln22, F22, x22, rfl, rfl, Ex_t hX0 hx22, hC22, Fq_t (ln := ln) (ln1 := ln) hM0 hX0 hM22 (by decide) (Or.inl rfl), (And.intro ho22 ht22).1, (And.intro ho22 ht22).2, by omega, by omega, by omega, by omega, c27, c29, trivial⟩
    exact p19.elim
set_option maxRecDepth 20000 in
set_option maxHeartbeats 4000000 in
theorem k_LParser_fresh_at_21 {X : jX} {d : Nat} {R : Nat → jC} {m : Nat} {tg ln : Int → Int} {F : Int → Int → Int} {me kd sz si : Int} (hd : 3 ≤ d + 1) (hC : HC 0 m tg ln F) {sc pg : Int} (o_sc : own m sc) (t_sc : tg sc = 11) (e_sc : F me (1 : Int) = sc) (o_pg : own m pg) (t_pg : tg pg = 10) (e_pg : F me (0 : Int) = pg) (o_me : own m me) (t_me : tg me = 9) (h_kd : (-2147483648 : Int) ≤ kd ∧ kd ≤ 2147483647) (h_sz : (-2147483648 : Int) ≤ sz ∧ sz ≤ 2147483647) (y_si : si = 0 ∨ (own m si ∧ tg si = 7)) (p_0 : F sc (8 : Int) + 2 * tz (F sc (15 : Int)) ≤ F sc (7 : Int) + 1) (p_1 : F sc (8 : Int) + 2 * lz (F sc (14 : Int)) ≤ F sc (7 : Int) + 1) (p_2 : F sc (8 : Int) ≤ F sc (7 : Int)) (c_NP : NP m tg F) : ∀ (mm : Nat) (L : jL) (nm : Int), (nm).toNat = mm → jGet L 0 = some (rv (me)) → jGet L 1 = some (.int (i32 (kd))) → jGet L 2 = some (.int (i32 (sz))) → jGet L 3 = some (rv (si)) → jGet L 4 = some (rv nm) → (nm = 0 ∨ (own m nm ∧ tg nm = 7)) → (F sc (15 : Int) = 2) → (NP m tg F) → (NM m m tg) → wj X d jm171 (21, L, [], cV R m tg ln F) (fun o V_q => (∃ (m_q : Nat) (tg_q ln_q : Int → Int) (F_q : Int → Int → Int) (r : Int), V_q = cV R m_q tg_q ln_q F_q ∧ o = .inl (some (rv r)) ∧ Ex m tg ln m_q tg_q ln_q ∧ HC 0 m_q tg_q ln_q F_q ∧ Fq 0 [(10, 0), (10, 1), (10, 2), (10, 8)] m tg F F_q ∧ (own m_q r ∧ tg_q r = 7) ∧ (F_q sc (8 : Int) + 2 * tz (F_q sc (15 : Int)) ≤ F sc (7 : Int) + 1) ∧ (F_q sc (8 : Int) + 2 * lz (F_q sc (14 : Int)) ≤ F sc (7 : Int) + 1) ∧ (F_q sc (8 : Int) ≤ F sc (7 : Int)) ∧ (F_q sc (8 : Int) = F sc (8 : Int)) ∧ (szD m_q tg_q ln_q = szD m tg ln + 25 * ((m_q : Int) - (m : Int))) ∧ ((m_q : Int) ≤ (m : Int) + (F_q sc (8 : Int) - F sc (8 : Int)) + (1)) ∧ (F_q pg (9 : Int) ≤ F pg (9 : Int) + ((m_q : Int) - (m : Int))) ∧ (64 + (m : Int) ≤ r) ∧ (F me (2 : Int) < r) ∧ (tz (F sc (15 : Int)) = 1) ∧ (F_q r (0 : Int) = kd) ∧ (F_q r (12 : Int) = 0) ∧ (F_q r (13 : Int) = 0) ∧ (F_q r (14 : Int) = 0) ∧ (NP m_q tg_q F_q) ∧ (NM m m_q tg_q) ∧ True) ∨ (∃ (m_q : Nat) (tg_q ln_q : Int → Int) (F_q : Int → Int → Int) (x : Nat), V_q = cV R m_q tg_q ln_q F_q ∧ o = .inr x ∧ Ex m tg ln m_q tg_q ln_q ∧ HC 0 m_q tg_q ln_q F_q ∧ Fq 0 [(10, 0), (10, 1), (10, 2), (10, 8)] m tg F F_q ∧ (own m_q (x : Int)) ∧ (tg_q (x : Int) = 16) ∧ (F_q pg (0 : Int) ≠ 0) ∧ (szD m_q tg_q ln_q = szD m tg ln + 25 * ((m_q : Int) - (m : Int))) ∧ ((m_q : Int) ≤ (m : Int) + (F_q sc (8 : Int) - F sc (8 : Int)) + (1)) ∧ (F_q sc (8 : Int) ≤ F sc (7 : Int) + 1) ∧ (NP m_q tg_q F_q) ∧ (NM m m_q tg_q) ∧ True)) := by
  intro mm
  induction mm using Nat.strongRecOn with
  | ind mm ih =>
    intro L nm hmm gL_0 gL_1 gL_2 gL_3 gL_4 yx_nm iv_0 cx_NP cx_NM
    have hM0 : Fq 0 [(10, 0), (10, 1), (10, 2), (10, 8)] m tg F F := Fq_r
    have hX0 : Ex m tg ln m tg ln := Ex_r
    have tb0 := tz_b (F sc (15 : Int))
    have lb0 := lz_b (F sc (14 : Int))
    have ob0 : (0 : Int) ≤ F me (3 : Int) ∧ F me (3 : Int) ≤ 8 := HC_i (c := 8) (q := 3) hC o_me t_me (by decide) rfl
    have tp0 : F me (2 : Int) < 64 + (m : Int) := by
      have z : F me (2 : Int) = 0 ∨ (own m (F me (2 : Int)) ∧ tg (F me (2 : Int)) = 7) := HC_r (c := 8) (q := 2) hC o_me t_me (by decide) rfl
      rcases z with w | w
      · omega
      · exact w.1.2.1
    refine jx_ld (pc_q := 23) (l_q := L) (st_q := [rv (nm)]) rfl (jl_rv gL_4) ?_
    refine cx_nul (pc_q := 26) (tg_q := 70) rfl rfl rfl (fun h1 => ?_) (fun h1 => ?_)
    · have _q := h1
      have tk2 : tz (F sc (15 : Int)) = 1 := tz_p (by omega)
      refine jx_ld (pc_q := 71) (l_q := L) (st_q := [.int (i32 (kd))]) rfl (jl_iloadn gL_1) ?_
      refine jx_ar (pc_q := 73) (st_q := [.int (i32 (11)), .int (i32 (kd))]) rfl rfl rfl rfl ?_
      refine jx_icmp_ne (pc_q := 76) (tg := 88) rfl rfl rfl (by omega) (by omega) (by decide) (by decide) (fun h2 => ?_) (fun h2 => ?_)
      · have _q := h2
        refine jx_ld (pc_q := 89) (l_q := L) (st_q := [.int (i32 (kd))]) rfl (jl_iloadn gL_1) ?_
        refine jx_ar (pc_q := 91) (st_q := [.int (i32 (10)), .int (i32 (kd))]) rfl rfl rfl rfl ?_
        refine jx_icmp_ne (pc_q := 94) (tg := 110) rfl rfl rfl (by omega) (by omega) (by decide) (by decide) (fun h3 => ?_) (fun h3 => ?_)
        · have _q := h3
          refine jx_ar (pc_q := 111) (st_q := [.int (i32 (0))]) rfl rfl rfl rfl ?_
          refine jx_ld (pc_q := 113) (l_q := jSto1 L 4 (.int (i32 (0)))) (st_q := []) rfl rfl ?_
          obtain ⟨L4, eL4⟩ : ∃ q : jL, q = jSto1 L 4 (.int (i32 (0))) := ⟨_, rfl⟩
          rw [← eL4]
          have g5 : jGet L4 0 = some (rv (me)) := eL4 ▸ jg_nr (by decide) gL_0
          have g6 : jGet L4 1 = some (.int (i32 (kd))) := eL4 ▸ jg_ne (by decide) gL_1 rfl
          have g7 : jGet L4 2 = some (.int (i32 (sz))) := eL4 ▸ jg_ne (by decide) gL_2 rfl
          have g8 : jGet L4 3 = some (rv (si)) := eL4 ▸ jg_nr (by decide) gL_3
          have g9 : jGet L4 4 = some (.int (i32 (0))) := eL4 ▸ jg_eq
          clear eL4
          refine jx_ld (pc_q := 115) (l_q := L4) (st_q := [.int (i32 (0))]) rfl (jl_iload g9) ?_
          refine jx_if_ne (pc_q := 118) (tg := 131) rfl rfl rfl (by decide) (by decide) (fun h10 => ?_) (fun h10 => ?_)
          · have _q := h10
            exact absurd h10 (by omega)
          · have _q := h10
            refine jx_ld (pc_q := 119) (l_q := L4) (st_q := [rv (me)]) rfl (jl_rvn g5) ?_
            refine cx_gr (pc_q := 122) (c := 8) (q := 0) (v := pg) rfl rfl (by decide) (by decide) rfl rfl o_me t_me e_pg ?_
            refine cx_gi (pc_q := 125) (c := 9) (q := 8) (v := F (pg) (8 : Int)) rfl rfl (by decide) (by decide) (Or.inl rfl) rfl o_pg t_pg rfl ?_
            have b11 : (0 : Int) ≤ F (pg) (8 : Int) ∧ F (pg) (8 : Int) ≤ 200 := by have z := HC_i (c := 9) (q := 8) hC o_pg t_pg (by decide) rfl; rw [show F (pg) ((8 : Nat) : Int) = F (pg) (8 : Int) from rfl] at z; exact z
            refine jx_ar (pc_q := 128) (st_q := [.int (i32 (200)), .int (i32 (F (pg) (8 : Int)))]) rfl rfl rfl rfl ?_
            refine jx_icmp_lt (pc_q := 131) (tg := 144) rfl rfl rfl (by omega) (by omega) (by decide) (by decide) (fun h12 => ?_) (fun h12 => ?_)
            · have _q := h12
              refine jx_ld (pc_q := 145) (l_q := L4) (st_q := [rv (me)]) rfl (jl_rvn g5) ?_
              refine cx_gr (pc_q := 148) (c := 8) (q := 0) (v := pg) rfl rfl (by decide) (by decide) rfl rfl o_me t_me e_pg ?_
              refine jx_ar (pc_q := 149) (st_q := [rv (pg), rv (pg)]) rfl rfl ja_dup rfl ?_
              refine cx_gi (pc_q := 152) (c := 9) (q := 8) (v := F (pg) (8 : Int)) rfl rfl (by decide) (by decide) (Or.inl rfl) rfl o_pg t_pg rfl ?_
              refine jx_ar (pc_q := 153) (st_q := [.int (i32 (1)), .int (i32 (F (pg) (8 : Int))), rv (pg)]) rfl rfl rfl rfl ?_
              refine jx_add (pc_q := 154) rfl rfl ?_
              refine cx_pi (pc_q := 157) (c := 9) (q := 8) (qi := (8 : Int)) (z := (F (pg) (8 : Int) + 1)) rfl rfl (by decide) (by decide) rfl rfl rfl (by decide) rfl o_pg t_pg rfl ?_
              obtain ⟨F13, eF13⟩ : ∃ q, q = uF F (pg) (8 : Int) ((F (pg) (8 : Int) + 1)) := ⟨_, rfl⟩
              rw [← eF13]
              have hC14 : HC 0 m tg ln F13 := by rw [eF13]; exact HC_fi (c := 9) (q := 8) hC t_pg (by decide) rfl (by omega) (by omega) ⟨fun w => absurd w (by decide), fun w => absurd w (by decide)⟩
              have hM15 : Fq 0 [(10, 0), (10, 1), (10, 2), (10, 8)] m tg F F13 := by rw [eF13]; exact Fq_p hM0 t_pg (fun w => (hX0.2 _ w).1) rfl
              have c16 : NP m tg F13 := by rw [eF13]; exact NP_u hC cx_NP t_pg (by omega)
              refine cx_newp (pc_q := 160) (c := 6) rfl rfl (by decide) rfl rfl hC14 rfl (by decide) (fun n17 m17 tg17 ln17 F17 en17 em17 ho17 hx17 hC17 hf17 h017 hs17 => ?_)
              have ex17 : 64 + (m : Int) ≤ n17 := by have := hX0.1; omega
              have lm18 := hx17.1
              have lt19 : si < 64 + (m : Int) := by rcases y_si with w | w; (· omega); exact w.1.2.1
              have ho20 : own m17 (me) ∧ tg17 (me) = 9 := Ex_o hx17 ⟨o_me, t_me⟩
              have y21 : si = 0 ∨ (own m17 (si) ∧ tg17 (si) = 7) := Ex_z hx17 y_si
              have ho22 : own m17 (sc) ∧ tg17 (sc) = 11 := Ex_o hx17 ⟨o_sc, t_sc⟩
              have ho23 : own m17 (pg) ∧ tg17 (pg) = 10 := Ex_o hx17 ⟨o_pg, t_pg⟩
              have hX24 := Ex_t hX0 hx17
              have hM25 : Fq 0 [(10, 0), (10, 1), (10, 2), (10, 8)] m tg F F17 := Fq_n hM15 hf17 ex17
              have c26 : NM m m17 tg17 := NM_n cx_NM hC14.1 hx17 en17 em17 ho17.2 (by decide)
              refine jx_ar (pc_q := 161) (st_q := [rv (n17), rv (n17)]) rfl rfl ja_dup rfl ?_
              refine jx_ld (pc_q := 162) (l_q := L4) (st_q := [.int (i32 (kd)), rv (n17), rv (n17)]) rfl (jl_iloadn g6) ?_
              refine jx_ld (pc_q := 163) (l_q := L4) (st_q := [rv (me), .int (i32 (kd)), rv (n17), rv (n17)]) rfl (jl_rvn g5) ?_
              refine cx_gr (pc_q := 166) (c := 8) (q := 1) (v := sc) rfl rfl (by decide) (by decide) rfl rfl ho20.1 ho20.2 (((show F17 (me) (1 : Int) = F13 (me) (1 : Int) from hf17 _ _ (ne_n o_me en17)).trans (show F13 (me) (1 : Int) = F (me) (1 : Int) from by rw [eF13]; exact uF_j (by decide))).trans e_sc) ?_
              refine cx_gl (pc_q := 169) (c := 10) (q := 18) rfl rfl (by decide) (by decide) rfl rfl ho22.1 ho22.2 (fun y27 => ?_)
              refine jx_ld (pc_q := 170) (l_q := L4) (st_q := [rv (me), .long (y27), .int (i32 (kd)), rv (n17), rv (n17)]) rfl (jl_rvn g5) ?_
              refine cx_gr (pc_q := 173) (c := 8) (q := 0) (v := pg) rfl rfl (by decide) (by decide) rfl rfl ho20.1 ho20.2 (((show F17 (me) (0 : Int) = F13 (me) (0 : Int) from hf17 _ _ (ne_n o_me en17)).trans (show F13 (me) (0 : Int) = F (me) (0 : Int) from by rw [eF13]; exact uF_j (by decide))).trans e_pg) ?_
              refine cx_gi (pc_q := 176) (c := 9) (q := 8) (v := (F (pg) (8 : Int) + 1)) rfl rfl (by decide) (by decide) (Or.inl rfl) rfl ho23.1 ho23.2 ((show F17 (pg) (8 : Int) = F13 (pg) (8 : Int) from hf17 _ _ (ne_n o_pg en17)).trans (show F13 (pg) (8 : Int) = (F (pg) (8 : Int) + 1) from by rw [eF13]; exact uF_e)) ?_
              refine jx_ld (pc_q := 177) (l_q := L4) (st_q := [.int (i32 (sz)), .int (i32 ((F (pg) (8 : Int) + 1))), .long (y27), .int (i32 (kd)), rv (n17), rv (n17)]) rfl (jl_iloadn g7) ?_
              refine cx_sp (kd := 2) (a := n17) (st := [rv (n17)]) (as := [.int (i32 (kd)), .long (y27), .int (i32 ((F (pg) (8 : Int) + 1))), .int (i32 (sz))]) rfl rfl (by decide) rfl ho17.1.1 ⟨rfl, (by rw [jS_r, jS_0]; exact Nat.le_of_ble_eq_true rfl)⟩ rfl (k_LName_init (dd := d) (R := R) (m := m17) (tg := tg17) (ln := ln17) (F := F17) (me := n17) (kd := kd) (ky := y27) (nu := (F (pg) (8 : Int) + 1)) (sz := sz) (hd := by omega) (hC := hC17) (o_me := ho17.1) (t_me := ho17.2) (h_kd := by omega) (h_nu := by omega) (h_sz := by omega) (z_me := h017)) (fun o V_q hq => ?_)
              obtain ⟨F28, rfl, rfl, hC29, hM30, p31, zp32, -⟩ := hq
              have hM33 : Fq 0 [(10, 0), (10, 1), (10, 2), (10, 8)] m tg F F28 := Fq_t (ln := ln) (ln1 := ln17) hM25 hX24 hM30 (by decide) (Or.inr (Or.inr ex17))
              have c34 : NP m17 tg17 F28 := NP_nn hC14 c16 hx17 en17 em17 (fun b i ob => (hM30 b i (own_m ob hx17.1) (ne_n ob en17) rfl).trans (hf17 b i (ne_n ob en17))) (fun w => absurd (ho17.2.symm.trans w) (by decide)) (fun _ => ⟨(zp32 _ (by decide) (by decide) (by decide) (by decide)), (zp32 _ (by decide) (by decide) (by decide) (by decide)), (zp32 _ (by decide) (by decide) (by decide) (by decide))⟩) (fun w => absurd (ho17.2.symm.trans w) (by decide))
              refine Or.inl ⟨rfl, ?_⟩
              refine jx_rt (v := some (rv (n17))) rfl rfl rfl rfl rfl jr_are ?_
              have q35 : F28 (sc) (7 : Int) = F (sc) (7 : Int) := ((show F28 (sc) (7 : Int) = F17 (sc) (7 : Int) from hM30 _ _ ho22.1 (fun w => by have q1 := ho22.2; rw [w, ho17.2] at q1; exact absurd q1 (by decide)) (by rw [ho22.2]; rfl)).trans ((show F17 (sc) (7 : Int) = F13 (sc) (7 : Int) from hf17 _ _ (ne_n o_sc en17)).trans (show F13 (sc) (7 : Int) = F (sc) (7 : Int) from by rw [eF13]; exact uF_j (by decide))))
              have q36 : F28 (sc) (8 : Int) = F (sc) (8 : Int) := ((show F28 (sc) (8 : Int) = F17 (sc) (8 : Int) from hM30 _ _ ho22.1 (fun w => by have q1 := ho22.2; rw [w, ho17.2] at q1; exact absurd q1 (by decide)) (by rw [ho22.2]; rfl)).trans ((show F17 (sc) (8 : Int) = F13 (sc) (8 : Int) from hf17 _ _ (ne_n o_sc en17)).trans (show F13 (sc) (8 : Int) = F (sc) (8 : Int) from by rw [eF13]; exact uF_a (fun w => by have q1 := t_sc; have q2 := t_pg; rw [w, q2] at q1; exact absurd q1 (by decide)))))
              have q37 : F28 (pg) (9 : Int) = F (pg) (9 : Int) := ((show F28 (pg) (9 : Int) = F17 (pg) (9 : Int) from hM30 _ _ ho23.1 (fun w => by have q1 := ho23.2; rw [w, ho17.2] at q1; exact absurd q1 (by decide)) (by rw [ho23.2]; rfl)).trans ((show F17 (pg) (9 : Int) = F13 (pg) (9 : Int) from hf17 _ _ (ne_n o_pg en17)).trans (show F13 (pg) (9 : Int) = F (pg) (9 : Int) from by rw [eF13]; exact uF_j (by decide))))
              have q38 : F28 (me) (2 : Int) = F (me) (2 : Int) := ((show F28 (me) (2 : Int) = F17 (me) (2 : Int) from hM30 _ _ ho20.1 (fun w => by have q1 := ho20.2; rw [w, ho17.2] at q1; exact absurd q1 (by decide)) (by rw [ho20.2]; rfl)).trans ((show F17 (me) (2 : Int) = F13 (me) (2 : Int) from hf17 _ _ (ne_n o_me en17)).trans (show F13 (me) (2 : Int) = F (me) (2 : Int) from by rw [eF13]; exact uF_j (by decide))))
              have q39 : F28 (sc) (15 : Int) = F (sc) (15 : Int) := ((show F28 (sc) (15 : Int) = F17 (sc) (15 : Int) from hM30 _ _ ho22.1 (fun w => by have q1 := ho22.2; rw [w, ho17.2] at q1; exact absurd q1 (by decide)) (by rw [ho22.2]; rfl)).trans ((show F17 (sc) (15 : Int) = F13 (sc) (15 : Int) from hf17 _ _ (ne_n o_sc en17)).trans (show F13 (sc) (15 : Int) = F (sc) (15 : Int) from by rw [eF13]; exact uF_j (by decide))))
              have q40 : tz (F28 (sc) (15 : Int)) = tz (F (sc) (15 : Int)) := by rw [q39]
              have q41 := tz_b (F (sc) (15 : Int))
              have q42 : F28 (sc) (8 : Int) = F (sc) (8 : Int) := ((show F28 (sc) (8 : Int) = F17 (sc) (8 : Int) from hM30 _ _ ho22.1 (fun w => by have q1 := ho22.2; rw [w, ho17.2] at q1; exact absurd q1 (by decide)) (by rw [ho22.2]; rfl)).trans ((show F17 (sc) (8 : Int) = F13 (sc) (8 : Int) from hf17 _ _ (ne_n o_sc en17)).trans (show F13 (sc) (8 : Int) = F (sc) (8 : Int) from by rw [eF13]; exact uF_a (fun w => by have q1 := t_sc; have q2 := t_pg; rw [w, q2] at q1; exact absurd q1 (by decide)))))
              have q43 : F28 (sc) (15 : Int) = F (sc) (15 : Int) := ((show F28 (sc) (15 : Int) = F17 (sc) (15 : Int) from hM30 _ _ ho22.1 (fun w => by have q1 := ho22.2; rw [w, ho17.2] at q1; exact absurd q1 (by decide)) (by rw [ho22.2]; rfl)).trans ((show F17 (sc) (15 : Int) = F13 (sc) (15 : Int) from hf17 _ _ (ne_n o_sc en17)).trans (show F13 (sc) (15 : Int) = F (sc) (15 : Int) from by rw [eF13]; exact uF_j (by decide))))
              have q44 : tz (F28 (sc) (15 : Int)) = tz (F (sc) (15 : Int)) := by rw [q43]
              have q45 := tz_b (F (sc) (15 : Int))
              have q46 : F28 (sc) (14 : Int) = F (sc) (14 : Int) := ((show F28 (sc) (14 : Int) = F17 (sc) (14 : Int) from hM30 _ _ ho22.1 (fun w => by have q1 := ho22.2; rw [w, ho17.2] at q1; exact absurd q1 (by decide)) (by rw [ho22.2]; rfl)).trans ((show F17 (sc) (14 : Int) = F13 (sc) (14 : Int) from hf17 _ _ (ne_n o_sc en17)).trans (show F13 (sc) (14 : Int) = F (sc) (14 : Int) from by rw [eF13]; exact uF_j (by decide))))
              have q47 : lz (F28 (sc) (14 : Int)) = lz (F (sc) (14 : Int)) := by rw [q46]
              have q48 := lz_b (F (sc) (14 : Int))
              have q49 : F28 (pg) (9 : Int) = F (pg) (9 : Int) := ((show F28 (pg) (9 : Int) = F17 (pg) (9 : Int) from hM30 _ _ ho23.1 (fun w => by have q1 := ho23.2; rw [w, ho17.2] at q1; exact absurd q1 (by decide)) (by rw [ho23.2]; rfl)).trans ((show F17 (pg) (9 : Int) = F13 (pg) (9 : Int) from hf17 _ _ (ne_n o_pg en17)).trans (show F13 (pg) (9 : Int) = F (pg) (9 : Int) from by rw [eF13]; exact uF_j (by decide))))
              have q50 : F28 (n17) (12 : Int) = 0 := (show F28 (n17) (12 : Int) = 0 from zp32 _ (by decide) (by decide) (by decide) (by decide))
              have q51 : F28 (n17) (13 : Int) = 0 := (show F28 (n17) (13 : Int) = 0 from zp32 _ (by decide) (by decide) (by decide) (by decide))
              have q52 : F28 (n17) (14 : Int) = 0 := (show F28 (n17) (14 : Int) = 0 from zp32 _ (by decide) (by decide) (by decide) (by decide))
              exact Or.inl ⟨m17, tg17, ln17, F28, (n17), rfl, rfl, hX24, hC29, hM33, ⟨ho17.1, ho17.2⟩, by omega, by omega, by omega, by omega, by omega, by omega, by omega, by omega, by omega, by omega, by omega, by omega, by omega, by omega, c34, c26, trivial⟩
            · have _q := h12
              refine jx_ld (pc_q := 132) (l_q := L4) (st_q := [rv (me)]) rfl (jl_rvn g5) ?_
              refine jx_ar (pc_q := 134) (st_q := [.int (i32 (6)), rv (me)]) rfl rfl rfl rfl ?_
              refine jx_ld (pc_q := 135) (l_q := L4) (st_q := [rv (me), .int (i32 (6)), rv (me)]) rfl (jl_rvn g5) ?_
              refine cx_gr (pc_q := 138) (c := 8) (q := 1) (v := sc) rfl rfl (by decide) (by decide) rfl rfl o_me t_me e_sc ?_
              refine cx_gi (pc_q := 141) (c := 10) (q := 16) (v := F (sc) (16 : Int)) rfl rfl (by decide) (by decide) (Or.inl rfl) rfl o_sc t_sc rfl ?_
              have b53 : (-2147483648 : Int) ≤ F (sc) (16 : Int) ∧ F (sc) (16 : Int) ≤ 2147483647 := by have z := HC_i (c := 10) (q := 16) hC o_sc t_sc (by decide) rfl; rw [show F (sc) ((16 : Nat) : Int) = F (sc) (16 : Int) from rfl] at z; exact z
              refine cx_vi (c := 8) (a := me) (st := []) (as := [.int (i32 (6)), .int (i32 (F (sc) (16 : Int)))]) rfl rfl rfl o_me t_me (by decide) rfl ⟨rfl, rfl, (Nat.le_of_ble_eq_true rfl)⟩ rfl (k_LParser_fail (dd := d) (R := R) (m := m) (tg := tg) (ln := ln) (F := F) (me := me) (kd := 6) (pl := F (sc) (16 : Int)) (hd := by omega) (hC := hC) (o_me := o_me) (t_me := t_me) (h_kd := by omega) (h_pl := by omega) (sc := sc) (pg := pg) (o_sc := o_sc) (t_sc := t_sc) (e_sc := e_sc) (o_pg := o_pg) (t_pg := t_pg) (e_pg := e_pg) (p_0 := by omega) (p_1 := by omega) (c_NP := cx_NP)) (fun o V_q hq => ?_)
              obtain ⟨m54, tg54, ln54, F55, rfl, rfl, hx56, hC57, hM58, p59, c60, c61, -⟩ | ⟨m62, tg62, ln62, F62, x62, rfl, rfl, hx62, hC62, hM62, ho62, ht62, p63, p64, p65, p66, c67, c68, -⟩ := hq
              rotate_left
              ·
                have c69 : NM m m62 tg62 := NM_t cx_NM hx62 c68
                have lm70 := hx62.1
                refine Or.inr (Or.inr (Or.inr ⟨_, _, rfl, cx_exc (c := 15) ho62 ht62 (by decide), rfl, ?_⟩))
                exact Or.inr ⟨m62, tg62, ln62, F62, x62, rfl, rfl, Ex_t hX0 hx62, hC62, Fq_t (ln := ln) (ln1 := ln) hM0 hX0 hM62 (by decide) (Or.inl rfl), (And.intro ho62 ht62).1, (And.intro ho62 ht62).2, by omega, by omega, by omega, by omega, c67, c69, trivial⟩
              exact p59.elim
        · have _q := h3
          refine jx_ld (pc_q := 95) (l_q := L) (st_q := [rv (me)]) rfl (jl_rvn gL_0) ?_
          refine cx_gr (pc_q := 98) (c := 8) (q := 0) (v := pg) rfl rfl (by decide) (by decide) rfl rfl o_me t_me e_pg ?_
          refine cx_gi (pc_q := 101) (c := 9) (q := 7) (v := F (pg) (7 : Int)) rfl rfl (by decide) (by decide) (Or.inl rfl) rfl o_pg t_pg rfl ?_
          have b71 : (0 : Int) ≤ F (pg) (7 : Int) ∧ F (pg) (7 : Int) ≤ 12 := by have z := HC_i (c := 9) (q := 7) hC o_pg t_pg (by decide) rfl; rw [show F (pg) ((7 : Nat) : Int) = F (pg) (7 : Int) from rfl] at z; exact z
          refine jx_ar (pc_q := 103) (st_q := [.int (i32 (12)), .int (i32 (F (pg) (7 : Int)))]) rfl rfl rfl rfl ?_
          refine jx_icmp_lt (pc_q := 106) (tg := 110) rfl rfl rfl (by omega) (by omega) (by decide) (by decide) (fun h72 => ?_) (fun h72 => ?_)
          · have _q := h72
            refine jx_ar (pc_q := 111) (st_q := [.int (i32 (0))]) rfl rfl rfl rfl ?_
            refine jx_ld (pc_q := 113) (l_q := jSto1 L 4 (.int (i32 (0)))) (st_q := []) rfl rfl ?_
            obtain ⟨L73, eL73⟩ : ∃ q : jL, q = jSto1 L 4 (.int (i32 (0))) := ⟨_, rfl⟩
            rw [← eL73]
            have g74 : jGet L73 0 = some (rv (me)) := eL73 ▸ jg_nr (by decide) gL_0
            have g75 : jGet L73 1 = some (.int (i32 (kd))) := eL73 ▸ jg_ne (by decide) gL_1 rfl
            have g76 : jGet L73 2 = some (.int (i32 (sz))) := eL73 ▸ jg_ne (by decide) gL_2 rfl
            have g77 : jGet L73 3 = some (rv (si)) := eL73 ▸ jg_nr (by decide) gL_3
            have g78 : jGet L73 4 = some (.int (i32 (0))) := eL73 ▸ jg_eq
            clear eL73
            refine jx_ld (pc_q := 115) (l_q := L73) (st_q := [.int (i32 (0))]) rfl (jl_iload g78) ?_
            refine jx_if_ne (pc_q := 118) (tg := 131) rfl rfl rfl (by decide) (by decide) (fun h79 => ?_) (fun h79 => ?_)
            · have _q := h79
              exact absurd h79 (by omega)
            · have _q := h79
              refine jx_ld (pc_q := 119) (l_q := L73) (st_q := [rv (me)]) rfl (jl_rvn g74) ?_
              refine cx_gr (pc_q := 122) (c := 8) (q := 0) (v := pg) rfl rfl (by decide) (by decide) rfl rfl o_me t_me e_pg ?_
              refine cx_gi (pc_q := 125) (c := 9) (q := 8) (v := F (pg) (8 : Int)) rfl rfl (by decide) (by decide) (Or.inl rfl) rfl o_pg t_pg rfl ?_
              have b80 : (0 : Int) ≤ F (pg) (8 : Int) ∧ F (pg) (8 : Int) ≤ 200 := by have z := HC_i (c := 9) (q := 8) hC o_pg t_pg (by decide) rfl; rw [show F (pg) ((8 : Nat) : Int) = F (pg) (8 : Int) from rfl] at z; exact z
              refine jx_ar (pc_q := 128) (st_q := [.int (i32 (200)), .int (i32 (F (pg) (8 : Int)))]) rfl rfl rfl rfl ?_
              refine jx_icmp_lt (pc_q := 131) (tg := 144) rfl rfl rfl (by omega) (by omega) (by decide) (by decide) (fun h81 => ?_) (fun h81 => ?_)
              · have _q := h81
                refine jx_ld (pc_q := 145) (l_q := L73) (st_q := [rv (me)]) rfl (jl_rvn g74) ?_
                refine cx_gr (pc_q := 148) (c := 8) (q := 0) (v := pg) rfl rfl (by decide) (by decide) rfl rfl o_me t_me e_pg ?_
                refine jx_ar (pc_q := 149) (st_q := [rv (pg), rv (pg)]) rfl rfl ja_dup rfl ?_
                refine cx_gi (pc_q := 152) (c := 9) (q := 8) (v := F (pg) (8 : Int)) rfl rfl (by decide) (by decide) (Or.inl rfl) rfl o_pg t_pg rfl ?_
                refine jx_ar (pc_q := 153) (st_q := [.int (i32 (1)), .int (i32 (F (pg) (8 : Int))), rv (pg)]) rfl rfl rfl rfl ?_
                refine jx_add (pc_q := 154) rfl rfl ?_
                refine cx_pi (pc_q := 157) (c := 9) (q := 8) (qi := (8 : Int)) (z := (F (pg) (8 : Int) + 1)) rfl rfl (by decide) (by decide) rfl rfl rfl (by decide) rfl o_pg t_pg rfl ?_
                obtain ⟨F82, eF82⟩ : ∃ q, q = uF F (pg) (8 : Int) ((F (pg) (8 : Int) + 1)) := ⟨_, rfl⟩
                rw [← eF82]
                have hC83 : HC 0 m tg ln F82 := by rw [eF82]; exact HC_fi (c := 9) (q := 8) hC t_pg (by decide) rfl (by omega) (by omega) ⟨fun w => absurd w (by decide), fun w => absurd w (by decide)⟩
                have hM84 : Fq 0 [(10, 0), (10, 1), (10, 2), (10, 8)] m tg F F82 := by rw [eF82]; exact Fq_p hM0 t_pg (fun w => (hX0.2 _ w).1) rfl
                have c85 : NP m tg F82 := by rw [eF82]; exact NP_u hC cx_NP t_pg (by omega)
                refine cx_newp (pc_q := 160) (c := 6) rfl rfl (by decide) rfl rfl hC83 rfl (by decide) (fun n86 m86 tg86 ln86 F86 en86 em86 ho86 hx86 hC86 hf86 h086 hs86 => ?_)
                have ex86 : 64 + (m : Int) ≤ n86 := by have := hX0.1; omega
                have lm87 := hx86.1
                have lt88 : si < 64 + (m : Int) := by rcases y_si with w | w; (· omega); exact w.1.2.1
                have ho89 : own m86 (me) ∧ tg86 (me) = 9 := Ex_o hx86 ⟨o_me, t_me⟩
                have y90 : si = 0 ∨ (own m86 (si) ∧ tg86 (si) = 7) := Ex_z hx86 y_si
                have ho91 : own m86 (sc) ∧ tg86 (sc) = 11 := Ex_o hx86 ⟨o_sc, t_sc⟩
                have ho92 : own m86 (pg) ∧ tg86 (pg) = 10 := Ex_o hx86 ⟨o_pg, t_pg⟩
                have hX93 := Ex_t hX0 hx86
                have hM94 : Fq 0 [(10, 0), (10, 1), (10, 2), (10, 8)] m tg F F86 := Fq_n hM84 hf86 ex86
                have c95 : NM m m86 tg86 := NM_n cx_NM hC83.1 hx86 en86 em86 ho86.2 (by decide)
                refine jx_ar (pc_q := 161) (st_q := [rv (n86), rv (n86)]) rfl rfl ja_dup rfl ?_
                refine jx_ld (pc_q := 162) (l_q := L73) (st_q := [.int (i32 (kd)), rv (n86), rv (n86)]) rfl (jl_iloadn g75) ?_
                refine jx_ld (pc_q := 163) (l_q := L73) (st_q := [rv (me), .int (i32 (kd)), rv (n86), rv (n86)]) rfl (jl_rvn g74) ?_
                refine cx_gr (pc_q := 166) (c := 8) (q := 1) (v := sc) rfl rfl (by decide) (by decide) rfl rfl ho89.1 ho89.2 (((show F86 (me) (1 : Int) = F82 (me) (1 : Int) from hf86 _ _ (ne_n o_me en86)).trans (show F82 (me) (1 : Int) = F (me) (1 : Int) from by rw [eF82]; exact uF_j (by decide))).trans e_sc) ?_
                refine cx_gl (pc_q := 169) (c := 10) (q := 18) rfl rfl (by decide) (by decide) rfl rfl ho91.1 ho91.2 (fun y96 => ?_)
                refine jx_ld (pc_q := 170) (l_q := L73) (st_q := [rv (me), .long (y96), .int (i32 (kd)), rv (n86), rv (n86)]) rfl (jl_rvn g74) ?_
                refine cx_gr (pc_q := 173) (c := 8) (q := 0) (v := pg) rfl rfl (by decide) (by decide) rfl rfl ho89.1 ho89.2 (((show F86 (me) (0 : Int) = F82 (me) (0 : Int) from hf86 _ _ (ne_n o_me en86)).trans (show F82 (me) (0 : Int) = F (me) (0 : Int) from by rw [eF82]; exact uF_j (by decide))).trans e_pg) ?_
                refine cx_gi (pc_q := 176) (c := 9) (q := 8) (v := (F (pg) (8 : Int) + 1)) rfl rfl (by decide) (by decide) (Or.inl rfl) rfl ho92.1 ho92.2 ((show F86 (pg) (8 : Int) = F82 (pg) (8 : Int) from hf86 _ _ (ne_n o_pg en86)).trans (show F82 (pg) (8 : Int) = (F (pg) (8 : Int) + 1) from by rw [eF82]; exact uF_e)) ?_
                refine jx_ld (pc_q := 177) (l_q := L73) (st_q := [.int (i32 (sz)), .int (i32 ((F (pg) (8 : Int) + 1))), .long (y96), .int (i32 (kd)), rv (n86), rv (n86)]) rfl (jl_iloadn g76) ?_
                refine cx_sp (kd := 2) (a := n86) (st := [rv (n86)]) (as := [.int (i32 (kd)), .long (y96), .int (i32 ((F (pg) (8 : Int) + 1))), .int (i32 (sz))]) rfl rfl (by decide) rfl ho86.1.1 ⟨rfl, (by rw [jS_r, jS_0]; exact Nat.le_of_ble_eq_true rfl)⟩ rfl (k_LName_init (dd := d) (R := R) (m := m86) (tg := tg86) (ln := ln86) (F := F86) (me := n86) (kd := kd) (ky := y96) (nu := (F (pg) (8 : Int) + 1)) (sz := sz) (hd := by omega) (hC := hC86) (o_me := ho86.1) (t_me := ho86.2) (h_kd := by omega) (h_nu := by omega) (h_sz := by omega) (z_me := h086)) (fun o V_q hq => ?_)
                obtain ⟨F97, rfl, rfl, hC98, hM99, p100, zp101, -⟩ := hq
                have hM102 : Fq 0 [(10, 0), (10, 1), (10, 2), (10, 8)] m tg F F97 := Fq_t (ln := ln) (ln1 := ln86) hM94 hX93 hM99 (by decide) (Or.inr (Or.inr ex86))
                have c103 : NP m86 tg86 F97 := NP_nn hC83 c85 hx86 en86 em86 (fun b i ob => (hM99 b i (own_m ob hx86.1) (ne_n ob en86) rfl).trans (hf86 b i (ne_n ob en86))) (fun w => absurd (ho86.2.symm.trans w) (by decide)) (fun _ => ⟨(zp101 _ (by decide) (by decide) (by decide) (by decide)), (zp101 _ (by decide) (by decide) (by decide) (by decide)), (zp101 _ (by decide) (by decide) (by decide) (by decide))⟩) (fun w => absurd (ho86.2.symm.trans w) (by decide))
                refine Or.inl ⟨rfl, ?_⟩
                refine jx_rt (v := some (rv (n86))) rfl rfl rfl rfl rfl jr_are ?_
                have q104 : F97 (sc) (7 : Int) = F (sc) (7 : Int) := ((show F97 (sc) (7 : Int) = F86 (sc) (7 : Int) from hM99 _ _ ho91.1 (fun w => by have q1 := ho91.2; rw [w, ho86.2] at q1; exact absurd q1 (by decide)) (by rw [ho91.2]; rfl)).trans ((show F86 (sc) (7 : Int) = F82 (sc) (7 : Int) from hf86 _ _ (ne_n o_sc en86)).trans (show F82 (sc) (7 : Int) = F (sc) (7 : Int) from by rw [eF82]; exact uF_j (by decide))))
                have q105 : F97 (sc) (8 : Int) = F (sc) (8 : Int) := ((show F97 (sc) (8 : Int) = F86 (sc) (8 : Int) from hM99 _ _ ho91.1 (fun w => by have q1 := ho91.2; rw [w, ho86.2] at q1; exact absurd q1 (by decide)) (by rw [ho91.2]; rfl)).trans ((show F86 (sc) (8 : Int) = F82 (sc) (8 : Int) from hf86 _ _ (ne_n o_sc en86)).trans (show F82 (sc) (8 : Int) = F (sc) (8 : Int) from by rw [eF82]; exact uF_a (fun w => by have q1 := t_sc; have q2 := t_pg; rw [w, q2] at q1; exact absurd q1 (by decide)))))
                have q106 : F97 (pg) (9 : Int) = F (pg) (9 : Int) := ((show F97 (pg) (9 : Int) = F86 (pg) (9 : Int) from hM99 _ _ ho92.1 (fun w => by have q1 := ho92.2; rw [w, ho86.2] at q1; exact absurd q1 (by decide)) (by rw [ho92.2]; rfl)).trans ((show F86 (pg) (9 : Int) = F82 (pg) (9 : Int) from hf86 _ _ (ne_n o_pg en86)).trans (show F82 (pg) (9 : Int) = F (pg) (9 : Int) from by rw [eF82]; exact uF_j (by decide))))
                have q107 : F97 (me) (2 : Int) = F (me) (2 : Int) := ((show F97 (me) (2 : Int) = F86 (me) (2 : Int) from hM99 _ _ ho89.1 (fun w => by have q1 := ho89.2; rw [w, ho86.2] at q1; exact absurd q1 (by decide)) (by rw [ho89.2]; rfl)).trans ((show F86 (me) (2 : Int) = F82 (me) (2 : Int) from hf86 _ _ (ne_n o_me en86)).trans (show F82 (me) (2 : Int) = F (me) (2 : Int) from by rw [eF82]; exact uF_j (by decide))))
                have q108 : F97 (sc) (15 : Int) = F (sc) (15 : Int) := ((show F97 (sc) (15 : Int) = F86 (sc) (15 : Int) from hM99 _ _ ho91.1 (fun w => by have q1 := ho91.2; rw [w, ho86.2] at q1; exact absurd q1 (by decide)) (by rw [ho91.2]; rfl)).trans ((show F86 (sc) (15 : Int) = F82 (sc) (15 : Int) from hf86 _ _ (ne_n o_sc en86)).trans (show F82 (sc) (15 : Int) = F (sc) (15 : Int) from by rw [eF82]; exact uF_j (by decide))))
                have q109 : tz (F97 (sc) (15 : Int)) = tz (F (sc) (15 : Int)) := by rw [q108]
                have q110 := tz_b (F (sc) (15 : Int))
                have q111 : F97 (sc) (8 : Int) = F (sc) (8 : Int) := ((show F97 (sc) (8 : Int) = F86 (sc) (8 : Int) from hM99 _ _ ho91.1 (fun w => by have q1 := ho91.2; rw [w, ho86.2] at q1; exact absurd q1 (by decide)) (by rw [ho91.2]; rfl)).trans ((show F86 (sc) (8 : Int) = F82 (sc) (8 : Int) from hf86 _ _ (ne_n o_sc en86)).trans (show F82 (sc) (8 : Int) = F (sc) (8 : Int) from by rw [eF82]; exact uF_a (fun w => by have q1 := t_sc; have q2 := t_pg; rw [w, q2] at q1; exact absurd q1 (by decide)))))
                have q112 : F97 (sc) (15 : Int) = F (sc) (15 : Int) := ((show F97 (sc) (15 : Int) = F86 (sc) (15 : Int) from hM99 _ _ ho91.1 (fun w => by have q1 := ho91.2; rw [w, ho86.2] at q1; exact absurd q1 (by decide)) (by rw [ho91.2]; rfl)).trans ((show F86 (sc) (15 : Int) = F82 (sc) (15 : Int) from hf86 _ _ (ne_n o_sc en86)).trans (show F82 (sc) (15 : Int) = F (sc) (15 : Int) from by rw [eF82]; exact uF_j (by decide))))
                have q113 : tz (F97 (sc) (15 : Int)) = tz (F (sc) (15 : Int)) := by rw [q112]
                have q114 := tz_b (F (sc) (15 : Int))
                have q115 : F97 (sc) (14 : Int) = F (sc) (14 : Int) := ((show F97 (sc) (14 : Int) = F86 (sc) (14 : Int) from hM99 _ _ ho91.1 (fun w => by have q1 := ho91.2; rw [w, ho86.2] at q1; exact absurd q1 (by decide)) (by rw [ho91.2]; rfl)).trans ((show F86 (sc) (14 : Int) = F82 (sc) (14 : Int) from hf86 _ _ (ne_n o_sc en86)).trans (show F82 (sc) (14 : Int) = F (sc) (14 : Int) from by rw [eF82]; exact uF_j (by decide))))
                have q116 : lz (F97 (sc) (14 : Int)) = lz (F (sc) (14 : Int)) := by rw [q115]
                have q117 := lz_b (F (sc) (14 : Int))
                have q118 : F97 (pg) (9 : Int) = F (pg) (9 : Int) := ((show F97 (pg) (9 : Int) = F86 (pg) (9 : Int) from hM99 _ _ ho92.1 (fun w => by have q1 := ho92.2; rw [w, ho86.2] at q1; exact absurd q1 (by decide)) (by rw [ho92.2]; rfl)).trans ((show F86 (pg) (9 : Int) = F82 (pg) (9 : Int) from hf86 _ _ (ne_n o_pg en86)).trans (show F82 (pg) (9 : Int) = F (pg) (9 : Int) from by rw [eF82]; exact uF_j (by decide))))
                have q119 : F97 (n86) (12 : Int) = 0 := (show F97 (n86) (12 : Int) = 0 from zp101 _ (by decide) (by decide) (by decide) (by decide))
                have q120 : F97 (n86) (13 : Int) = 0 := (show F97 (n86) (13 : Int) = 0 from zp101 _ (by decide) (by decide) (by decide) (by decide))
                have q121 : F97 (n86) (14 : Int) = 0 := (show F97 (n86) (14 : Int) = 0 from zp101 _ (by decide) (by decide) (by decide) (by decide))
                exact Or.inl ⟨m86, tg86, ln86, F97, (n86), rfl, rfl, hX93, hC98, hM102, ⟨ho86.1, ho86.2⟩, by omega, by omega, by omega, by omega, by omega, by omega, by omega, by omega, by omega, by omega, by omega, by omega, by omega, by omega, c103, c95, trivial⟩
              · have _q := h81
                refine jx_ld (pc_q := 132) (l_q := L73) (st_q := [rv (me)]) rfl (jl_rvn g74) ?_
                refine jx_ar (pc_q := 134) (st_q := [.int (i32 (6)), rv (me)]) rfl rfl rfl rfl ?_
                refine jx_ld (pc_q := 135) (l_q := L73) (st_q := [rv (me), .int (i32 (6)), rv (me)]) rfl (jl_rvn g74) ?_
                refine cx_gr (pc_q := 138) (c := 8) (q := 1) (v := sc) rfl rfl (by decide) (by decide) rfl rfl o_me t_me e_sc ?_
                refine cx_gi (pc_q := 141) (c := 10) (q := 16) (v := F (sc) (16 : Int)) rfl rfl (by decide) (by decide) (Or.inl rfl) rfl o_sc t_sc rfl ?_
                have b122 : (-2147483648 : Int) ≤ F (sc) (16 : Int) ∧ F (sc) (16 : Int) ≤ 2147483647 := by have z := HC_i (c := 10) (q := 16) hC o_sc t_sc (by decide) rfl; rw [show F (sc) ((16 : Nat) : Int) = F (sc) (16 : Int) from rfl] at z; exact z
                refine cx_vi (c := 8) (a := me) (st := []) (as := [.int (i32 (6)), .int (i32 (F (sc) (16 : Int)))]) rfl rfl rfl o_me t_me (by decide) rfl ⟨rfl, rfl, (Nat.le_of_ble_eq_true rfl)⟩ rfl (k_LParser_fail (dd := d) (R := R) (m := m) (tg := tg) (ln := ln) (F := F) (me := me) (kd := 6) (pl := F (sc) (16 : Int)) (hd := by omega) (hC := hC) (o_me := o_me) (t_me := t_me) (h_kd := by omega) (h_pl := by omega) (sc := sc) (pg := pg) (o_sc := o_sc) (t_sc := t_sc) (e_sc := e_sc) (o_pg := o_pg) (t_pg := t_pg) (e_pg := e_pg) (p_0 := by omega) (p_1 := by omega) (c_NP := cx_NP)) (fun o V_q hq => ?_)
                obtain ⟨m123, tg123, ln123, F124, rfl, rfl, hx125, hC126, hM127, p128, c129, c130, -⟩ | ⟨m131, tg131, ln131, F131, x131, rfl, rfl, hx131, hC131, hM131, ho131, ht131, p132, p133, p134, p135, c136, c137, -⟩ := hq
                rotate_left
                ·
                  have c138 : NM m m131 tg131 := NM_t cx_NM hx131 c137
                  have lm139 := hx131.1
                  refine Or.inr (Or.inr (Or.inr ⟨_, _, rfl, cx_exc (c := 15) ho131 ht131 (by decide), rfl, ?_⟩))
                  exact Or.inr ⟨m131, tg131, ln131, F131, x131, rfl, rfl, Ex_t hX0 hx131, hC131, Fq_t (ln := ln) (ln1 := ln) hM0 hX0 hM131 (by decide) (Or.inl rfl), (And.intro ho131 ht131).1, (And.intro ho131 ht131).2, by omega, by omega, by omega, by omega, c136, c138, trivial⟩
                exact p128.elim
          · have _q := h72
            refine jx_ar (pc_q := 107) (st_q := [.int (i32 (1))]) rfl rfl rfl rfl ?_
            refine jx_go (tg := 111) rfl rfl ?_
            refine jx_ld (pc_q := 113) (l_q := jSto1 L 4 (.int (i32 (1)))) (st_q := []) rfl rfl ?_
            obtain ⟨L140, eL140⟩ : ∃ q : jL, q = jSto1 L 4 (.int (i32 (1))) := ⟨_, rfl⟩
            rw [← eL140]
            have g141 : jGet L140 0 = some (rv (me)) := eL140 ▸ jg_nr (by decide) gL_0
            have g142 : jGet L140 1 = some (.int (i32 (kd))) := eL140 ▸ jg_ne (by decide) gL_1 rfl
            have g143 : jGet L140 2 = some (.int (i32 (sz))) := eL140 ▸ jg_ne (by decide) gL_2 rfl
            have g144 : jGet L140 3 = some (rv (si)) := eL140 ▸ jg_nr (by decide) gL_3
            have g145 : jGet L140 4 = some (.int (i32 (1))) := eL140 ▸ jg_eq
            clear eL140
            refine jx_ld (pc_q := 115) (l_q := L140) (st_q := [.int (i32 (1))]) rfl (jl_iload g145) ?_
            refine jx_if_ne (pc_q := 118) (tg := 131) rfl rfl rfl (by decide) (by decide) (fun h146 => ?_) (fun h146 => ?_)
            · have _q := h146
              refine jx_ld (pc_q := 132) (l_q := L140) (st_q := [rv (me)]) rfl (jl_rvn g141) ?_
              refine jx_ar (pc_q := 134) (st_q := [.int (i32 (6)), rv (me)]) rfl rfl rfl rfl ?_
              refine jx_ld (pc_q := 135) (l_q := L140) (st_q := [rv (me), .int (i32 (6)), rv (me)]) rfl (jl_rvn g141) ?_
              refine cx_gr (pc_q := 138) (c := 8) (q := 1) (v := sc) rfl rfl (by decide) (by decide) rfl rfl o_me t_me e_sc ?_
              refine cx_gi (pc_q := 141) (c := 10) (q := 16) (v := F (sc) (16 : Int)) rfl rfl (by decide) (by decide) (Or.inl rfl) rfl o_sc t_sc rfl ?_
              have b147 : (-2147483648 : Int) ≤ F (sc) (16 : Int) ∧ F (sc) (16 : Int) ≤ 2147483647 := by have z := HC_i (c := 10) (q := 16) hC o_sc t_sc (by decide) rfl; rw [show F (sc) ((16 : Nat) : Int) = F (sc) (16 : Int) from rfl] at z; exact z
              refine cx_vi (c := 8) (a := me) (st := []) (as := [.int (i32 (6)), .int (i32 (F (sc) (16 : Int)))]) rfl rfl rfl o_me t_me (by decide) rfl ⟨rfl, rfl, (Nat.le_of_ble_eq_true rfl)⟩ rfl (k_LParser_fail (dd := d) (R := R) (m := m) (tg := tg) (ln := ln) (F := F) (me := me) (kd := 6) (pl := F (sc) (16 : Int)) (hd := by omega) (hC := hC) (o_me := o_me) (t_me := t_me) (h_kd := by omega) (h_pl := by omega) (sc := sc) (pg := pg) (o_sc := o_sc) (t_sc := t_sc) (e_sc := e_sc) (o_pg := o_pg) (t_pg := t_pg) (e_pg := e_pg) (p_0 := by omega) (p_1 := by omega) (c_NP := cx_NP)) (fun o V_q hq => ?_)
              obtain ⟨m148, tg148, ln148, F149, rfl, rfl, hx150, hC151, hM152, p153, c154, c155, -⟩ | ⟨m156, tg156, ln156, F156, x156, rfl, rfl, hx156, hC156, hM156, ho156, ht156, p157, p158, p159, p160, c161, c162, -⟩ := hq
              rotate_left
              ·
                have c163 : NM m m156 tg156 := NM_t cx_NM hx156 c162
                have lm164 := hx156.1
                refine Or.inr (Or.inr (Or.inr ⟨_, _, rfl, cx_exc (c := 15) ho156 ht156 (by decide), rfl, ?_⟩))
                exact Or.inr ⟨m156, tg156, ln156, F156, x156, rfl, rfl, Ex_t hX0 hx156, hC156, Fq_t (ln := ln) (ln1 := ln) hM0 hX0 hM156 (by decide) (Or.inl rfl), (And.intro ho156 ht156).1, (And.intro ho156 ht156).2, by omega, by omega, by omega, by omega, c161, c163, trivial⟩
              exact p153.elim
            · have _q := h146
              exact absurd h146 (by omega)
      · have _q := h2
        refine jx_ld (pc_q := 77) (l_q := L) (st_q := [rv (me)]) rfl (jl_rvn gL_0) ?_
        refine cx_gr (pc_q := 80) (c := 8) (q := 0) (v := pg) rfl rfl (by decide) (by decide) rfl rfl o_me t_me e_pg ?_
        refine cx_gi (pc_q := 83) (c := 9) (q := 5) (v := F (pg) (5 : Int)) rfl rfl (by decide) (by decide) (Or.inl rfl) rfl o_pg t_pg rfl ?_
        have b165 : (0 : Int) ≤ F (pg) (5 : Int) ∧ F (pg) (5 : Int) ≤ 24 := by have z := HC_i (c := 9) (q := 5) hC o_pg t_pg (by decide) rfl; rw [show F (pg) ((5 : Nat) : Int) = F (pg) (5 : Int) from rfl] at z; exact z
        refine jx_ar (pc_q := 85) (st_q := [.int (i32 (24)), .int (i32 (F (pg) (5 : Int)))]) rfl rfl rfl rfl ?_
        refine jx_icmp_ge (pc_q := 88) (tg := 106) rfl rfl rfl (by omega) (by omega) (by decide) (by decide) (fun h166 => ?_) (fun h166 => ?_)
        · have _q := h166
          refine jx_ar (pc_q := 107) (st_q := [.int (i32 (1))]) rfl rfl rfl rfl ?_
          refine jx_go (tg := 111) rfl rfl ?_
          refine jx_ld (pc_q := 113) (l_q := jSto1 L 4 (.int (i32 (1)))) (st_q := []) rfl rfl ?_
          obtain ⟨L167, eL167⟩ : ∃ q : jL, q = jSto1 L 4 (.int (i32 (1))) := ⟨_, rfl⟩
          rw [← eL167]
          have g168 : jGet L167 0 = some (rv (me)) := eL167 ▸ jg_nr (by decide) gL_0
          have g169 : jGet L167 1 = some (.int (i32 (kd))) := eL167 ▸ jg_ne (by decide) gL_1 rfl
          have g170 : jGet L167 2 = some (.int (i32 (sz))) := eL167 ▸ jg_ne (by decide) gL_2 rfl
          have g171 : jGet L167 3 = some (rv (si)) := eL167 ▸ jg_nr (by decide) gL_3
          have g172 : jGet L167 4 = some (.int (i32 (1))) := eL167 ▸ jg_eq
          clear eL167
          refine jx_ld (pc_q := 115) (l_q := L167) (st_q := [.int (i32 (1))]) rfl (jl_iload g172) ?_
          refine jx_if_ne (pc_q := 118) (tg := 131) rfl rfl rfl (by decide) (by decide) (fun h173 => ?_) (fun h173 => ?_)
          · have _q := h173
            refine jx_ld (pc_q := 132) (l_q := L167) (st_q := [rv (me)]) rfl (jl_rvn g168) ?_
            refine jx_ar (pc_q := 134) (st_q := [.int (i32 (6)), rv (me)]) rfl rfl rfl rfl ?_
            refine jx_ld (pc_q := 135) (l_q := L167) (st_q := [rv (me), .int (i32 (6)), rv (me)]) rfl (jl_rvn g168) ?_
            refine cx_gr (pc_q := 138) (c := 8) (q := 1) (v := sc) rfl rfl (by decide) (by decide) rfl rfl o_me t_me e_sc ?_
            refine cx_gi (pc_q := 141) (c := 10) (q := 16) (v := F (sc) (16 : Int)) rfl rfl (by decide) (by decide) (Or.inl rfl) rfl o_sc t_sc rfl ?_
            have b174 : (-2147483648 : Int) ≤ F (sc) (16 : Int) ∧ F (sc) (16 : Int) ≤ 2147483647 := by have z := HC_i (c := 10) (q := 16) hC o_sc t_sc (by decide) rfl; rw [show F (sc) ((16 : Nat) : Int) = F (sc) (16 : Int) from rfl] at z; exact z
            refine cx_vi (c := 8) (a := me) (st := []) (as := [.int (i32 (6)), .int (i32 (F (sc) (16 : Int)))]) rfl rfl rfl o_me t_me (by decide) rfl ⟨rfl, rfl, (Nat.le_of_ble_eq_true rfl)⟩ rfl (k_LParser_fail (dd := d) (R := R) (m := m) (tg := tg) (ln := ln) (F := F) (me := me) (kd := 6) (pl := F (sc) (16 : Int)) (hd := by omega) (hC := hC) (o_me := o_me) (t_me := t_me) (h_kd := by omega) (h_pl := by omega) (sc := sc) (pg := pg) (o_sc := o_sc) (t_sc := t_sc) (e_sc := e_sc) (o_pg := o_pg) (t_pg := t_pg) (e_pg := e_pg) (p_0 := by omega) (p_1 := by omega) (c_NP := cx_NP)) (fun o V_q hq => ?_)
            obtain ⟨m175, tg175, ln175, F176, rfl, rfl, hx177, hC178, hM179, p180, c181, c182, -⟩ | ⟨m183, tg183, ln183, F183, x183, rfl, rfl, hx183, hC183, hM183, ho183, ht183, p184, p185, p186, p187, c188, c189, -⟩ := hq
            rotate_left
            ·
              have c190 : NM m m183 tg183 := NM_t cx_NM hx183 c189
              have lm191 := hx183.1
              refine Or.inr (Or.inr (Or.inr ⟨_, _, rfl, cx_exc (c := 15) ho183 ht183 (by decide), rfl, ?_⟩))
              exact Or.inr ⟨m183, tg183, ln183, F183, x183, rfl, rfl, Ex_t hX0 hx183, hC183, Fq_t (ln := ln) (ln1 := ln) hM0 hX0 hM183 (by decide) (Or.inl rfl), (And.intro ho183 ht183).1, (And.intro ho183 ht183).2, by omega, by omega, by omega, by omega, c188, c190, trivial⟩
            exact p180.elim
          · have _q := h173
            exact absurd h173 (by omega)
        · have _q := h166
          refine jx_ld (pc_q := 89) (l_q := L) (st_q := [.int (i32 (kd))]) rfl (jl_iloadn gL_1) ?_
          refine jx_ar (pc_q := 91) (st_q := [.int (i32 (10)), .int (i32 (kd))]) rfl rfl rfl rfl ?_
          refine jx_icmp_ne (pc_q := 94) (tg := 110) rfl rfl rfl (by omega) (by omega) (by decide) (by decide) (fun h192 => ?_) (fun h192 => ?_)
          · have _q := h192
            refine jx_ar (pc_q := 111) (st_q := [.int (i32 (0))]) rfl rfl rfl rfl ?_
            refine jx_ld (pc_q := 113) (l_q := jSto1 L 4 (.int (i32 (0)))) (st_q := []) rfl rfl ?_
            obtain ⟨L193, eL193⟩ : ∃ q : jL, q = jSto1 L 4 (.int (i32 (0))) := ⟨_, rfl⟩
            rw [← eL193]
            have g194 : jGet L193 0 = some (rv (me)) := eL193 ▸ jg_nr (by decide) gL_0
            have g195 : jGet L193 1 = some (.int (i32 (kd))) := eL193 ▸ jg_ne (by decide) gL_1 rfl
            have g196 : jGet L193 2 = some (.int (i32 (sz))) := eL193 ▸ jg_ne (by decide) gL_2 rfl
            have g197 : jGet L193 3 = some (rv (si)) := eL193 ▸ jg_nr (by decide) gL_3
            have g198 : jGet L193 4 = some (.int (i32 (0))) := eL193 ▸ jg_eq
            clear eL193
            refine jx_ld (pc_q := 115) (l_q := L193) (st_q := [.int (i32 (0))]) rfl (jl_iload g198) ?_
            refine jx_if_ne (pc_q := 118) (tg := 131) rfl rfl rfl (by decide) (by decide) (fun h199 => ?_) (fun h199 => ?_)
            · have _q := h199
              exact absurd h199 (by omega)
            · have _q := h199
              refine jx_ld (pc_q := 119) (l_q := L193) (st_q := [rv (me)]) rfl (jl_rvn g194) ?_
              refine cx_gr (pc_q := 122) (c := 8) (q := 0) (v := pg) rfl rfl (by decide) (by decide) rfl rfl o_me t_me e_pg ?_
              refine cx_gi (pc_q := 125) (c := 9) (q := 8) (v := F (pg) (8 : Int)) rfl rfl (by decide) (by decide) (Or.inl rfl) rfl o_pg t_pg rfl ?_
              have b200 : (0 : Int) ≤ F (pg) (8 : Int) ∧ F (pg) (8 : Int) ≤ 200 := by have z := HC_i (c := 9) (q := 8) hC o_pg t_pg (by decide) rfl; rw [show F (pg) ((8 : Nat) : Int) = F (pg) (8 : Int) from rfl] at z; exact z
              refine jx_ar (pc_q := 128) (st_q := [.int (i32 (200)), .int (i32 (F (pg) (8 : Int)))]) rfl rfl rfl rfl ?_
              refine jx_icmp_lt (pc_q := 131) (tg := 144) rfl rfl rfl (by omega) (by omega) (by decide) (by decide) (fun h201 => ?_) (fun h201 => ?_)
              · have _q := h201
                refine jx_ld (pc_q := 145) (l_q := L193) (st_q := [rv (me)]) rfl (jl_rvn g194) ?_
                refine cx_gr (pc_q := 148) (c := 8) (q := 0) (v := pg) rfl rfl (by decide) (by decide) rfl rfl o_me t_me e_pg ?_
                refine jx_ar (pc_q := 149) (st_q := [rv (pg), rv (pg)]) rfl rfl ja_dup rfl ?_
                refine cx_gi (pc_q := 152) (c := 9) (q := 8) (v := F (pg) (8 : Int)) rfl rfl (by decide) (by decide) (Or.inl rfl) rfl o_pg t_pg rfl ?_
                refine jx_ar (pc_q := 153) (st_q := [.int (i32 (1)), .int (i32 (F (pg) (8 : Int))), rv (pg)]) rfl rfl rfl rfl ?_
                refine jx_add (pc_q := 154) rfl rfl ?_
                refine cx_pi (pc_q := 157) (c := 9) (q := 8) (qi := (8 : Int)) (z := (F (pg) (8 : Int) + 1)) rfl rfl (by decide) (by decide) rfl rfl rfl (by decide) rfl o_pg t_pg rfl ?_
                obtain ⟨F202, eF202⟩ : ∃ q, q = uF F (pg) (8 : Int) ((F (pg) (8 : Int) + 1)) := ⟨_, rfl⟩
                rw [← eF202]
                have hC203 : HC 0 m tg ln F202 := by rw [eF202]; exact HC_fi (c := 9) (q := 8) hC t_pg (by decide) rfl (by omega) (by omega) ⟨fun w => absurd w (by decide), fun w => absurd w (by decide)⟩
                have hM204 : Fq 0 [(10, 0), (10, 1), (10, 2), (10, 8)] m tg F F202 := by rw [eF202]; exact Fq_p hM0 t_pg (fun w => (hX0.2 _ w).1) rfl
                have c205 : NP m tg F202 := by rw [eF202]; exact NP_u hC cx_NP t_pg (by omega)
                refine cx_newp (pc_q := 160) (c := 6) rfl rfl (by decide) rfl rfl hC203 rfl (by decide) (fun n206 m206 tg206 ln206 F206 en206 em206 ho206 hx206 hC206 hf206 h0206 hs206 => ?_)
                have ex206 : 64 + (m : Int) ≤ n206 := by have := hX0.1; omega
                have lm207 := hx206.1
                have lt208 : si < 64 + (m : Int) := by rcases y_si with w | w; (· omega); exact w.1.2.1
                have ho209 : own m206 (me) ∧ tg206 (me) = 9 := Ex_o hx206 ⟨o_me, t_me⟩
                have y210 : si = 0 ∨ (own m206 (si) ∧ tg206 (si) = 7) := Ex_z hx206 y_si
                have ho211 : own m206 (sc) ∧ tg206 (sc) = 11 := Ex_o hx206 ⟨o_sc, t_sc⟩
                have ho212 : own m206 (pg) ∧ tg206 (pg) = 10 := Ex_o hx206 ⟨o_pg, t_pg⟩
                have hX213 := Ex_t hX0 hx206
                have hM214 : Fq 0 [(10, 0), (10, 1), (10, 2), (10, 8)] m tg F F206 := Fq_n hM204 hf206 ex206
                have c215 : NM m m206 tg206 := NM_n cx_NM hC203.1 hx206 en206 em206 ho206.2 (by decide)
                refine jx_ar (pc_q := 161) (st_q := [rv (n206), rv (n206)]) rfl rfl ja_dup rfl ?_
                refine jx_ld (pc_q := 162) (l_q := L193) (st_q := [.int (i32 (kd)), rv (n206), rv (n206)]) rfl (jl_iloadn g195) ?_
                refine jx_ld (pc_q := 163) (l_q := L193) (st_q := [rv (me), .int (i32 (kd)), rv (n206), rv (n206)]) rfl (jl_rvn g194) ?_
                refine cx_gr (pc_q := 166) (c := 8) (q := 1) (v := sc) rfl rfl (by decide) (by decide) rfl rfl ho209.1 ho209.2 (((show F206 (me) (1 : Int) = F202 (me) (1 : Int) from hf206 _ _ (ne_n o_me en206)).trans (show F202 (me) (1 : Int) = F (me) (1 : Int) from by rw [eF202]; exact uF_j (by decide))).trans e_sc) ?_
                refine cx_gl (pc_q := 169) (c := 10) (q := 18) rfl rfl (by decide) (by decide) rfl rfl ho211.1 ho211.2 (fun y216 => ?_)
                refine jx_ld (pc_q := 170) (l_q := L193) (st_q := [rv (me), .long (y216), .int (i32 (kd)), rv (n206), rv (n206)]) rfl (jl_rvn g194) ?_
                refine cx_gr (pc_q := 173) (c := 8) (q := 0) (v := pg) rfl rfl (by decide) (by decide) rfl rfl ho209.1 ho209.2 (((show F206 (me) (0 : Int) = F202 (me) (0 : Int) from hf206 _ _ (ne_n o_me en206)).trans (show F202 (me) (0 : Int) = F (me) (0 : Int) from by rw [eF202]; exact uF_j (by decide))).trans e_pg) ?_
                refine cx_gi (pc_q := 176) (c := 9) (q := 8) (v := (F (pg) (8 : Int) + 1)) rfl rfl (by decide) (by decide) (Or.inl rfl) rfl ho212.1 ho212.2 ((show F206 (pg) (8 : Int) = F202 (pg) (8 : Int) from hf206 _ _ (ne_n o_pg en206)).trans (show F202 (pg) (8 : Int) = (F (pg) (8 : Int) + 1) from by rw [eF202]; exact uF_e)) ?_
                refine jx_ld (pc_q := 177) (l_q := L193) (st_q := [.int (i32 (sz)), .int (i32 ((F (pg) (8 : Int) + 1))), .long (y216), .int (i32 (kd)), rv (n206), rv (n206)]) rfl (jl_iloadn g196) ?_
                refine cx_sp (kd := 2) (a := n206) (st := [rv (n206)]) (as := [.int (i32 (kd)), .long (y216), .int (i32 ((F (pg) (8 : Int) + 1))), .int (i32 (sz))]) rfl rfl (by decide) rfl ho206.1.1 ⟨rfl, (by rw [jS_r, jS_0]; exact Nat.le_of_ble_eq_true rfl)⟩ rfl (k_LName_init (dd := d) (R := R) (m := m206) (tg := tg206) (ln := ln206) (F := F206) (me := n206) (kd := kd) (ky := y216) (nu := (F (pg) (8 : Int) + 1)) (sz := sz) (hd := by omega) (hC := hC206) (o_me := ho206.1) (t_me := ho206.2) (h_kd := by omega) (h_nu := by omega) (h_sz := by omega) (z_me := h0206)) (fun o V_q hq => ?_)
                obtain ⟨F217, rfl, rfl, hC218, hM219, p220, zp221, -⟩ := hq
                have hM222 : Fq 0 [(10, 0), (10, 1), (10, 2), (10, 8)] m tg F F217 := Fq_t (ln := ln) (ln1 := ln206) hM214 hX213 hM219 (by decide) (Or.inr (Or.inr ex206))
                have c223 : NP m206 tg206 F217 := NP_nn hC203 c205 hx206 en206 em206 (fun b i ob => (hM219 b i (own_m ob hx206.1) (ne_n ob en206) rfl).trans (hf206 b i (ne_n ob en206))) (fun w => absurd (ho206.2.symm.trans w) (by decide)) (fun _ => ⟨(zp221 _ (by decide) (by decide) (by decide) (by decide)), (zp221 _ (by decide) (by decide) (by decide) (by decide)), (zp221 _ (by decide) (by decide) (by decide) (by decide))⟩) (fun w => absurd (ho206.2.symm.trans w) (by decide))
                refine Or.inl ⟨rfl, ?_⟩
                refine jx_rt (v := some (rv (n206))) rfl rfl rfl rfl rfl jr_are ?_
                have q224 : F217 (sc) (7 : Int) = F (sc) (7 : Int) := ((show F217 (sc) (7 : Int) = F206 (sc) (7 : Int) from hM219 _ _ ho211.1 (fun w => by have q1 := ho211.2; rw [w, ho206.2] at q1; exact absurd q1 (by decide)) (by rw [ho211.2]; rfl)).trans ((show F206 (sc) (7 : Int) = F202 (sc) (7 : Int) from hf206 _ _ (ne_n o_sc en206)).trans (show F202 (sc) (7 : Int) = F (sc) (7 : Int) from by rw [eF202]; exact uF_j (by decide))))
                have q225 : F217 (sc) (8 : Int) = F (sc) (8 : Int) := ((show F217 (sc) (8 : Int) = F206 (sc) (8 : Int) from hM219 _ _ ho211.1 (fun w => by have q1 := ho211.2; rw [w, ho206.2] at q1; exact absurd q1 (by decide)) (by rw [ho211.2]; rfl)).trans ((show F206 (sc) (8 : Int) = F202 (sc) (8 : Int) from hf206 _ _ (ne_n o_sc en206)).trans (show F202 (sc) (8 : Int) = F (sc) (8 : Int) from by rw [eF202]; exact uF_a (fun w => by have q1 := t_sc; have q2 := t_pg; rw [w, q2] at q1; exact absurd q1 (by decide)))))
                have q226 : F217 (pg) (9 : Int) = F (pg) (9 : Int) := ((show F217 (pg) (9 : Int) = F206 (pg) (9 : Int) from hM219 _ _ ho212.1 (fun w => by have q1 := ho212.2; rw [w, ho206.2] at q1; exact absurd q1 (by decide)) (by rw [ho212.2]; rfl)).trans ((show F206 (pg) (9 : Int) = F202 (pg) (9 : Int) from hf206 _ _ (ne_n o_pg en206)).trans (show F202 (pg) (9 : Int) = F (pg) (9 : Int) from by rw [eF202]; exact uF_j (by decide))))
                have q227 : F217 (me) (2 : Int) = F (me) (2 : Int) := ((show F217 (me) (2 : Int) = F206 (me) (2 : Int) from hM219 _ _ ho209.1 (fun w => by have q1 := ho209.2; rw [w, ho206.2] at q1; exact absurd q1 (by decide)) (by rw [ho209.2]; rfl)).trans ((show F206 (me) (2 : Int) = F202 (me) (2 : Int) from hf206 _ _ (ne_n o_me en206)).trans (show F202 (me) (2 : Int) = F (me) (2 : Int) from by rw [eF202]; exact uF_j (by decide))))
                have q228 : F217 (sc) (15 : Int) = F (sc) (15 : Int) := ((show F217 (sc) (15 : Int) = F206 (sc) (15 : Int) from hM219 _ _ ho211.1 (fun w => by have q1 := ho211.2; rw [w, ho206.2] at q1; exact absurd q1 (by decide)) (by rw [ho211.2]; rfl)).trans ((show F206 (sc) (15 : Int) = F202 (sc) (15 : Int) from hf206 _ _ (ne_n o_sc en206)).trans (show F202 (sc) (15 : Int) = F (sc) (15 : Int) from by rw [eF202]; exact uF_j (by decide))))
                have q229 : tz (F217 (sc) (15 : Int)) = tz (F (sc) (15 : Int)) := by rw [q228]
                have q230 := tz_b (F (sc) (15 : Int))
                have q231 : F217 (sc) (8 : Int) = F (sc) (8 : Int) := ((show F217 (sc) (8 : Int) = F206 (sc) (8 : Int) from hM219 _ _ ho211.1 (fun w => by have q1 := ho211.2; rw [w, ho206.2] at q1; exact absurd q1 (by decide)) (by rw [ho211.2]; rfl)).trans ((show F206 (sc) (8 : Int) = F202 (sc) (8 : Int) from hf206 _ _ (ne_n o_sc en206)).trans (show F202 (sc) (8 : Int) = F (sc) (8 : Int) from by rw [eF202]; exact uF_a (fun w => by have q1 := t_sc; have q2 := t_pg; rw [w, q2] at q1; exact absurd q1 (by decide)))))
                have q232 : F217 (sc) (15 : Int) = F (sc) (15 : Int) := ((show F217 (sc) (15 : Int) = F206 (sc) (15 : Int) from hM219 _ _ ho211.1 (fun w => by have q1 := ho211.2; rw [w, ho206.2] at q1; exact absurd q1 (by decide)) (by rw [ho211.2]; rfl)).trans ((show F206 (sc) (15 : Int) = F202 (sc) (15 : Int) from hf206 _ _ (ne_n o_sc en206)).trans (show F202 (sc) (15 : Int) = F (sc) (15 : Int) from by rw [eF202]; exact uF_j (by decide))))
                have q233 : tz (F217 (sc) (15 : Int)) = tz (F (sc) (15 : Int)) := by rw [q232]
                have q234 := tz_b (F (sc) (15 : Int))
                have q235 : F217 (sc) (14 : Int) = F (sc) (14 : Int) := ((show F217 (sc) (14 : Int) = F206 (sc) (14 : Int) from hM219 _ _ ho211.1 (fun w => by have q1 := ho211.2; rw [w, ho206.2] at q1; exact absurd q1 (by decide)) (by rw [ho211.2]; rfl)).trans ((show F206 (sc) (14 : Int) = F202 (sc) (14 : Int) from hf206 _ _ (ne_n o_sc en206)).trans (show F202 (sc) (14 : Int) = F (sc) (14 : Int) from by rw [eF202]; exact uF_j (by decide))))
                have q236 : lz (F217 (sc) (14 : Int)) = lz (F (sc) (14 : Int)) := by rw [q235]
                have q237 := lz_b (F (sc) (14 : Int))
                have q238 : F217 (pg) (9 : Int) = F (pg) (9 : Int) := ((show F217 (pg) (9 : Int) = F206 (pg) (9 : Int) from hM219 _ _ ho212.1 (fun w => by have q1 := ho212.2; rw [w, ho206.2] at q1; exact absurd q1 (by decide)) (by rw [ho212.2]; rfl)).trans ((show F206 (pg) (9 : Int) = F202 (pg) (9 : Int) from hf206 _ _ (ne_n o_pg en206)).trans (show F202 (pg) (9 : Int) = F (pg) (9 : Int) from by rw [eF202]; exact uF_j (by decide))))
                have q239 : F217 (n206) (12 : Int) = 0 := (show F217 (n206) (12 : Int) = 0 from zp221 _ (by decide) (by decide) (by decide) (by decide))
                have q240 : F217 (n206) (13 : Int) = 0 := (show F217 (n206) (13 : Int) = 0 from zp221 _ (by decide) (by decide) (by decide) (by decide))
                have q241 : F217 (n206) (14 : Int) = 0 := (show F217 (n206) (14 : Int) = 0 from zp221 _ (by decide) (by decide) (by decide) (by decide))
                exact Or.inl ⟨m206, tg206, ln206, F217, (n206), rfl, rfl, hX213, hC218, hM222, ⟨ho206.1, ho206.2⟩, by omega, by omega, by omega, by omega, by omega, by omega, by omega, by omega, by omega, by omega, by omega, by omega, by omega, by omega, c223, c215, trivial⟩
              · have _q := h201
                refine jx_ld (pc_q := 132) (l_q := L193) (st_q := [rv (me)]) rfl (jl_rvn g194) ?_
                refine jx_ar (pc_q := 134) (st_q := [.int (i32 (6)), rv (me)]) rfl rfl rfl rfl ?_
                refine jx_ld (pc_q := 135) (l_q := L193) (st_q := [rv (me), .int (i32 (6)), rv (me)]) rfl (jl_rvn g194) ?_
                refine cx_gr (pc_q := 138) (c := 8) (q := 1) (v := sc) rfl rfl (by decide) (by decide) rfl rfl o_me t_me e_sc ?_
                refine cx_gi (pc_q := 141) (c := 10) (q := 16) (v := F (sc) (16 : Int)) rfl rfl (by decide) (by decide) (Or.inl rfl) rfl o_sc t_sc rfl ?_
                have b242 : (-2147483648 : Int) ≤ F (sc) (16 : Int) ∧ F (sc) (16 : Int) ≤ 2147483647 := by have z := HC_i (c := 10) (q := 16) hC o_sc t_sc (by decide) rfl; rw [show F (sc) ((16 : Nat) : Int) = F (sc) (16 : Int) from rfl] at z; exact z
                refine cx_vi (c := 8) (a := me) (st := []) (as := [.int (i32 (6)), .int (i32 (F (sc) (16 : Int)))]) rfl rfl rfl o_me t_me (by decide) rfl ⟨rfl, rfl, (Nat.le_of_ble_eq_true rfl)⟩ rfl (k_LParser_fail (dd := d) (R := R) (m := m) (tg := tg) (ln := ln) (F := F) (me := me) (kd := 6) (pl := F (sc) (16 : Int)) (hd := by omega) (hC := hC) (o_me := o_me) (t_me := t_me) (h_kd := by omega) (h_pl := by omega) (sc := sc) (pg := pg) (o_sc := o_sc) (t_sc := t_sc) (e_sc := e_sc) (o_pg := o_pg) (t_pg := t_pg) (e_pg := e_pg) (p_0 := by omega) (p_1 := by omega) (c_NP := cx_NP)) (fun o V_q hq => ?_)
                obtain ⟨m243, tg243, ln243, F244, rfl, rfl, hx245, hC246, hM247, p248, c249, c250, -⟩ | ⟨m251, tg251, ln251, F251, x251, rfl, rfl, hx251, hC251, hM251, ho251, ht251, p252, p253, p254, p255, c256, c257, -⟩ := hq
                rotate_left
                ·
                  have c258 : NM m m251 tg251 := NM_t cx_NM hx251 c257
                  have lm259 := hx251.1
                  refine Or.inr (Or.inr (Or.inr ⟨_, _, rfl, cx_exc (c := 15) ho251 ht251 (by decide), rfl, ?_⟩))
                  exact Or.inr ⟨m251, tg251, ln251, F251, x251, rfl, rfl, Ex_t hX0 hx251, hC251, Fq_t (ln := ln) (ln1 := ln) hM0 hX0 hM251 (by decide) (Or.inl rfl), (And.intro ho251 ht251).1, (And.intro ho251 ht251).2, by omega, by omega, by omega, by omega, c256, c258, trivial⟩
                exact p248.elim
          · have _q := h192
            refine jx_ld (pc_q := 95) (l_q := L) (st_q := [rv (me)]) rfl (jl_rvn gL_0) ?_
            refine cx_gr (pc_q := 98) (c := 8) (q := 0) (v := pg) rfl rfl (by decide) (by decide) rfl rfl o_me t_me e_pg ?_
            refine cx_gi (pc_q := 101) (c := 9) (q := 7) (v := F (pg) (7 : Int)) rfl rfl (by decide) (by decide) (Or.inl rfl) rfl o_pg t_pg rfl ?_
            have b260 : (0 : Int) ≤ F (pg) (7 : Int) ∧ F (pg) (7 : Int) ≤ 12 := by have z := HC_i (c := 9) (q := 7) hC o_pg t_pg (by decide) rfl; rw [show F (pg) ((7 : Nat) : Int) = F (pg) (7 : Int) from rfl] at z; exact z
            refine jx_ar (pc_q := 103) (st_q := [.int (i32 (12)), .int (i32 (F (pg) (7 : Int)))]) rfl rfl rfl rfl ?_
            refine jx_icmp_lt (pc_q := 106) (tg := 110) rfl rfl rfl (by omega) (by omega) (by decide) (by decide) (fun h261 => ?_) (fun h261 => ?_)
            · have _q := h261
              refine jx_ar (pc_q := 111) (st_q := [.int (i32 (0))]) rfl rfl rfl rfl ?_
              refine jx_ld (pc_q := 113) (l_q := jSto1 L 4 (.int (i32 (0)))) (st_q := []) rfl rfl ?_
              obtain ⟨L262, eL262⟩ : ∃ q : jL, q = jSto1 L 4 (.int (i32 (0))) := ⟨_, rfl⟩
              rw [← eL262]
              have g263 : jGet L262 0 = some (rv (me)) := eL262 ▸ jg_nr (by decide) gL_0
              have g264 : jGet L262 1 = some (.int (i32 (kd))) := eL262 ▸ jg_ne (by decide) gL_1 rfl
              have g265 : jGet L262 2 = some (.int (i32 (sz))) := eL262 ▸ jg_ne (by decide) gL_2 rfl
              have g266 : jGet L262 3 = some (rv (si)) := eL262 ▸ jg_nr (by decide) gL_3
              have g267 : jGet L262 4 = some (.int (i32 (0))) := eL262 ▸ jg_eq
              clear eL262
              refine jx_ld (pc_q := 115) (l_q := L262) (st_q := [.int (i32 (0))]) rfl (jl_iload g267) ?_
              refine jx_if_ne (pc_q := 118) (tg := 131) rfl rfl rfl (by decide) (by decide) (fun h268 => ?_) (fun h268 => ?_)
              · have _q := h268
                exact absurd h268 (by omega)
              · have _q := h268
                refine jx_ld (pc_q := 119) (l_q := L262) (st_q := [rv (me)]) rfl (jl_rvn g263) ?_
                refine cx_gr (pc_q := 122) (c := 8) (q := 0) (v := pg) rfl rfl (by decide) (by decide) rfl rfl o_me t_me e_pg ?_
                refine cx_gi (pc_q := 125) (c := 9) (q := 8) (v := F (pg) (8 : Int)) rfl rfl (by decide) (by decide) (Or.inl rfl) rfl o_pg t_pg rfl ?_
                have b269 : (0 : Int) ≤ F (pg) (8 : Int) ∧ F (pg) (8 : Int) ≤ 200 := by have z := HC_i (c := 9) (q := 8) hC o_pg t_pg (by decide) rfl; rw [show F (pg) ((8 : Nat) : Int) = F (pg) (8 : Int) from rfl] at z; exact z
                refine jx_ar (pc_q := 128) (st_q := [.int (i32 (200)), .int (i32 (F (pg) (8 : Int)))]) rfl rfl rfl rfl ?_
                refine jx_icmp_lt (pc_q := 131) (tg := 144) rfl rfl rfl (by omega) (by omega) (by decide) (by decide) (fun h270 => ?_) (fun h270 => ?_)
                · have _q := h270
                  refine jx_ld (pc_q := 145) (l_q := L262) (st_q := [rv (me)]) rfl (jl_rvn g263) ?_
                  refine cx_gr (pc_q := 148) (c := 8) (q := 0) (v := pg) rfl rfl (by decide) (by decide) rfl rfl o_me t_me e_pg ?_
                  refine jx_ar (pc_q := 149) (st_q := [rv (pg), rv (pg)]) rfl rfl ja_dup rfl ?_
                  refine cx_gi (pc_q := 152) (c := 9) (q := 8) (v := F (pg) (8 : Int)) rfl rfl (by decide) (by decide) (Or.inl rfl) rfl o_pg t_pg rfl ?_
                  refine jx_ar (pc_q := 153) (st_q := [.int (i32 (1)), .int (i32 (F (pg) (8 : Int))), rv (pg)]) rfl rfl rfl rfl ?_
                  refine jx_add (pc_q := 154) rfl rfl ?_
                  refine cx_pi (pc_q := 157) (c := 9) (q := 8) (qi := (8 : Int)) (z := (F (pg) (8 : Int) + 1)) rfl rfl (by decide) (by decide) rfl rfl rfl (by decide) rfl o_pg t_pg rfl ?_
                  obtain ⟨F271, eF271⟩ : ∃ q, q = uF F (pg) (8 : Int) ((F (pg) (8 : Int) + 1)) := ⟨_, rfl⟩
                  rw [← eF271]
                  have hC272 : HC 0 m tg ln F271 := by rw [eF271]; exact HC_fi (c := 9) (q := 8) hC t_pg (by decide) rfl (by omega) (by omega) ⟨fun w => absurd w (by decide), fun w => absurd w (by decide)⟩
                  have hM273 : Fq 0 [(10, 0), (10, 1), (10, 2), (10, 8)] m tg F F271 := by rw [eF271]; exact Fq_p hM0 t_pg (fun w => (hX0.2 _ w).1) rfl
                  have c274 : NP m tg F271 := by rw [eF271]; exact NP_u hC cx_NP t_pg (by omega)
                  refine cx_newp (pc_q := 160) (c := 6) rfl rfl (by decide) rfl rfl hC272 rfl (by decide) (fun n275 m275 tg275 ln275 F275 en275 em275 ho275 hx275 hC275 hf275 h0275 hs275 => ?_)
                  have ex275 : 64 + (m : Int) ≤ n275 := by have := hX0.1; omega
                  have lm276 := hx275.1
                  have lt277 : si < 64 + (m : Int) := by rcases y_si with w | w; (· omega); exact w.1.2.1
                  have ho278 : own m275 (me) ∧ tg275 (me) = 9 := Ex_o hx275 ⟨o_me, t_me⟩
                  have y279 : si = 0 ∨ (own m275 (si) ∧ tg275 (si) = 7) := Ex_z hx275 y_si
                  have ho280 : own m275 (sc) ∧ tg275 (sc) = 11 := Ex_o hx275 ⟨o_sc, t_sc⟩
                  have ho281 : own m275 (pg) ∧ tg275 (pg) = 10 := Ex_o hx275 ⟨o_pg, t_pg⟩
                  have hX282 := Ex_t hX0 hx275
                  have hM283 : Fq 0 [(10, 0), (10, 1), (10, 2), (10, 8)] m tg F F275 := Fq_n hM273 hf275 ex275
                  have c284 : NM m m275 tg275 := NM_n cx_NM hC272.1 hx275 en275 em275 ho275.2 (by decide)
                  refine jx_ar (pc_q := 161) (st_q := [rv (n275), rv (n275)]) rfl rfl ja_dup rfl ?_
                  refine jx_ld (pc_q := 162) (l_q := L262) (st_q := [.int (i32 (kd)), rv (n275), rv (n275)]) rfl (jl_iloadn g264) ?_
                  refine jx_ld (pc_q := 163) (l_q := L262) (st_q := [rv (me), .int (i32 (kd)), rv (n275), rv (n275)]) rfl (jl_rvn g263) ?_
                  refine cx_gr (pc_q := 166) (c := 8) (q := 1) (v := sc) rfl rfl (by decide) (by decide) rfl rfl ho278.1 ho278.2 (((show F275 (me) (1 : Int) = F271 (me) (1 : Int) from hf275 _ _ (ne_n o_me en275)).trans (show F271 (me) (1 : Int) = F (me) (1 : Int) from by rw [eF271]; exact uF_j (by decide))).trans e_sc) ?_
                  refine cx_gl (pc_q := 169) (c := 10) (q := 18) rfl rfl (by decide) (by decide) rfl rfl ho280.1 ho280.2 (fun y285 => ?_)
                  refine jx_ld (pc_q := 170) (l_q := L262) (st_q := [rv (me), .long (y285), .int (i32 (kd)), rv (n275), rv (n275)]) rfl (jl_rvn g263) ?_
                  refine cx_gr (pc_q := 173) (c := 8) (q := 0) (v := pg) rfl rfl (by decide) (by decide) rfl rfl ho278.1 ho278.2 (((show F275 (me) (0 : Int) = F271 (me) (0 : Int) from hf275 _ _ (ne_n o_me en275)).trans (show F271 (me) (0 : Int) = F (me) (0 : Int) from by rw [eF271]; exact uF_j (by decide))).trans e_pg) ?_
                  refine cx_gi (pc_q := 176) (c := 9) (q := 8) (v := (F (pg) (8 : Int) + 1)) rfl rfl (by decide) (by decide) (Or.inl rfl) rfl ho281.1 ho281.2 ((show F275 (pg) (8 : Int) = F271 (pg) (8 : Int) from hf275 _ _ (ne_n o_pg en275)).trans (show F271 (pg) (8 : Int) = (F (pg) (8 : Int) + 1) from by rw [eF271]; exact uF_e)) ?_
                  refine jx_ld (pc_q := 177) (l_q := L262) (st_q := [.int (i32 (sz)), .int (i32 ((F (pg) (8 : Int) + 1))), .long (y285), .int (i32 (kd)), rv (n275), rv (n275)]) rfl (jl_iloadn g265) ?_
                  refine cx_sp (kd := 2) (a := n275) (st := [rv (n275)]) (as := [.int (i32 (kd)), .long (y285), .int (i32 ((F (pg) (8 : Int) + 1))), .int (i32 (sz))]) rfl rfl (by decide) rfl ho275.1.1 ⟨rfl, (by rw [jS_r, jS_0]; exact Nat.le_of_ble_eq_true rfl)⟩ rfl (k_LName_init (dd := d) (R := R) (m := m275) (tg := tg275) (ln := ln275) (F := F275) (me := n275) (kd := kd) (ky := y285) (nu := (F (pg) (8 : Int) + 1)) (sz := sz) (hd := by omega) (hC := hC275) (o_me := ho275.1) (t_me := ho275.2) (h_kd := by omega) (h_nu := by omega) (h_sz := by omega) (z_me := h0275)) (fun o V_q hq => ?_)
                  obtain ⟨F286, rfl, rfl, hC287, hM288, p289, zp290, -⟩ := hq
                  have hM291 : Fq 0 [(10, 0), (10, 1), (10, 2), (10, 8)] m tg F F286 := Fq_t (ln := ln) (ln1 := ln275) hM283 hX282 hM288 (by decide) (Or.inr (Or.inr ex275))
                  have c292 : NP m275 tg275 F286 := NP_nn hC272 c274 hx275 en275 em275 (fun b i ob => (hM288 b i (own_m ob hx275.1) (ne_n ob en275) rfl).trans (hf275 b i (ne_n ob en275))) (fun w => absurd (ho275.2.symm.trans w) (by decide)) (fun _ => ⟨(zp290 _ (by decide) (by decide) (by decide) (by decide)), (zp290 _ (by decide) (by decide) (by decide) (by decide)), (zp290 _ (by decide) (by decide) (by decide) (by decide))⟩) (fun w => absurd (ho275.2.symm.trans w) (by decide))
                  refine Or.inl ⟨rfl, ?_⟩
                  refine jx_rt (v := some (rv (n275))) rfl rfl rfl rfl rfl jr_are ?_
                  have q293 : F286 (sc) (7 : Int) = F (sc) (7 : Int) := ((show F286 (sc) (7 : Int) = F275 (sc) (7 : Int) from hM288 _ _ ho280.1 (fun w => by have q1 := ho280.2; rw [w, ho275.2] at q1; exact absurd q1 (by decide)) (by rw [ho280.2]; rfl)).trans ((show F275 (sc) (7 : Int) = F271 (sc) (7 : Int) from hf275 _ _ (ne_n o_sc en275)).trans (show F271 (sc) (7 : Int) = F (sc) (7 : Int) from by rw [eF271]; exact uF_j (by decide))))
                  have q294 : F286 (sc) (8 : Int) = F (sc) (8 : Int) := ((show F286 (sc) (8 : Int) = F275 (sc) (8 : Int) from hM288 _ _ ho280.1 (fun w => by have q1 := ho280.2; rw [w, ho275.2] at q1; exact absurd q1 (by decide)) (by rw [ho280.2]; rfl)).trans ((show F275 (sc) (8 : Int) = F271 (sc) (8 : Int) from hf275 _ _ (ne_n o_sc en275)).trans (show F271 (sc) (8 : Int) = F (sc) (8 : Int) from by rw [eF271]; exact uF_a (fun w => by have q1 := t_sc; have q2 := t_pg; rw [w, q2] at q1; exact absurd q1 (by decide)))))
                  have q295 : F286 (pg) (9 : Int) = F (pg) (9 : Int) := ((show F286 (pg) (9 : Int) = F275 (pg) (9 : Int) from hM288 _ _ ho281.1 (fun w => by have q1 := ho281.2; rw [w, ho275.2] at q1; exact absurd q1 (by decide)) (by rw [ho281.2]; rfl)).trans ((show F275 (pg) (9 : Int) = F271 (pg) (9 : Int) from hf275 _ _ (ne_n o_pg en275)).trans (show F271 (pg) (9 : Int) = F (pg) (9 : Int) from by rw [eF271]; exact uF_j (by decide))))
                  have q296 : F286 (me) (2 : Int) = F (me) (2 : Int) := ((show F286 (me) (2 : Int) = F275 (me) (2 : Int) from hM288 _ _ ho278.1 (fun w => by have q1 := ho278.2; rw [w, ho275.2] at q1; exact absurd q1 (by decide)) (by rw [ho278.2]; rfl)).trans ((show F275 (me) (2 : Int) = F271 (me) (2 : Int) from hf275 _ _ (ne_n o_me en275)).trans (show F271 (me) (2 : Int) = F (me) (2 : Int) from by rw [eF271]; exact uF_j (by decide))))
                  have q297 : F286 (sc) (15 : Int) = F (sc) (15 : Int) := ((show F286 (sc) (15 : Int) = F275 (sc) (15 : Int) from hM288 _ _ ho280.1 (fun w => by have q1 := ho280.2; rw [w, ho275.2] at q1; exact absurd q1 (by decide)) (by rw [ho280.2]; rfl)).trans ((show F275 (sc) (15 : Int) = F271 (sc) (15 : Int) from hf275 _ _ (ne_n o_sc en275)).trans (show F271 (sc) (15 : Int) = F (sc) (15 : Int) from by rw [eF271]; exact uF_j (by decide))))
                  have q298 : tz (F286 (sc) (15 : Int)) = tz (F (sc) (15 : Int)) := by rw [q297]
                  have q299 := tz_b (F (sc) (15 : Int))
                  have q300 : F286 (sc) (8 : Int) = F (sc) (8 : Int) := ((show F286 (sc) (8 : Int) = F275 (sc) (8 : Int) from hM288 _ _ ho280.1 (fun w => by have q1 := ho280.2; rw [w, ho275.2] at q1; exact absurd q1 (by decide)) (by rw [ho280.2]; rfl)).trans ((show F275 (sc) (8 : Int) = F271 (sc) (8 : Int) from hf275 _ _ (ne_n o_sc en275)).trans (show F271 (sc) (8 : Int) = F (sc) (8 : Int) from by rw [eF271]; exact uF_a (fun w => by have q1 := t_sc; have q2 := t_pg; rw [w, q2] at q1; exact absurd q1 (by decide)))))
                  have q301 : F286 (sc) (15 : Int) = F (sc) (15 : Int) := ((show F286 (sc) (15 : Int) = F275 (sc) (15 : Int) from hM288 _ _ ho280.1 (fun w => by have q1 := ho280.2; rw [w, ho275.2] at q1; exact absurd q1 (by decide)) (by rw [ho280.2]; rfl)).trans ((show F275 (sc) (15 : Int) = F271 (sc) (15 : Int) from hf275 _ _ (ne_n o_sc en275)).trans (show F271 (sc) (15 : Int) = F (sc) (15 : Int) from by rw [eF271]; exact uF_j (by decide))))
                  have q302 : tz (F286 (sc) (15 : Int)) = tz (F (sc) (15 : Int)) := by rw [q301]
                  have q303 := tz_b (F (sc) (15 : Int))
                  have q304 : F286 (sc) (14 : Int) = F (sc) (14 : Int) := ((show F286 (sc) (14 : Int) = F275 (sc) (14 : Int) from hM288 _ _ ho280.1 (fun w => by have q1 := ho280.2; rw [w, ho275.2] at q1; exact absurd q1 (by decide)) (by rw [ho280.2]; rfl)).trans ((show F275 (sc) (14 : Int) = F271 (sc) (14 : Int) from hf275 _ _ (ne_n o_sc en275)).trans (show F271 (sc) (14 : Int) = F (sc) (14 : Int) from by rw [eF271]; exact uF_j (by decide))))
                  have q305 : lz (F286 (sc) (14 : Int)) = lz (F (sc) (14 : Int)) := by rw [q304]
                  have q306 := lz_b (F (sc) (14 : Int))
                  have q307 : F286 (pg) (9 : Int) = F (pg) (9 : Int) := ((show F286 (pg) (9 : Int) = F275 (pg) (9 : Int) from hM288 _ _ ho281.1 (fun w => by have q1 := ho281.2; rw [w, ho275.2] at q1; exact absurd q1 (by decide)) (by rw [ho281.2]; rfl)).trans ((show F275 (pg) (9 : Int) = F271 (pg) (9 : Int) from hf275 _ _ (ne_n o_pg en275)).trans (show F271 (pg) (9 : Int) = F (pg) (9 : Int) from by rw [eF271]; exact uF_j (by decide))))
                  have q308 : F286 (n275) (12 : Int) = 0 := (show F286 (n275) (12 : Int) = 0 from zp290 _ (by decide) (by decide) (by decide) (by decide))
                  have q309 : F286 (n275) (13 : Int) = 0 := (show F286 (n275) (13 : Int) = 0 from zp290 _ (by decide) (by decide) (by decide) (by decide))
                  have q310 : F286 (n275) (14 : Int) = 0 := (show F286 (n275) (14 : Int) = 0 from zp290 _ (by decide) (by decide) (by decide) (by decide))
                  exact Or.inl ⟨m275, tg275, ln275, F286, (n275), rfl, rfl, hX282, hC287, hM291, ⟨ho275.1, ho275.2⟩, by omega, by omega, by omega, by omega, by omega, by omega, by omega, by omega, by omega, by omega, by omega, by omega, by omega, by omega, c292, c284, trivial⟩
                · have _q := h270
                  refine jx_ld (pc_q := 132) (l_q := L262) (st_q := [rv (me)]) rfl (jl_rvn g263) ?_
                  refine jx_ar (pc_q := 134) (st_q := [.int (i32 (6)), rv (me)]) rfl rfl rfl rfl ?_
                  refine jx_ld (pc_q := 135) (l_q := L262) (st_q := [rv (me), .int (i32 (6)), rv (me)]) rfl (jl_rvn g263) ?_
                  refine cx_gr (pc_q := 138) (c := 8) (q := 1) (v := sc) rfl rfl (by decide) (by decide) rfl rfl o_me t_me e_sc ?_
                  refine cx_gi (pc_q := 141) (c := 10) (q := 16) (v := F (sc) (16 : Int)) rfl rfl (by decide) (by decide) (Or.inl rfl) rfl o_sc t_sc rfl ?_
                  have b311 : (-2147483648 : Int) ≤ F (sc) (16 : Int) ∧ F (sc) (16 : Int) ≤ 2147483647 := by have z := HC_i (c := 10) (q := 16) hC o_sc t_sc (by decide) rfl; rw [show F (sc) ((16 : Nat) : Int) = F (sc) (16 : Int) from rfl] at z; exact z
                  refine cx_vi (c := 8) (a := me) (st := []) (as := [.int (i32 (6)), .int (i32 (F (sc) (16 : Int)))]) rfl rfl rfl o_me t_me (by decide) rfl ⟨rfl, rfl, (Nat.le_of_ble_eq_true rfl)⟩ rfl (k_LParser_fail (dd := d) (R := R) (m := m) (tg := tg) (ln := ln) (F := F) (me := me) (kd := 6) (pl := F (sc) (16 : Int)) (hd := by omega) (hC := hC) (o_me := o_me) (t_me := t_me) (h_kd := by omega) (h_pl := by omega) (sc := sc) (pg := pg) (o_sc := o_sc) (t_sc := t_sc) (e_sc := e_sc) (o_pg := o_pg) (t_pg := t_pg) (e_pg := e_pg) (p_0 := by omega) (p_1 := by omega) (c_NP := cx_NP)) (fun o V_q hq => ?_)
                  obtain ⟨m312, tg312, ln312, F313, rfl, rfl, hx314, hC315, hM316, p317, c318, c319, -⟩ | ⟨m320, tg320, ln320, F320, x320, rfl, rfl, hx320, hC320, hM320, ho320, ht320, p321, p322, p323, p324, c325, c326, -⟩ := hq
                  rotate_left
                  ·
                    have c327 : NM m m320 tg320 := NM_t cx_NM hx320 c326
                    have lm328 := hx320.1
                    refine Or.inr (Or.inr (Or.inr ⟨_, _, rfl, cx_exc (c := 15) ho320 ht320 (by decide), rfl, ?_⟩))
                    exact Or.inr ⟨m320, tg320, ln320, F320, x320, rfl, rfl, Ex_t hX0 hx320, hC320, Fq_t (ln := ln) (ln1 := ln) hM0 hX0 hM320 (by decide) (Or.inl rfl), (And.intro ho320 ht320).1, (And.intro ho320 ht320).2, by omega, by omega, by omega, by omega, c325, c327, trivial⟩
                  exact p317.elim
            · have _q := h261
              refine jx_ar (pc_q := 107) (st_q := [.int (i32 (1))]) rfl rfl rfl rfl ?_
              refine jx_go (tg := 111) rfl rfl ?_
              refine jx_ld (pc_q := 113) (l_q := jSto1 L 4 (.int (i32 (1)))) (st_q := []) rfl rfl ?_
              obtain ⟨L329, eL329⟩ : ∃ q : jL, q = jSto1 L 4 (.int (i32 (1))) := ⟨_, rfl⟩
              rw [← eL329]
              have g330 : jGet L329 0 = some (rv (me)) := eL329 ▸ jg_nr (by decide) gL_0
              have g331 : jGet L329 1 = some (.int (i32 (kd))) := eL329 ▸ jg_ne (by decide) gL_1 rfl
              have g332 : jGet L329 2 = some (.int (i32 (sz))) := eL329 ▸ jg_ne (by decide) gL_2 rfl
              have g333 : jGet L329 3 = some (rv (si)) := eL329 ▸ jg_nr (by decide) gL_3
              have g334 : jGet L329 4 = some (.int (i32 (1))) := eL329 ▸ jg_eq
              clear eL329
              refine jx_ld (pc_q := 115) (l_q := L329) (st_q := [.int (i32 (1))]) rfl (jl_iload g334) ?_
              refine jx_if_ne (pc_q := 118) (tg := 131) rfl rfl rfl (by decide) (by decide) (fun h335 => ?_) (fun h335 => ?_)
              · have _q := h335
                refine jx_ld (pc_q := 132) (l_q := L329) (st_q := [rv (me)]) rfl (jl_rvn g330) ?_
                refine jx_ar (pc_q := 134) (st_q := [.int (i32 (6)), rv (me)]) rfl rfl rfl rfl ?_
                refine jx_ld (pc_q := 135) (l_q := L329) (st_q := [rv (me), .int (i32 (6)), rv (me)]) rfl (jl_rvn g330) ?_
                refine cx_gr (pc_q := 138) (c := 8) (q := 1) (v := sc) rfl rfl (by decide) (by decide) rfl rfl o_me t_me e_sc ?_
                refine cx_gi (pc_q := 141) (c := 10) (q := 16) (v := F (sc) (16 : Int)) rfl rfl (by decide) (by decide) (Or.inl rfl) rfl o_sc t_sc rfl ?_
                have b336 : (-2147483648 : Int) ≤ F (sc) (16 : Int) ∧ F (sc) (16 : Int) ≤ 2147483647 := by have z := HC_i (c := 10) (q := 16) hC o_sc t_sc (by decide) rfl; rw [show F (sc) ((16 : Nat) : Int) = F (sc) (16 : Int) from rfl] at z; exact z
                refine cx_vi (c := 8) (a := me) (st := []) (as := [.int (i32 (6)), .int (i32 (F (sc) (16 : Int)))]) rfl rfl rfl o_me t_me (by decide) rfl ⟨rfl, rfl, (Nat.le_of_ble_eq_true rfl)⟩ rfl (k_LParser_fail (dd := d) (R := R) (m := m) (tg := tg) (ln := ln) (F := F) (me := me) (kd := 6) (pl := F (sc) (16 : Int)) (hd := by omega) (hC := hC) (o_me := o_me) (t_me := t_me) (h_kd := by omega) (h_pl := by omega) (sc := sc) (pg := pg) (o_sc := o_sc) (t_sc := t_sc) (e_sc := e_sc) (o_pg := o_pg) (t_pg := t_pg) (e_pg := e_pg) (p_0 := by omega) (p_1 := by omega) (c_NP := cx_NP)) (fun o V_q hq => ?_)
                obtain ⟨m337, tg337, ln337, F338, rfl, rfl, hx339, hC340, hM341, p342, c343, c344, -⟩ | ⟨m345, tg345, ln345, F345, x345, rfl, rfl, hx345, hC345, hM345, ho345, ht345, p346, p347, p348, p349, c350, c351, -⟩ := hq
                rotate_left
                ·
                  have c352 : NM m m345 tg345 := NM_t cx_NM hx345 c351
                  have lm353 := hx345.1
                  refine Or.inr (Or.inr (Or.inr ⟨_, _, rfl, cx_exc (c := 15) ho345 ht345 (by decide), rfl, ?_⟩))
                  exact Or.inr ⟨m345, tg345, ln345, F345, x345, rfl, rfl, Ex_t hX0 hx345, hC345, Fq_t (ln := ln) (ln1 := ln) hM0 hX0 hM345 (by decide) (Or.inl rfl), (And.intro ho345 ht345).1, (And.intro ho345 ht345).2, by omega, by omega, by omega, by omega, c350, c352, trivial⟩
                exact p342.elim
              · have _q := h335
                exact absurd h335 (by omega)
    · have _q := h1
      have ho354 : own m (nm) ∧ tg (nm) = 7 := yx_nm.resolve_left h1
      refine jx_ld (pc_q := 28) (l_q := L) (st_q := [rv (nm)]) rfl (jl_rv gL_4) ?_
      refine jx_ld (pc_q := 29) (l_q := L) (st_q := [rv (si), rv (nm)]) rfl (jl_rvn gL_3) ?_
      refine cx_aeq (pc_q := 32) (tg_q := 70) rfl rfl rfl (y_si.imp_right (fun h => h.1.1)) (Or.inr ho354.1.1) (fun h355 => ?_) (fun h355 => ?_)
      · have _q := h355
        have tk2 : tz (F sc (15 : Int)) = 1 := tz_p (by omega)
        refine jx_ld (pc_q := 71) (l_q := L) (st_q := [.int (i32 (kd))]) rfl (jl_iloadn gL_1) ?_
        refine jx_ar (pc_q := 73) (st_q := [.int (i32 (11)), .int (i32 (kd))]) rfl rfl rfl rfl ?_
        refine jx_icmp_ne (pc_q := 76) (tg := 88) rfl rfl rfl (by omega) (by omega) (by decide) (by decide) (fun h356 => ?_) (fun h356 => ?_)
        · have _q := h356
          refine jx_ld (pc_q := 89) (l_q := L) (st_q := [.int (i32 (kd))]) rfl (jl_iloadn gL_1) ?_
          refine jx_ar (pc_q := 91) (st_q := [.int (i32 (10)), .int (i32 (kd))]) rfl rfl rfl rfl ?_
          refine jx_icmp_ne (pc_q := 94) (tg := 110) rfl rfl rfl (by omega) (by omega) (by decide) (by decide) (fun h357 => ?_) (fun h357 => ?_)
          · have _q := h357
            refine jx_ar (pc_q := 111) (st_q := [.int (i32 (0))]) rfl rfl rfl rfl ?_
            refine jx_ld (pc_q := 113) (l_q := jSto1 L 4 (.int (i32 (0)))) (st_q := []) rfl rfl ?_
            obtain ⟨L358, eL358⟩ : ∃ q : jL, q = jSto1 L 4 (.int (i32 (0))) := ⟨_, rfl⟩
            rw [← eL358]
            have g359 : jGet L358 0 = some (rv (me)) := eL358 ▸ jg_nr (by decide) gL_0
            have g360 : jGet L358 1 = some (.int (i32 (kd))) := eL358 ▸ jg_ne (by decide) gL_1 rfl
            have g361 : jGet L358 2 = some (.int (i32 (sz))) := eL358 ▸ jg_ne (by decide) gL_2 rfl
            have g362 : jGet L358 3 = some (rv (si)) := eL358 ▸ jg_nr (by decide) gL_3
            have g363 : jGet L358 4 = some (.int (i32 (0))) := eL358 ▸ jg_eq
            clear eL358
            refine jx_ld (pc_q := 115) (l_q := L358) (st_q := [.int (i32 (0))]) rfl (jl_iload g363) ?_
            refine jx_if_ne (pc_q := 118) (tg := 131) rfl rfl rfl (by decide) (by decide) (fun h364 => ?_) (fun h364 => ?_)
            · have _q := h364
              exact absurd h364 (by omega)
            · have _q := h364
              refine jx_ld (pc_q := 119) (l_q := L358) (st_q := [rv (me)]) rfl (jl_rvn g359) ?_
              refine cx_gr (pc_q := 122) (c := 8) (q := 0) (v := pg) rfl rfl (by decide) (by decide) rfl rfl o_me t_me e_pg ?_
              refine cx_gi (pc_q := 125) (c := 9) (q := 8) (v := F (pg) (8 : Int)) rfl rfl (by decide) (by decide) (Or.inl rfl) rfl o_pg t_pg rfl ?_
              have b365 : (0 : Int) ≤ F (pg) (8 : Int) ∧ F (pg) (8 : Int) ≤ 200 := by have z := HC_i (c := 9) (q := 8) hC o_pg t_pg (by decide) rfl; rw [show F (pg) ((8 : Nat) : Int) = F (pg) (8 : Int) from rfl] at z; exact z
              refine jx_ar (pc_q := 128) (st_q := [.int (i32 (200)), .int (i32 (F (pg) (8 : Int)))]) rfl rfl rfl rfl ?_
              refine jx_icmp_lt (pc_q := 131) (tg := 144) rfl rfl rfl (by omega) (by omega) (by decide) (by decide) (fun h366 => ?_) (fun h366 => ?_)
              · have _q := h366
                refine jx_ld (pc_q := 145) (l_q := L358) (st_q := [rv (me)]) rfl (jl_rvn g359) ?_
                refine cx_gr (pc_q := 148) (c := 8) (q := 0) (v := pg) rfl rfl (by decide) (by decide) rfl rfl o_me t_me e_pg ?_
                refine jx_ar (pc_q := 149) (st_q := [rv (pg), rv (pg)]) rfl rfl ja_dup rfl ?_
                refine cx_gi (pc_q := 152) (c := 9) (q := 8) (v := F (pg) (8 : Int)) rfl rfl (by decide) (by decide) (Or.inl rfl) rfl o_pg t_pg rfl ?_
                refine jx_ar (pc_q := 153) (st_q := [.int (i32 (1)), .int (i32 (F (pg) (8 : Int))), rv (pg)]) rfl rfl rfl rfl ?_
                refine jx_add (pc_q := 154) rfl rfl ?_
                refine cx_pi (pc_q := 157) (c := 9) (q := 8) (qi := (8 : Int)) (z := (F (pg) (8 : Int) + 1)) rfl rfl (by decide) (by decide) rfl rfl rfl (by decide) rfl o_pg t_pg rfl ?_
                obtain ⟨F367, eF367⟩ : ∃ q, q = uF F (pg) (8 : Int) ((F (pg) (8 : Int) + 1)) := ⟨_, rfl⟩
                rw [← eF367]
                have hC368 : HC 0 m tg ln F367 := by rw [eF367]; exact HC_fi (c := 9) (q := 8) hC t_pg (by decide) rfl (by omega) (by omega) ⟨fun w => absurd w (by decide), fun w => absurd w (by decide)⟩
                have hM369 : Fq 0 [(10, 0), (10, 1), (10, 2), (10, 8)] m tg F F367 := by rw [eF367]; exact Fq_p hM0 t_pg (fun w => (hX0.2 _ w).1) rfl
                have c370 : NP m tg F367 := by rw [eF367]; exact NP_u hC cx_NP t_pg (by omega)
                refine cx_newp (pc_q := 160) (c := 6) rfl rfl (by decide) rfl rfl hC368 rfl (by decide) (fun n371 m371 tg371 ln371 F371 en371 em371 ho371 hx371 hC371 hf371 h0371 hs371 => ?_)
                have ex371 : 64 + (m : Int) ≤ n371 := by have := hX0.1; omega
                have lm372 := hx371.1
                have lt373 : si < 64 + (m : Int) := by rcases y_si with w | w; (· omega); exact w.1.2.1
                have ho374 : own m371 (me) ∧ tg371 (me) = 9 := Ex_o hx371 ⟨o_me, t_me⟩
                have y375 : si = 0 ∨ (own m371 (si) ∧ tg371 (si) = 7) := Ex_z hx371 y_si
                have ho376 : own m371 (sc) ∧ tg371 (sc) = 11 := Ex_o hx371 ⟨o_sc, t_sc⟩
                have ho377 : own m371 (pg) ∧ tg371 (pg) = 10 := Ex_o hx371 ⟨o_pg, t_pg⟩
                have hX378 := Ex_t hX0 hx371
                have hM379 : Fq 0 [(10, 0), (10, 1), (10, 2), (10, 8)] m tg F F371 := Fq_n hM369 hf371 ex371
                have c380 : NM m m371 tg371 := NM_n cx_NM hC368.1 hx371 en371 em371 ho371.2 (by decide)
                refine jx_ar (pc_q := 161) (st_q := [rv (n371), rv (n371)]) rfl rfl ja_dup rfl ?_
                refine jx_ld (pc_q := 162) (l_q := L358) (st_q := [.int (i32 (kd)), rv (n371), rv (n371)]) rfl (jl_iloadn g360) ?_
                refine jx_ld (pc_q := 163) (l_q := L358) (st_q := [rv (me), .int (i32 (kd)), rv (n371), rv (n371)]) rfl (jl_rvn g359) ?_
                refine cx_gr (pc_q := 166) (c := 8) (q := 1) (v := sc) rfl rfl (by decide) (by decide) rfl rfl ho374.1 ho374.2 (((show F371 (me) (1 : Int) = F367 (me) (1 : Int) from hf371 _ _ (ne_n o_me en371)).trans (show F367 (me) (1 : Int) = F (me) (1 : Int) from by rw [eF367]; exact uF_j (by decide))).trans e_sc) ?_
                refine cx_gl (pc_q := 169) (c := 10) (q := 18) rfl rfl (by decide) (by decide) rfl rfl ho376.1 ho376.2 (fun y381 => ?_)
                refine jx_ld (pc_q := 170) (l_q := L358) (st_q := [rv (me), .long (y381), .int (i32 (kd)), rv (n371), rv (n371)]) rfl (jl_rvn g359) ?_
                refine cx_gr (pc_q := 173) (c := 8) (q := 0) (v := pg) rfl rfl (by decide) (by decide) rfl rfl ho374.1 ho374.2 (((show F371 (me) (0 : Int) = F367 (me) (0 : Int) from hf371 _ _ (ne_n o_me en371)).trans (show F367 (me) (0 : Int) = F (me) (0 : Int) from by rw [eF367]; exact uF_j (by decide))).trans e_pg) ?_
                refine cx_gi (pc_q := 176) (c := 9) (q := 8) (v := (F (pg) (8 : Int) + 1)) rfl rfl (by decide) (by decide) (Or.inl rfl) rfl ho377.1 ho377.2 ((show F371 (pg) (8 : Int) = F367 (pg) (8 : Int) from hf371 _ _ (ne_n o_pg en371)).trans (show F367 (pg) (8 : Int) = (F (pg) (8 : Int) + 1) from by rw [eF367]; exact uF_e)) ?_
                refine jx_ld (pc_q := 177) (l_q := L358) (st_q := [.int (i32 (sz)), .int (i32 ((F (pg) (8 : Int) + 1))), .long (y381), .int (i32 (kd)), rv (n371), rv (n371)]) rfl (jl_iloadn g361) ?_
                refine cx_sp (kd := 2) (a := n371) (st := [rv (n371)]) (as := [.int (i32 (kd)), .long (y381), .int (i32 ((F (pg) (8 : Int) + 1))), .int (i32 (sz))]) rfl rfl (by decide) rfl ho371.1.1 ⟨rfl, (by rw [jS_r, jS_0]; exact Nat.le_of_ble_eq_true rfl)⟩ rfl (k_LName_init (dd := d) (R := R) (m := m371) (tg := tg371) (ln := ln371) (F := F371) (me := n371) (kd := kd) (ky := y381) (nu := (F (pg) (8 : Int) + 1)) (sz := sz) (hd := by omega) (hC := hC371) (o_me := ho371.1) (t_me := ho371.2) (h_kd := by omega) (h_nu := by omega) (h_sz := by omega) (z_me := h0371)) (fun o V_q hq => ?_)
                obtain ⟨F382, rfl, rfl, hC383, hM384, p385, zp386, -⟩ := hq
                have hM387 : Fq 0 [(10, 0), (10, 1), (10, 2), (10, 8)] m tg F F382 := Fq_t (ln := ln) (ln1 := ln371) hM379 hX378 hM384 (by decide) (Or.inr (Or.inr ex371))
                have c388 : NP m371 tg371 F382 := NP_nn hC368 c370 hx371 en371 em371 (fun b i ob => (hM384 b i (own_m ob hx371.1) (ne_n ob en371) rfl).trans (hf371 b i (ne_n ob en371))) (fun w => absurd (ho371.2.symm.trans w) (by decide)) (fun _ => ⟨(zp386 _ (by decide) (by decide) (by decide) (by decide)), (zp386 _ (by decide) (by decide) (by decide) (by decide)), (zp386 _ (by decide) (by decide) (by decide) (by decide))⟩) (fun w => absurd (ho371.2.symm.trans w) (by decide))
                refine Or.inl ⟨rfl, ?_⟩
                refine jx_rt (v := some (rv (n371))) rfl rfl rfl rfl rfl jr_are ?_
                have q389 : F382 (sc) (7 : Int) = F (sc) (7 : Int) := ((show F382 (sc) (7 : Int) = F371 (sc) (7 : Int) from hM384 _ _ ho376.1 (fun w => by have q1 := ho376.2; rw [w, ho371.2] at q1; exact absurd q1 (by decide)) (by rw [ho376.2]; rfl)).trans ((show F371 (sc) (7 : Int) = F367 (sc) (7 : Int) from hf371 _ _ (ne_n o_sc en371)).trans (show F367 (sc) (7 : Int) = F (sc) (7 : Int) from by rw [eF367]; exact uF_j (by decide))))
                have q390 : F382 (sc) (8 : Int) = F (sc) (8 : Int) := ((show F382 (sc) (8 : Int) = F371 (sc) (8 : Int) from hM384 _ _ ho376.1 (fun w => by have q1 := ho376.2; rw [w, ho371.2] at q1; exact absurd q1 (by decide)) (by rw [ho376.2]; rfl)).trans ((show F371 (sc) (8 : Int) = F367 (sc) (8 : Int) from hf371 _ _ (ne_n o_sc en371)).trans (show F367 (sc) (8 : Int) = F (sc) (8 : Int) from by rw [eF367]; exact uF_a (fun w => by have q1 := t_sc; have q2 := t_pg; rw [w, q2] at q1; exact absurd q1 (by decide)))))
                have q391 : F382 (pg) (9 : Int) = F (pg) (9 : Int) := ((show F382 (pg) (9 : Int) = F371 (pg) (9 : Int) from hM384 _ _ ho377.1 (fun w => by have q1 := ho377.2; rw [w, ho371.2] at q1; exact absurd q1 (by decide)) (by rw [ho377.2]; rfl)).trans ((show F371 (pg) (9 : Int) = F367 (pg) (9 : Int) from hf371 _ _ (ne_n o_pg en371)).trans (show F367 (pg) (9 : Int) = F (pg) (9 : Int) from by rw [eF367]; exact uF_j (by decide))))
                have q392 : F382 (me) (2 : Int) = F (me) (2 : Int) := ((show F382 (me) (2 : Int) = F371 (me) (2 : Int) from hM384 _ _ ho374.1 (fun w => by have q1 := ho374.2; rw [w, ho371.2] at q1; exact absurd q1 (by decide)) (by rw [ho374.2]; rfl)).trans ((show F371 (me) (2 : Int) = F367 (me) (2 : Int) from hf371 _ _ (ne_n o_me en371)).trans (show F367 (me) (2 : Int) = F (me) (2 : Int) from by rw [eF367]; exact uF_j (by decide))))
                have q393 : F382 (sc) (15 : Int) = F (sc) (15 : Int) := ((show F382 (sc) (15 : Int) = F371 (sc) (15 : Int) from hM384 _ _ ho376.1 (fun w => by have q1 := ho376.2; rw [w, ho371.2] at q1; exact absurd q1 (by decide)) (by rw [ho376.2]; rfl)).trans ((show F371 (sc) (15 : Int) = F367 (sc) (15 : Int) from hf371 _ _ (ne_n o_sc en371)).trans (show F367 (sc) (15 : Int) = F (sc) (15 : Int) from by rw [eF367]; exact uF_j (by decide))))
                have q394 : tz (F382 (sc) (15 : Int)) = tz (F (sc) (15 : Int)) := by rw [q393]
                have q395 := tz_b (F (sc) (15 : Int))
                have q396 : F382 (sc) (8 : Int) = F (sc) (8 : Int) := ((show F382 (sc) (8 : Int) = F371 (sc) (8 : Int) from hM384 _ _ ho376.1 (fun w => by have q1 := ho376.2; rw [w, ho371.2] at q1; exact absurd q1 (by decide)) (by rw [ho376.2]; rfl)).trans ((show F371 (sc) (8 : Int) = F367 (sc) (8 : Int) from hf371 _ _ (ne_n o_sc en371)).trans (show F367 (sc) (8 : Int) = F (sc) (8 : Int) from by rw [eF367]; exact uF_a (fun w => by have q1 := t_sc; have q2 := t_pg; rw [w, q2] at q1; exact absurd q1 (by decide)))))
                have q397 : F382 (sc) (15 : Int) = F (sc) (15 : Int) := ((show F382 (sc) (15 : Int) = F371 (sc) (15 : Int) from hM384 _ _ ho376.1 (fun w => by have q1 := ho376.2; rw [w, ho371.2] at q1; exact absurd q1 (by decide)) (by rw [ho376.2]; rfl)).trans ((show F371 (sc) (15 : Int) = F367 (sc) (15 : Int) from hf371 _ _ (ne_n o_sc en371)).trans (show F367 (sc) (15 : Int) = F (sc) (15 : Int) from by rw [eF367]; exact uF_j (by decide))))
                have q398 : tz (F382 (sc) (15 : Int)) = tz (F (sc) (15 : Int)) := by rw [q397]
                have q399 := tz_b (F (sc) (15 : Int))
                have q400 : F382 (sc) (14 : Int) = F (sc) (14 : Int) := ((show F382 (sc) (14 : Int) = F371 (sc) (14 : Int) from hM384 _ _ ho376.1 (fun w => by have q1 := ho376.2; rw [w, ho371.2] at q1; exact absurd q1 (by decide)) (by rw [ho376.2]; rfl)).trans ((show F371 (sc) (14 : Int) = F367 (sc) (14 : Int) from hf371 _ _ (ne_n o_sc en371)).trans (show F367 (sc) (14 : Int) = F (sc) (14 : Int) from by rw [eF367]; exact uF_j (by decide))))
                have q401 : lz (F382 (sc) (14 : Int)) = lz (F (sc) (14 : Int)) := by rw [q400]
                have q402 := lz_b (F (sc) (14 : Int))
                have q403 : F382 (pg) (9 : Int) = F (pg) (9 : Int) := ((show F382 (pg) (9 : Int) = F371 (pg) (9 : Int) from hM384 _ _ ho377.1 (fun w => by have q1 := ho377.2; rw [w, ho371.2] at q1; exact absurd q1 (by decide)) (by rw [ho377.2]; rfl)).trans ((show F371 (pg) (9 : Int) = F367 (pg) (9 : Int) from hf371 _ _ (ne_n o_pg en371)).trans (show F367 (pg) (9 : Int) = F (pg) (9 : Int) from by rw [eF367]; exact uF_j (by decide))))
                have q404 : F382 (n371) (12 : Int) = 0 := (show F382 (n371) (12 : Int) = 0 from zp386 _ (by decide) (by decide) (by decide) (by decide))
                have q405 : F382 (n371) (13 : Int) = 0 := (show F382 (n371) (13 : Int) = 0 from zp386 _ (by decide) (by decide) (by decide) (by decide))
                have q406 : F382 (n371) (14 : Int) = 0 := (show F382 (n371) (14 : Int) = 0 from zp386 _ (by decide) (by decide) (by decide) (by decide))
                exact Or.inl ⟨m371, tg371, ln371, F382, (n371), rfl, rfl, hX378, hC383, hM387, ⟨ho371.1, ho371.2⟩, by omega, by omega, by omega, by omega, by omega, by omega, by omega, by omega, by omega, by omega, by omega, by omega, by omega, by omega, c388, c380, trivial⟩
              · have _q := h366
                refine jx_ld (pc_q := 132) (l_q := L358) (st_q := [rv (me)]) rfl (jl_rvn g359) ?_
                refine jx_ar (pc_q := 134) (st_q := [.int (i32 (6)), rv (me)]) rfl rfl rfl rfl ?_
                refine jx_ld (pc_q := 135) (l_q := L358) (st_q := [rv (me), .int (i32 (6)), rv (me)]) rfl (jl_rvn g359) ?_
                refine cx_gr (pc_q := 138) (c := 8) (q := 1) (v := sc) rfl rfl (by decide) (by decide) rfl rfl o_me t_me e_sc ?_
                refine cx_gi (pc_q := 141) (c := 10) (q := 16) (v := F (sc) (16 : Int)) rfl rfl (by decide) (by decide) (Or.inl rfl) rfl o_sc t_sc rfl ?_
                have b407 : (-2147483648 : Int) ≤ F (sc) (16 : Int) ∧ F (sc) (16 : Int) ≤ 2147483647 := by have z := HC_i (c := 10) (q := 16) hC o_sc t_sc (by decide) rfl; rw [show F (sc) ((16 : Nat) : Int) = F (sc) (16 : Int) from rfl] at z; exact z
                refine cx_vi (c := 8) (a := me) (st := []) (as := [.int (i32 (6)), .int (i32 (F (sc) (16 : Int)))]) rfl rfl rfl o_me t_me (by decide) rfl ⟨rfl, rfl, (Nat.le_of_ble_eq_true rfl)⟩ rfl (k_LParser_fail (dd := d) (R := R) (m := m) (tg := tg) (ln := ln) (F := F) (me := me) (kd := 6) (pl := F (sc) (16 : Int)) (hd := by omega) (hC := hC) (o_me := o_me) (t_me := t_me) (h_kd := by omega) (h_pl := by omega) (sc := sc) (pg := pg) (o_sc := o_sc) (t_sc := t_sc) (e_sc := e_sc) (o_pg := o_pg) (t_pg := t_pg) (e_pg := e_pg) (p_0 := by omega) (p_1 := by omega) (c_NP := cx_NP)) (fun o V_q hq => ?_)
                obtain ⟨m408, tg408, ln408, F409, rfl, rfl, hx410, hC411, hM412, p413, c414, c415, -⟩ | ⟨m416, tg416, ln416, F416, x416, rfl, rfl, hx416, hC416, hM416, ho416, ht416, p417, p418, p419, p420, c421, c422, -⟩ := hq
                rotate_left
                ·
                  have c423 : NM m m416 tg416 := NM_t cx_NM hx416 c422
                  have lm424 := hx416.1
                  refine Or.inr (Or.inr (Or.inr ⟨_, _, rfl, cx_exc (c := 15) ho416 ht416 (by decide), rfl, ?_⟩))
                  exact Or.inr ⟨m416, tg416, ln416, F416, x416, rfl, rfl, Ex_t hX0 hx416, hC416, Fq_t (ln := ln) (ln1 := ln) hM0 hX0 hM416 (by decide) (Or.inl rfl), (And.intro ho416 ht416).1, (And.intro ho416 ht416).2, by omega, by omega, by omega, by omega, c421, c423, trivial⟩
                exact p413.elim
          · have _q := h357
            refine jx_ld (pc_q := 95) (l_q := L) (st_q := [rv (me)]) rfl (jl_rvn gL_0) ?_
            refine cx_gr (pc_q := 98) (c := 8) (q := 0) (v := pg) rfl rfl (by decide) (by decide) rfl rfl o_me t_me e_pg ?_
            refine cx_gi (pc_q := 101) (c := 9) (q := 7) (v := F (pg) (7 : Int)) rfl rfl (by decide) (by decide) (Or.inl rfl) rfl o_pg t_pg rfl ?_
            have b425 : (0 : Int) ≤ F (pg) (7 : Int) ∧ F (pg) (7 : Int) ≤ 12 := by have z := HC_i (c := 9) (q := 7) hC o_pg t_pg (by decide) rfl; rw [show F (pg) ((7 : Nat) : Int) = F (pg) (7 : Int) from rfl] at z; exact z
            refine jx_ar (pc_q := 103) (st_q := [.int (i32 (12)), .int (i32 (F (pg) (7 : Int)))]) rfl rfl rfl rfl ?_
            refine jx_icmp_lt (pc_q := 106) (tg := 110) rfl rfl rfl (by omega) (by omega) (by decide) (by decide) (fun h426 => ?_) (fun h426 => ?_)
            · have _q := h426
              refine jx_ar (pc_q := 111) (st_q := [.int (i32 (0))]) rfl rfl rfl rfl ?_
              refine jx_ld (pc_q := 113) (l_q := jSto1 L 4 (.int (i32 (0)))) (st_q := []) rfl rfl ?_
              obtain ⟨L427, eL427⟩ : ∃ q : jL, q = jSto1 L 4 (.int (i32 (0))) := ⟨_, rfl⟩
              rw [← eL427]
              have g428 : jGet L427 0 = some (rv (me)) := eL427 ▸ jg_nr (by decide) gL_0
              have g429 : jGet L427 1 = some (.int (i32 (kd))) := eL427 ▸ jg_ne (by decide) gL_1 rfl
              have g430 : jGet L427 2 = some (.int (i32 (sz))) := eL427 ▸ jg_ne (by decide) gL_2 rfl
              have g431 : jGet L427 3 = some (rv (si)) := eL427 ▸ jg_nr (by decide) gL_3
              have g432 : jGet L427 4 = some (.int (i32 (0))) := eL427 ▸ jg_eq
              clear eL427
              refine jx_ld (pc_q := 115) (l_q := L427) (st_q := [.int (i32 (0))]) rfl (jl_iload g432) ?_
              refine jx_if_ne (pc_q := 118) (tg := 131) rfl rfl rfl (by decide) (by decide) (fun h433 => ?_) (fun h433 => ?_)
              · have _q := h433
                exact absurd h433 (by omega)
              · have _q := h433
                refine jx_ld (pc_q := 119) (l_q := L427) (st_q := [rv (me)]) rfl (jl_rvn g428) ?_
                refine cx_gr (pc_q := 122) (c := 8) (q := 0) (v := pg) rfl rfl (by decide) (by decide) rfl rfl o_me t_me e_pg ?_
                refine cx_gi (pc_q := 125) (c := 9) (q := 8) (v := F (pg) (8 : Int)) rfl rfl (by decide) (by decide) (Or.inl rfl) rfl o_pg t_pg rfl ?_
                have b434 : (0 : Int) ≤ F (pg) (8 : Int) ∧ F (pg) (8 : Int) ≤ 200 := by have z := HC_i (c := 9) (q := 8) hC o_pg t_pg (by decide) rfl; rw [show F (pg) ((8 : Nat) : Int) = F (pg) (8 : Int) from rfl] at z; exact z
                refine jx_ar (pc_q := 128) (st_q := [.int (i32 (200)), .int (i32 (F (pg) (8 : Int)))]) rfl rfl rfl rfl ?_
                refine jx_icmp_lt (pc_q := 131) (tg := 144) rfl rfl rfl (by omega) (by omega) (by decide) (by decide) (fun h435 => ?_) (fun h435 => ?_)
                · have _q := h435
                  refine jx_ld (pc_q := 145) (l_q := L427) (st_q := [rv (me)]) rfl (jl_rvn g428) ?_
                  refine cx_gr (pc_q := 148) (c := 8) (q := 0) (v := pg) rfl rfl (by decide) (by decide) rfl rfl o_me t_me e_pg ?_
                  refine jx_ar (pc_q := 149) (st_q := [rv (pg), rv (pg)]) rfl rfl ja_dup rfl ?_
                  refine cx_gi (pc_q := 152) (c := 9) (q := 8) (v := F (pg) (8 : Int)) rfl rfl (by decide) (by decide) (Or.inl rfl) rfl o_pg t_pg rfl ?_
                  refine jx_ar (pc_q := 153) (st_q := [.int (i32 (1)), .int (i32 (F (pg) (8 : Int))), rv (pg)]) rfl rfl rfl rfl ?_
                  refine jx_add (pc_q := 154) rfl rfl ?_
                  refine cx_pi (pc_q := 157) (c := 9) (q := 8) (qi := (8 : Int)) (z := (F (pg) (8 : Int) + 1)) rfl rfl (by decide) (by decide) rfl rfl rfl (by decide) rfl o_pg t_pg rfl ?_
                  obtain ⟨F436, eF436⟩ : ∃ q, q = uF F (pg) (8 : Int) ((F (pg) (8 : Int) + 1)) := ⟨_, rfl⟩
                  rw [← eF436]
                  have hC437 : HC 0 m tg ln F436 := by rw [eF436]; exact HC_fi (c := 9) (q := 8) hC t_pg (by decide) rfl (by omega) (by omega) ⟨fun w => absurd w (by decide), fun w => absurd w (by decide)⟩
                  have hM438 : Fq 0 [(10, 0), (10, 1), (10, 2), (10, 8)] m tg F F436 := by rw [eF436]; exact Fq_p hM0 t_pg (fun w => (hX0.2 _ w).1) rfl
                  have c439 : NP m tg F436 := by rw [eF436]; exact NP_u hC cx_NP t_pg (by omega)
                  refine cx_newp (pc_q := 160) (c := 6) rfl rfl (by decide) rfl rfl hC437 rfl (by decide) (fun n440 m440 tg440 ln440 F440 en440 em440 ho440 hx440 hC440 hf440 h0440 hs440 => ?_)
                  have ex440 : 64 + (m : Int) ≤ n440 := by have := hX0.1; omega
                  have lm441 := hx440.1
                  have lt442 : si < 64 + (m : Int) := by rcases y_si with w | w; (· omega); exact w.1.2.1
                  have ho443 : own m440 (me) ∧ tg440 (me) = 9 := Ex_o hx440 ⟨o_me, t_me⟩
                  have y444 : si = 0 ∨ (own m440 (si) ∧ tg440 (si) = 7) := Ex_z hx440 y_si
                  have ho445 : own m440 (sc) ∧ tg440 (sc) = 11 := Ex_o hx440 ⟨o_sc, t_sc⟩
                  have ho446 : own m440 (pg) ∧ tg440 (pg) = 10 := Ex_o hx440 ⟨o_pg, t_pg⟩
                  have hX447 := Ex_t hX0 hx440
                  have hM448 : Fq 0 [(10, 0), (10, 1), (10, 2), (10, 8)] m tg F F440 := Fq_n hM438 hf440 ex440
                  have c449 : NM m m440 tg440 := NM_n cx_NM hC437.1 hx440 en440 em440 ho440.2 (by decide)
                  refine jx_ar (pc_q := 161) (st_q := [rv (n440), rv (n440)]) rfl rfl ja_dup rfl ?_
                  refine jx_ld (pc_q := 162) (l_q := L427) (st_q := [.int (i32 (kd)), rv (n440), rv (n440)]) rfl (jl_iloadn g429) ?_
                  refine jx_ld (pc_q := 163) (l_q := L427) (st_q := [rv (me), .int (i32 (kd)), rv (n440), rv (n440)]) rfl (jl_rvn g428) ?_
                  refine cx_gr (pc_q := 166) (c := 8) (q := 1) (v := sc) rfl rfl (by decide) (by decide) rfl rfl ho443.1 ho443.2 (((show F440 (me) (1 : Int) = F436 (me) (1 : Int) from hf440 _ _ (ne_n o_me en440)).trans (show F436 (me) (1 : Int) = F (me) (1 : Int) from by rw [eF436]; exact uF_j (by decide))).trans e_sc) ?_
                  refine cx_gl (pc_q := 169) (c := 10) (q := 18) rfl rfl (by decide) (by decide) rfl rfl ho445.1 ho445.2 (fun y450 => ?_)
                  refine jx_ld (pc_q := 170) (l_q := L427) (st_q := [rv (me), .long (y450), .int (i32 (kd)), rv (n440), rv (n440)]) rfl (jl_rvn g428) ?_
                  refine cx_gr (pc_q := 173) (c := 8) (q := 0) (v := pg) rfl rfl (by decide) (by decide) rfl rfl ho443.1 ho443.2 (((show F440 (me) (0 : Int) = F436 (me) (0 : Int) from hf440 _ _ (ne_n o_me en440)).trans (show F436 (me) (0 : Int) = F (me) (0 : Int) from by rw [eF436]; exact uF_j (by decide))).trans e_pg) ?_
                  refine cx_gi (pc_q := 176) (c := 9) (q := 8) (v := (F (pg) (8 : Int) + 1)) rfl rfl (by decide) (by decide) (Or.inl rfl) rfl ho446.1 ho446.2 ((show F440 (pg) (8 : Int) = F436 (pg) (8 : Int) from hf440 _ _ (ne_n o_pg en440)).trans (show F436 (pg) (8 : Int) = (F (pg) (8 : Int) + 1) from by rw [eF436]; exact uF_e)) ?_
                  refine jx_ld (pc_q := 177) (l_q := L427) (st_q := [.int (i32 (sz)), .int (i32 ((F (pg) (8 : Int) + 1))), .long (y450), .int (i32 (kd)), rv (n440), rv (n440)]) rfl (jl_iloadn g430) ?_
                  refine cx_sp (kd := 2) (a := n440) (st := [rv (n440)]) (as := [.int (i32 (kd)), .long (y450), .int (i32 ((F (pg) (8 : Int) + 1))), .int (i32 (sz))]) rfl rfl (by decide) rfl ho440.1.1 ⟨rfl, (by rw [jS_r, jS_0]; exact Nat.le_of_ble_eq_true rfl)⟩ rfl (k_LName_init (dd := d) (R := R) (m := m440) (tg := tg440) (ln := ln440) (F := F440) (me := n440) (kd := kd) (ky := y450) (nu := (F (pg) (8 : Int) + 1)) (sz := sz) (hd := by omega) (hC := hC440) (o_me := ho440.1) (t_me := ho440.2) (h_kd := by omega) (h_nu := by omega) (h_sz := by omega) (z_me := h0440)) (fun o V_q hq => ?_)
                  obtain ⟨F451, rfl, rfl, hC452, hM453, p454, zp455, -⟩ := hq
                  have hM456 : Fq 0 [(10, 0), (10, 1), (10, 2), (10, 8)] m tg F F451 := Fq_t (ln := ln) (ln1 := ln440) hM448 hX447 hM453 (by decide) (Or.inr (Or.inr ex440))
                  have c457 : NP m440 tg440 F451 := NP_nn hC437 c439 hx440 en440 em440 (fun b i ob => (hM453 b i (own_m ob hx440.1) (ne_n ob en440) rfl).trans (hf440 b i (ne_n ob en440))) (fun w => absurd (ho440.2.symm.trans w) (by decide)) (fun _ => ⟨(zp455 _ (by decide) (by decide) (by decide) (by decide)), (zp455 _ (by decide) (by decide) (by decide) (by decide)), (zp455 _ (by decide) (by decide) (by decide) (by decide))⟩) (fun w => absurd (ho440.2.symm.trans w) (by decide))
                  refine Or.inl ⟨rfl, ?_⟩
                  refine jx_rt (v := some (rv (n440))) rfl rfl rfl rfl rfl jr_are ?_
                  have q458 : F451 (sc) (7 : Int) = F (sc) (7 : Int) := ((show F451 (sc) (7 : Int) = F440 (sc) (7 : Int) from hM453 _ _ ho445.1 (fun w => by have q1 := ho445.2; rw [w, ho440.2] at q1; exact absurd q1 (by decide)) (by rw [ho445.2]; rfl)).trans ((show F440 (sc) (7 : Int) = F436 (sc) (7 : Int) from hf440 _ _ (ne_n o_sc en440)).trans (show F436 (sc) (7 : Int) = F (sc) (7 : Int) from by rw [eF436]; exact uF_j (by decide))))
                  have q459 : F451 (sc) (8 : Int) = F (sc) (8 : Int) := ((show F451 (sc) (8 : Int) = F440 (sc) (8 : Int) from hM453 _ _ ho445.1 (fun w => by have q1 := ho445.2; rw [w, ho440.2] at q1; exact absurd q1 (by decide)) (by rw [ho445.2]; rfl)).trans ((show F440 (sc) (8 : Int) = F436 (sc) (8 : Int) from hf440 _ _ (ne_n o_sc en440)).trans (show F436 (sc) (8 : Int) = F (sc) (8 : Int) from by rw [eF436]; exact uF_a (fun w => by have q1 := t_sc; have q2 := t_pg; rw [w, q2] at q1; exact absurd q1 (by decide)))))
                  have q460 : F451 (pg) (9 : Int) = F (pg) (9 : Int) := ((show F451 (pg) (9 : Int) = F440 (pg) (9 : Int) from hM453 _ _ ho446.1 (fun w => by have q1 := ho446.2; rw [w, ho440.2] at q1; exact absurd q1 (by decide)) (by rw [ho446.2]; rfl)).trans ((show F440 (pg) (9 : Int) = F436 (pg) (9 : Int) from hf440 _ _ (ne_n o_pg en440)).trans (show F436 (pg) (9 : Int) = F (pg) (9 : Int) from by rw [eF436]; exact uF_j (by decide))))
                  have q461 : F451 (me) (2 : Int) = F (me) (2 : Int) := ((show F451 (me) (2 : Int) = F440 (me) (2 : Int) from hM453 _ _ ho443.1 (fun w => by have q1 := ho443.2; rw [w, ho440.2] at q1; exact absurd q1 (by decide)) (by rw [ho443.2]; rfl)).trans ((show F440 (me) (2 : Int) = F436 (me) (2 : Int) from hf440 _ _ (ne_n o_me en440)).trans (show F436 (me) (2 : Int) = F (me) (2 : Int) from by rw [eF436]; exact uF_j (by decide))))
                  have q462 : F451 (sc) (15 : Int) = F (sc) (15 : Int) := ((show F451 (sc) (15 : Int) = F440 (sc) (15 : Int) from hM453 _ _ ho445.1 (fun w => by have q1 := ho445.2; rw [w, ho440.2] at q1; exact absurd q1 (by decide)) (by rw [ho445.2]; rfl)).trans ((show F440 (sc) (15 : Int) = F436 (sc) (15 : Int) from hf440 _ _ (ne_n o_sc en440)).trans (show F436 (sc) (15 : Int) = F (sc) (15 : Int) from by rw [eF436]; exact uF_j (by decide))))
                  have q463 : tz (F451 (sc) (15 : Int)) = tz (F (sc) (15 : Int)) := by rw [q462]
                  have q464 := tz_b (F (sc) (15 : Int))
                  have q465 : F451 (sc) (8 : Int) = F (sc) (8 : Int) := ((show F451 (sc) (8 : Int) = F440 (sc) (8 : Int) from hM453 _ _ ho445.1 (fun w => by have q1 := ho445.2; rw [w, ho440.2] at q1; exact absurd q1 (by decide)) (by rw [ho445.2]; rfl)).trans ((show F440 (sc) (8 : Int) = F436 (sc) (8 : Int) from hf440 _ _ (ne_n o_sc en440)).trans (show F436 (sc) (8 : Int) = F (sc) (8 : Int) from by rw [eF436]; exact uF_a (fun w => by have q1 := t_sc; have q2 := t_pg; rw [w, q2] at q1; exact absurd q1 (by decide)))))
                  have q466 : F451 (sc) (15 : Int) = F (sc) (15 : Int) := ((show F451 (sc) (15 : Int) = F440 (sc) (15 : Int) from hM453 _ _ ho445.1 (fun w => by have q1 := ho445.2; rw [w, ho440.2] at q1; exact absurd q1 (by decide)) (by rw [ho445.2]; rfl)).trans ((show F440 (sc) (15 : Int) = F436 (sc) (15 : Int) from hf440 _ _ (ne_n o_sc en440)).trans (show F436 (sc) (15 : Int) = F (sc) (15 : Int) from by rw [eF436]; exact uF_j (by decide))))
                  have q467 : tz (F451 (sc) (15 : Int)) = tz (F (sc) (15 : Int)) := by rw [q466]
                  have q468 := tz_b (F (sc) (15 : Int))
                  have q469 : F451 (sc) (14 : Int) = F (sc) (14 : Int) := ((show F451 (sc) (14 : Int) = F440 (sc) (14 : Int) from hM453 _ _ ho445.1 (fun w => by have q1 := ho445.2; rw [w, ho440.2] at q1; exact absurd q1 (by decide)) (by rw [ho445.2]; rfl)).trans ((show F440 (sc) (14 : Int) = F436 (sc) (14 : Int) from hf440 _ _ (ne_n o_sc en440)).trans (show F436 (sc) (14 : Int) = F (sc) (14 : Int) from by rw [eF436]; exact uF_j (by decide))))
                  have q470 : lz (F451 (sc) (14 : Int)) = lz (F (sc) (14 : Int)) := by rw [q469]
                  have q471 := lz_b (F (sc) (14 : Int))
                  have q472 : F451 (pg) (9 : Int) = F (pg) (9 : Int) := ((show F451 (pg) (9 : Int) = F440 (pg) (9 : Int) from hM453 _ _ ho446.1 (fun w => by have q1 := ho446.2; rw [w, ho440.2] at q1; exact absurd q1 (by decide)) (by rw [ho446.2]; rfl)).trans ((show F440 (pg) (9 : Int) = F436 (pg) (9 : Int) from hf440 _ _ (ne_n o_pg en440)).trans (show F436 (pg) (9 : Int) = F (pg) (9 : Int) from by rw [eF436]; exact uF_j (by decide))))
                  have q473 : F451 (n440) (12 : Int) = 0 := (show F451 (n440) (12 : Int) = 0 from zp455 _ (by decide) (by decide) (by decide) (by decide))
                  have q474 : F451 (n440) (13 : Int) = 0 := (show F451 (n440) (13 : Int) = 0 from zp455 _ (by decide) (by decide) (by decide) (by decide))
                  have q475 : F451 (n440) (14 : Int) = 0 := (show F451 (n440) (14 : Int) = 0 from zp455 _ (by decide) (by decide) (by decide) (by decide))
                  exact Or.inl ⟨m440, tg440, ln440, F451, (n440), rfl, rfl, hX447, hC452, hM456, ⟨ho440.1, ho440.2⟩, by omega, by omega, by omega, by omega, by omega, by omega, by omega, by omega, by omega, by omega, by omega, by omega, by omega, by omega, c457, c449, trivial⟩
                · have _q := h435
                  refine jx_ld (pc_q := 132) (l_q := L427) (st_q := [rv (me)]) rfl (jl_rvn g428) ?_
                  refine jx_ar (pc_q := 134) (st_q := [.int (i32 (6)), rv (me)]) rfl rfl rfl rfl ?_
                  refine jx_ld (pc_q := 135) (l_q := L427) (st_q := [rv (me), .int (i32 (6)), rv (me)]) rfl (jl_rvn g428) ?_
                  refine cx_gr (pc_q := 138) (c := 8) (q := 1) (v := sc) rfl rfl (by decide) (by decide) rfl rfl o_me t_me e_sc ?_
                  refine cx_gi (pc_q := 141) (c := 10) (q := 16) (v := F (sc) (16 : Int)) rfl rfl (by decide) (by decide) (Or.inl rfl) rfl o_sc t_sc rfl ?_
                  have b476 : (-2147483648 : Int) ≤ F (sc) (16 : Int) ∧ F (sc) (16 : Int) ≤ 2147483647 := by have z := HC_i (c := 10) (q := 16) hC o_sc t_sc (by decide) rfl; rw [show F (sc) ((16 : Nat) : Int) = F (sc) (16 : Int) from rfl] at z; exact z
                  refine cx_vi (c := 8) (a := me) (st := []) (as := [.int (i32 (6)), .int (i32 (F (sc) (16 : Int)))]) rfl rfl rfl o_me t_me (by decide) rfl ⟨rfl, rfl, (Nat.le_of_ble_eq_true rfl)⟩ rfl (k_LParser_fail (dd := d) (R := R) (m := m) (tg := tg) (ln := ln) (F := F) (me := me) (kd := 6) (pl := F (sc) (16 : Int)) (hd := by omega) (hC := hC) (o_me := o_me) (t_me := t_me) (h_kd := by omega) (h_pl := by omega) (sc := sc) (pg := pg) (o_sc := o_sc) (t_sc := t_sc) (e_sc := e_sc) (o_pg := o_pg) (t_pg := t_pg) (e_pg := e_pg) (p_0 := by omega) (p_1 := by omega) (c_NP := cx_NP)) (fun o V_q hq => ?_)
                  obtain ⟨m477, tg477, ln477, F478, rfl, rfl, hx479, hC480, hM481, p482, c483, c484, -⟩ | ⟨m485, tg485, ln485, F485, x485, rfl, rfl, hx485, hC485, hM485, ho485, ht485, p486, p487, p488, p489, c490, c491, -⟩ := hq
                  rotate_left
                  ·
                    have c492 : NM m m485 tg485 := NM_t cx_NM hx485 c491
                    have lm493 := hx485.1
                    refine Or.inr (Or.inr (Or.inr ⟨_, _, rfl, cx_exc (c := 15) ho485 ht485 (by decide), rfl, ?_⟩))
                    exact Or.inr ⟨m485, tg485, ln485, F485, x485, rfl, rfl, Ex_t hX0 hx485, hC485, Fq_t (ln := ln) (ln1 := ln) hM0 hX0 hM485 (by decide) (Or.inl rfl), (And.intro ho485 ht485).1, (And.intro ho485 ht485).2, by omega, by omega, by omega, by omega, c490, c492, trivial⟩
                  exact p482.elim
            · have _q := h426
              refine jx_ar (pc_q := 107) (st_q := [.int (i32 (1))]) rfl rfl rfl rfl ?_
              refine jx_go (tg := 111) rfl rfl ?_
              refine jx_ld (pc_q := 113) (l_q := jSto1 L 4 (.int (i32 (1)))) (st_q := []) rfl rfl ?_
              obtain ⟨L494, eL494⟩ : ∃ q : jL, q = jSto1 L 4 (.int (i32 (1))) := ⟨_, rfl⟩
              rw [← eL494]
              have g495 : jGet L494 0 = some (rv (me)) := eL494 ▸ jg_nr (by decide) gL_0
              have g496 : jGet L494 1 = some (.int (i32 (kd))) := eL494 ▸ jg_ne (by decide) gL_1 rfl
              have g497 : jGet L494 2 = some (.int (i32 (sz))) := eL494 ▸ jg_ne (by decide) gL_2 rfl
              have g498 : jGet L494 3 = some (rv (si)) := eL494 ▸ jg_nr (by decide) gL_3
              have g499 : jGet L494 4 = some (.int (i32 (1))) := eL494 ▸ jg_eq
              clear eL494
              refine jx_ld (pc_q := 115) (l_q := L494) (st_q := [.int (i32 (1))]) rfl (jl_iload g499) ?_
              refine jx_if_ne (pc_q := 118) (tg := 131) rfl rfl rfl (by decide) (by decide) (fun h500 => ?_) (fun h500 => ?_)
              · have _q := h500
                refine jx_ld (pc_q := 132) (l_q := L494) (st_q := [rv (me)]) rfl (jl_rvn g495) ?_
                refine jx_ar (pc_q := 134) (st_q := [.int (i32 (6)), rv (me)]) rfl rfl rfl rfl ?_
                refine jx_ld (pc_q := 135) (l_q := L494) (st_q := [rv (me), .int (i32 (6)), rv (me)]) rfl (jl_rvn g495) ?_
                refine cx_gr (pc_q := 138) (c := 8) (q := 1) (v := sc) rfl rfl (by decide) (by decide) rfl rfl o_me t_me e_sc ?_
                refine cx_gi (pc_q := 141) (c := 10) (q := 16) (v := F (sc) (16 : Int)) rfl rfl (by decide) (by decide) (Or.inl rfl) rfl o_sc t_sc rfl ?_
                have b501 : (-2147483648 : Int) ≤ F (sc) (16 : Int) ∧ F (sc) (16 : Int) ≤ 2147483647 := by have z := HC_i (c := 10) (q := 16) hC o_sc t_sc (by decide) rfl; rw [show F (sc) ((16 : Nat) : Int) = F (sc) (16 : Int) from rfl] at z; exact z
                refine cx_vi (c := 8) (a := me) (st := []) (as := [.int (i32 (6)), .int (i32 (F (sc) (16 : Int)))]) rfl rfl rfl o_me t_me (by decide) rfl ⟨rfl, rfl, (Nat.le_of_ble_eq_true rfl)⟩ rfl (k_LParser_fail (dd := d) (R := R) (m := m) (tg := tg) (ln := ln) (F := F) (me := me) (kd := 6) (pl := F (sc) (16 : Int)) (hd := by omega) (hC := hC) (o_me := o_me) (t_me := t_me) (h_kd := by omega) (h_pl := by omega) (sc := sc) (pg := pg) (o_sc := o_sc) (t_sc := t_sc) (e_sc := e_sc) (o_pg := o_pg) (t_pg := t_pg) (e_pg := e_pg) (p_0 := by omega) (p_1 := by omega) (c_NP := cx_NP)) (fun o V_q hq => ?_)
                obtain ⟨m502, tg502, ln502, F503, rfl, rfl, hx504, hC505, hM506, p507, c508, c509, -⟩ | ⟨m510, tg510, ln510, F510, x510, rfl, rfl, hx510, hC510, hM510, ho510, ht510, p511, p512, p513, p514, c515, c516, -⟩ := hq
                rotate_left
                ·
                  have c517 : NM m m510 tg510 := NM_t cx_NM hx510 c516
                  have lm518 := hx510.1
                  refine Or.inr (Or.inr (Or.inr ⟨_, _, rfl, cx_exc (c := 15) ho510 ht510 (by decide), rfl, ?_⟩))
                  exact Or.inr ⟨m510, tg510, ln510, F510, x510, rfl, rfl, Ex_t hX0 hx510, hC510, Fq_t (ln := ln) (ln1 := ln) hM0 hX0 hM510 (by decide) (Or.inl rfl), (And.intro ho510 ht510).1, (And.intro ho510 ht510).2, by omega, by omega, by omega, by omega, c515, c517, trivial⟩
                exact p507.elim
              · have _q := h500
                exact absurd h500 (by omega)
        · have _q := h356
          refine jx_ld (pc_q := 77) (l_q := L) (st_q := [rv (me)]) rfl (jl_rvn gL_0) ?_
          refine cx_gr (pc_q := 80) (c := 8) (q := 0) (v := pg) rfl rfl (by decide) (by decide) rfl rfl o_me t_me e_pg ?_
          refine cx_gi (pc_q := 83) (c := 9) (q := 5) (v := F (pg) (5 : Int)) rfl rfl (by decide) (by decide) (Or.inl rfl) rfl o_pg t_pg rfl ?_
          have b519 : (0 : Int) ≤ F (pg) (5 : Int) ∧ F (pg) (5 : Int) ≤ 24 := by have z := HC_i (c := 9) (q := 5) hC o_pg t_pg (by decide) rfl; rw [show F (pg) ((5 : Nat) : Int) = F (pg) (5 : Int) from rfl] at z; exact z
          refine jx_ar (pc_q := 85) (st_q := [.int (i32 (24)), .int (i32 (F (pg) (5 : Int)))]) rfl rfl rfl rfl ?_
          refine jx_icmp_ge (pc_q := 88) (tg := 106) rfl rfl rfl (by omega) (by omega) (by decide) (by decide) (fun h520 => ?_) (fun h520 => ?_)
          · have _q := h520
            refine jx_ar (pc_q := 107) (st_q := [.int (i32 (1))]) rfl rfl rfl rfl ?_
            refine jx_go (tg := 111) rfl rfl ?_
            refine jx_ld (pc_q := 113) (l_q := jSto1 L 4 (.int (i32 (1)))) (st_q := []) rfl rfl ?_
            obtain ⟨L521, eL521⟩ : ∃ q : jL, q = jSto1 L 4 (.int (i32 (1))) := ⟨_, rfl⟩
            rw [← eL521]
            have g522 : jGet L521 0 = some (rv (me)) := eL521 ▸ jg_nr (by decide) gL_0
            have g523 : jGet L521 1 = some (.int (i32 (kd))) := eL521 ▸ jg_ne (by decide) gL_1 rfl
            have g524 : jGet L521 2 = some (.int (i32 (sz))) := eL521 ▸ jg_ne (by decide) gL_2 rfl
            have g525 : jGet L521 3 = some (rv (si)) := eL521 ▸ jg_nr (by decide) gL_3
            have g526 : jGet L521 4 = some (.int (i32 (1))) := eL521 ▸ jg_eq
            clear eL521
            refine jx_ld (pc_q := 115) (l_q := L521) (st_q := [.int (i32 (1))]) rfl (jl_iload g526) ?_
            refine jx_if_ne (pc_q := 118) (tg := 131) rfl rfl rfl (by decide) (by decide) (fun h527 => ?_) (fun h527 => ?_)
            · have _q := h527
              refine jx_ld (pc_q := 132) (l_q := L521) (st_q := [rv (me)]) rfl (jl_rvn g522) ?_
              refine jx_ar (pc_q := 134) (st_q := [.int (i32 (6)), rv (me)]) rfl rfl rfl rfl ?_
              refine jx_ld (pc_q := 135) (l_q := L521) (st_q := [rv (me), .int (i32 (6)), rv (me)]) rfl (jl_rvn g522) ?_
              refine cx_gr (pc_q := 138) (c := 8) (q := 1) (v := sc) rfl rfl (by decide) (by decide) rfl rfl o_me t_me e_sc ?_
              refine cx_gi (pc_q := 141) (c := 10) (q := 16) (v := F (sc) (16 : Int)) rfl rfl (by decide) (by decide) (Or.inl rfl) rfl o_sc t_sc rfl ?_
              have b528 : (-2147483648 : Int) ≤ F (sc) (16 : Int) ∧ F (sc) (16 : Int) ≤ 2147483647 := by have z := HC_i (c := 10) (q := 16) hC o_sc t_sc (by decide) rfl; rw [show F (sc) ((16 : Nat) : Int) = F (sc) (16 : Int) from rfl] at z; exact z
              refine cx_vi (c := 8) (a := me) (st := []) (as := [.int (i32 (6)), .int (i32 (F (sc) (16 : Int)))]) rfl rfl rfl o_me t_me (by decide) rfl ⟨rfl, rfl, (Nat.le_of_ble_eq_true rfl)⟩ rfl (k_LParser_fail (dd := d) (R := R) (m := m) (tg := tg) (ln := ln) (F := F) (me := me) (kd := 6) (pl := F (sc) (16 : Int)) (hd := by omega) (hC := hC) (o_me := o_me) (t_me := t_me) (h_kd := by omega) (h_pl := by omega) (sc := sc) (pg := pg) (o_sc := o_sc) (t_sc := t_sc) (e_sc := e_sc) (o_pg := o_pg) (t_pg := t_pg) (e_pg := e_pg) (p_0 := by omega) (p_1 := by omega) (c_NP := cx_NP)) (fun o V_q hq => ?_)
              obtain ⟨m529, tg529, ln529, F530, rfl, rfl, hx531, hC532, hM533, p534, c535, c536, -⟩ | ⟨m537, tg537, ln537, F537, x537, rfl, rfl, hx537, hC537, hM537, ho537, ht537, p538, p539, p540, p541, c542, c543, -⟩ := hq
              rotate_left
              ·
                have c544 : NM m m537 tg537 := NM_t cx_NM hx537 c543
                have lm545 := hx537.1
                refine Or.inr (Or.inr (Or.inr ⟨_, _, rfl, cx_exc (c := 15) ho537 ht537 (by decide), rfl, ?_⟩))
                exact Or.inr ⟨m537, tg537, ln537, F537, x537, rfl, rfl, Ex_t hX0 hx537, hC537, Fq_t (ln := ln) (ln1 := ln) hM0 hX0 hM537 (by decide) (Or.inl rfl), (And.intro ho537 ht537).1, (And.intro ho537 ht537).2, by omega, by omega, by omega, by omega, c542, c544, trivial⟩
              exact p534.elim
            · have _q := h527
              exact absurd h527 (by omega)
          · have _q := h520
            refine jx_ld (pc_q := 89) (l_q := L) (st_q := [.int (i32 (kd))]) rfl (jl_iloadn gL_1) ?_
            refine jx_ar (pc_q := 91) (st_q := [.int (i32 (10)), .int (i32 (kd))]) rfl rfl rfl rfl ?_
            refine jx_icmp_ne (pc_q := 94) (tg := 110) rfl rfl rfl (by omega) (by omega) (by decide) (by decide) (fun h546 => ?_) (fun h546 => ?_)
            · have _q := h546
              refine jx_ar (pc_q := 111) (st_q := [.int (i32 (0))]) rfl rfl rfl rfl ?_
              refine jx_ld (pc_q := 113) (l_q := jSto1 L 4 (.int (i32 (0)))) (st_q := []) rfl rfl ?_
              obtain ⟨L547, eL547⟩ : ∃ q : jL, q = jSto1 L 4 (.int (i32 (0))) := ⟨_, rfl⟩
              rw [← eL547]
              have g548 : jGet L547 0 = some (rv (me)) := eL547 ▸ jg_nr (by decide) gL_0
              have g549 : jGet L547 1 = some (.int (i32 (kd))) := eL547 ▸ jg_ne (by decide) gL_1 rfl
              have g550 : jGet L547 2 = some (.int (i32 (sz))) := eL547 ▸ jg_ne (by decide) gL_2 rfl
              have g551 : jGet L547 3 = some (rv (si)) := eL547 ▸ jg_nr (by decide) gL_3
              have g552 : jGet L547 4 = some (.int (i32 (0))) := eL547 ▸ jg_eq
              clear eL547
              refine jx_ld (pc_q := 115) (l_q := L547) (st_q := [.int (i32 (0))]) rfl (jl_iload g552) ?_
              refine jx_if_ne (pc_q := 118) (tg := 131) rfl rfl rfl (by decide) (by decide) (fun h553 => ?_) (fun h553 => ?_)
              · have _q := h553
                exact absurd h553 (by omega)
              · have _q := h553
                refine jx_ld (pc_q := 119) (l_q := L547) (st_q := [rv (me)]) rfl (jl_rvn g548) ?_
                refine cx_gr (pc_q := 122) (c := 8) (q := 0) (v := pg) rfl rfl (by decide) (by decide) rfl rfl o_me t_me e_pg ?_
                refine cx_gi (pc_q := 125) (c := 9) (q := 8) (v := F (pg) (8 : Int)) rfl rfl (by decide) (by decide) (Or.inl rfl) rfl o_pg t_pg rfl ?_
                have b554 : (0 : Int) ≤ F (pg) (8 : Int) ∧ F (pg) (8 : Int) ≤ 200 := by have z := HC_i (c := 9) (q := 8) hC o_pg t_pg (by decide) rfl; rw [show F (pg) ((8 : Nat) : Int) = F (pg) (8 : Int) from rfl] at z; exact z
                refine jx_ar (pc_q := 128) (st_q := [.int (i32 (200)), .int (i32 (F (pg) (8 : Int)))]) rfl rfl rfl rfl ?_
                refine jx_icmp_lt (pc_q := 131) (tg := 144) rfl rfl rfl (by omega) (by omega) (by decide) (by decide) (fun h555 => ?_) (fun h555 => ?_)
                · have _q := h555
                  refine jx_ld (pc_q := 145) (l_q := L547) (st_q := [rv (me)]) rfl (jl_rvn g548) ?_
                  refine cx_gr (pc_q := 148) (c := 8) (q := 0) (v := pg) rfl rfl (by decide) (by decide) rfl rfl o_me t_me e_pg ?_
                  refine jx_ar (pc_q := 149) (st_q := [rv (pg), rv (pg)]) rfl rfl ja_dup rfl ?_
                  refine cx_gi (pc_q := 152) (c := 9) (q := 8) (v := F (pg) (8 : Int)) rfl rfl (by decide) (by decide) (Or.inl rfl) rfl o_pg t_pg rfl ?_
                  refine jx_ar (pc_q := 153) (st_q := [.int (i32 (1)), .int (i32 (F (pg) (8 : Int))), rv (pg)]) rfl rfl rfl rfl ?_
                  refine jx_add (pc_q := 154) rfl rfl ?_
                  refine cx_pi (pc_q := 157) (c := 9) (q := 8) (qi := (8 : Int)) (z := (F (pg) (8 : Int) + 1)) rfl rfl (by decide) (by decide) rfl rfl rfl (by decide) rfl o_pg t_pg rfl ?_
                  obtain ⟨F556, eF556⟩ : ∃ q, q = uF F (pg) (8 : Int) ((F (pg) (8 : Int) + 1)) := ⟨_, rfl⟩
                  rw [← eF556]
                  have hC557 : HC 0 m tg ln F556 := by rw [eF556]; exact HC_fi (c := 9) (q := 8) hC t_pg (by decide) rfl (by omega) (by omega) ⟨fun w => absurd w (by decide), fun w => absurd w (by decide)⟩
                  have hM558 : Fq 0 [(10, 0), (10, 1), (10, 2), (10, 8)] m tg F F556 := by rw [eF556]; exact Fq_p hM0 t_pg (fun w => (hX0.2 _ w).1) rfl
                  have c559 : NP m tg F556 := by rw [eF556]; exact NP_u hC cx_NP t_pg (by omega)
                  refine cx_newp (pc_q := 160) (c := 6) rfl rfl (by decide) rfl rfl hC557 rfl (by decide) (fun n560 m560 tg560 ln560 F560 en560 em560 ho560 hx560 hC560 hf560 h0560 hs560 => ?_)
                  have ex560 : 64 + (m : Int) ≤ n560 := by have := hX0.1; omega
                  have lm561 := hx560.1
                  have lt562 : si < 64 + (m : Int) := by rcases y_si with w | w; (· omega); exact w.1.2.1
                  have ho563 : own m560 (me) ∧ tg560 (me) = 9 := Ex_o hx560 ⟨o_me, t_me⟩
                  have y564 : si = 0 ∨ (own m560 (si) ∧ tg560 (si) = 7) := Ex_z hx560 y_si
                  have ho565 : own m560 (sc) ∧ tg560 (sc) = 11 := Ex_o hx560 ⟨o_sc, t_sc⟩
                  have ho566 : own m560 (pg) ∧ tg560 (pg) = 10 := Ex_o hx560 ⟨o_pg, t_pg⟩
                  have hX567 := Ex_t hX0 hx560
                  have hM568 : Fq 0 [(10, 0), (10, 1), (10, 2), (10, 8)] m tg F F560 := Fq_n hM558 hf560 ex560
                  have c569 : NM m m560 tg560 := NM_n cx_NM hC557.1 hx560 en560 em560 ho560.2 (by decide)
                  refine jx_ar (pc_q := 161) (st_q := [rv (n560), rv (n560)]) rfl rfl ja_dup rfl ?_
                  refine jx_ld (pc_q := 162) (l_q := L547) (st_q := [.int (i32 (kd)), rv (n560), rv (n560)]) rfl (jl_iloadn g549) ?_
                  refine jx_ld (pc_q := 163) (l_q := L547) (st_q := [rv (me), .int (i32 (kd)), rv (n560), rv (n560)]) rfl (jl_rvn g548) ?_
                  refine cx_gr (pc_q := 166) (c := 8) (q := 1) (v := sc) rfl rfl (by decide) (by decide) rfl rfl ho563.1 ho563.2 (((show F560 (me) (1 : Int) = F556 (me) (1 : Int) from hf560 _ _ (ne_n o_me en560)).trans (show F556 (me) (1 : Int) = F (me) (1 : Int) from by rw [eF556]; exact uF_j (by decide))).trans e_sc) ?_
                  refine cx_gl (pc_q := 169) (c := 10) (q := 18) rfl rfl (by decide) (by decide) rfl rfl ho565.1 ho565.2 (fun y570 => ?_)
                  refine jx_ld (pc_q := 170) (l_q := L547) (st_q := [rv (me), .long (y570), .int (i32 (kd)), rv (n560), rv (n560)]) rfl (jl_rvn g548) ?_
                  refine cx_gr (pc_q := 173) (c := 8) (q := 0) (v := pg) rfl rfl (by decide) (by decide) rfl rfl ho563.1 ho563.2 (((show F560 (me) (0 : Int) = F556 (me) (0 : Int) from hf560 _ _ (ne_n o_me en560)).trans (show F556 (me) (0 : Int) = F (me) (0 : Int) from by rw [eF556]; exact uF_j (by decide))).trans e_pg) ?_
                  refine cx_gi (pc_q := 176) (c := 9) (q := 8) (v := (F (pg) (8 : Int) + 1)) rfl rfl (by decide) (by decide) (Or.inl rfl) rfl ho566.1 ho566.2 ((show F560 (pg) (8 : Int) = F556 (pg) (8 : Int) from hf560 _ _ (ne_n o_pg en560)).trans (show F556 (pg) (8 : Int) = (F (pg) (8 : Int) + 1) from by rw [eF556]; exact uF_e)) ?_
                  refine jx_ld (pc_q := 177) (l_q := L547) (st_q := [.int (i32 (sz)), .int (i32 ((F (pg) (8 : Int) + 1))), .long (y570), .int (i32 (kd)), rv (n560), rv (n560)]) rfl (jl_iloadn g550) ?_
                  refine cx_sp (kd := 2) (a := n560) (st := [rv (n560)]) (as := [.int (i32 (kd)), .long (y570), .int (i32 ((F (pg) (8 : Int) + 1))), .int (i32 (sz))]) rfl rfl (by decide) rfl ho560.1.1 ⟨rfl, (by rw [jS_r, jS_0]; exact Nat.le_of_ble_eq_true rfl)⟩ rfl (k_LName_init (dd := d) (R := R) (m := m560) (tg := tg560) (ln := ln560) (F := F560) (me := n560) (kd := kd) (ky := y570) (nu := (F (pg) (8 : Int) + 1)) (sz := sz) (hd := by omega) (hC := hC560) (o_me := ho560.1) (t_me := ho560.2) (h_kd := by omega) (h_nu := by omega) (h_sz := by omega) (z_me := h0560)) (fun o V_q hq => ?_)
                  obtain ⟨F571, rfl, rfl, hC572, hM573, p574, zp575, -⟩ := hq
                  have hM576 : Fq 0 [(10, 0), (10, 1), (10, 2), (10, 8)] m tg F F571 := Fq_t (ln := ln) (ln1 := ln560) hM568 hX567 hM573 (by decide) (Or.inr (Or.inr ex560))
                  have c577 : NP m560 tg560 F571 := NP_nn hC557 c559 hx560 en560 em560 (fun b i ob => (hM573 b i (own_m ob hx560.1) (ne_n ob en560) rfl).trans (hf560 b i (ne_n ob en560))) (fun w => absurd (ho560.2.symm.trans w) (by decide)) (fun _ => ⟨(zp575 _ (by decide) (by decide) (by decide) (by decide)), (zp575 _ (by decide) (by decide) (by decide) (by decide)), (zp575 _ (by decide) (by decide) (by decide) (by decide))⟩) (fun w => absurd (ho560.2.symm.trans w) (by decide))
                  refine Or.inl ⟨rfl, ?_⟩
                  refine jx_rt (v := some (rv (n560))) rfl rfl rfl rfl rfl jr_are ?_
                  have q578 : F571 (sc) (7 : Int) = F (sc) (7 : Int) := ((show F571 (sc) (7 : Int) = F560 (sc) (7 : Int) from hM573 _ _ ho565.1 (fun w => by have q1 := ho565.2; rw [w, ho560.2] at q1; exact absurd q1 (by decide)) (by rw [ho565.2]; rfl)).trans ((show F560 (sc) (7 : Int) = F556 (sc) (7 : Int) from hf560 _ _ (ne_n o_sc en560)).trans (show F556 (sc) (7 : Int) = F (sc) (7 : Int) from by rw [eF556]; exact uF_j (by decide))))
                  have q579 : F571 (sc) (8 : Int) = F (sc) (8 : Int) := ((show F571 (sc) (8 : Int) = F560 (sc) (8 : Int) from hM573 _ _ ho565.1 (fun w => by have q1 := ho565.2; rw [w, ho560.2] at q1; exact absurd q1 (by decide)) (by rw [ho565.2]; rfl)).trans ((show F560 (sc) (8 : Int) = F556 (sc) (8 : Int) from hf560 _ _ (ne_n o_sc en560)).trans (show F556 (sc) (8 : Int) = F (sc) (8 : Int) from by rw [eF556]; exact uF_a (fun w => by have q1 := t_sc; have q2 := t_pg; rw [w, q2] at q1; exact absurd q1 (by decide)))))
                  have q580 : F571 (pg) (9 : Int) = F (pg) (9 : Int) := ((show F571 (pg) (9 : Int) = F560 (pg) (9 : Int) from hM573 _ _ ho566.1 (fun w => by have q1 := ho566.2; rw [w, ho560.2] at q1; exact absurd q1 (by decide)) (by rw [ho566.2]; rfl)).trans ((show F560 (pg) (9 : Int) = F556 (pg) (9 : Int) from hf560 _ _ (ne_n o_pg en560)).trans (show F556 (pg) (9 : Int) = F (pg) (9 : Int) from by rw [eF556]; exact uF_j (by decide))))
                  have q581 : F571 (me) (2 : Int) = F (me) (2 : Int) := ((show F571 (me) (2 : Int) = F560 (me) (2 : Int) from hM573 _ _ ho563.1 (fun w => by have q1 := ho563.2; rw [w, ho560.2] at q1; exact absurd q1 (by decide)) (by rw [ho563.2]; rfl)).trans ((show F560 (me) (2 : Int) = F556 (me) (2 : Int) from hf560 _ _ (ne_n o_me en560)).trans (show F556 (me) (2 : Int) = F (me) (2 : Int) from by rw [eF556]; exact uF_j (by decide))))
                  have q582 : F571 (sc) (15 : Int) = F (sc) (15 : Int) := ((show F571 (sc) (15 : Int) = F560 (sc) (15 : Int) from hM573 _ _ ho565.1 (fun w => by have q1 := ho565.2; rw [w, ho560.2] at q1; exact absurd q1 (by decide)) (by rw [ho565.2]; rfl)).trans ((show F560 (sc) (15 : Int) = F556 (sc) (15 : Int) from hf560 _ _ (ne_n o_sc en560)).trans (show F556 (sc) (15 : Int) = F (sc) (15 : Int) from by rw [eF556]; exact uF_j (by decide))))
                  have q583 : tz (F571 (sc) (15 : Int)) = tz (F (sc) (15 : Int)) := by rw [q582]
                  have q584 := tz_b (F (sc) (15 : Int))
                  have q585 : F571 (sc) (8 : Int) = F (sc) (8 : Int) := ((show F571 (sc) (8 : Int) = F560 (sc) (8 : Int) from hM573 _ _ ho565.1 (fun w => by have q1 := ho565.2; rw [w, ho560.2] at q1; exact absurd q1 (by decide)) (by rw [ho565.2]; rfl)).trans ((show F560 (sc) (8 : Int) = F556 (sc) (8 : Int) from hf560 _ _ (ne_n o_sc en560)).trans (show F556 (sc) (8 : Int) = F (sc) (8 : Int) from by rw [eF556]; exact uF_a (fun w => by have q1 := t_sc; have q2 := t_pg; rw [w, q2] at q1; exact absurd q1 (by decide)))))
                  have q586 : F571 (sc) (15 : Int) = F (sc) (15 : Int) := ((show F571 (sc) (15 : Int) = F560 (sc) (15 : Int) from hM573 _ _ ho565.1 (fun w => by have q1 := ho565.2; rw [w, ho560.2] at q1; exact absurd q1 (by decide)) (by rw [ho565.2]; rfl)).trans ((show F560 (sc) (15 : Int) = F556 (sc) (15 : Int) from hf560 _ _ (ne_n o_sc en560)).trans (show F556 (sc) (15 : Int) = F (sc) (15 : Int) from by rw [eF556]; exact uF_j (by decide))))
                  have q587 : tz (F571 (sc) (15 : Int)) = tz (F (sc) (15 : Int)) := by rw [q586]
                  have q588 := tz_b (F (sc) (15 : Int))
                  have q589 : F571 (sc) (14 : Int) = F (sc) (14 : Int) := ((show F571 (sc) (14 : Int) = F560 (sc) (14 : Int) from hM573 _ _ ho565.1 (fun w => by have q1 := ho565.2; rw [w, ho560.2] at q1; exact absurd q1 (by decide)) (by rw [ho565.2]; rfl)).trans ((show F560 (sc) (14 : Int) = F556 (sc) (14 : Int) from hf560 _ _ (ne_n o_sc en560)).trans (show F556 (sc) (14 : Int) = F (sc) (14 : Int) from by rw [eF556]; exact uF_j (by decide))))
                  have q590 : lz (F571 (sc) (14 : Int)) = lz (F (sc) (14 : Int)) := by rw [q589]
                  have q591 := lz_b (F (sc) (14 : Int))
                  have q592 : F571 (pg) (9 : Int) = F (pg) (9 : Int) := ((show F571 (pg) (9 : Int) = F560 (pg) (9 : Int) from hM573 _ _ ho566.1 (fun w => by have q1 := ho566.2; rw [w, ho560.2] at q1; exact absurd q1 (by decide)) (by rw [ho566.2]; rfl)).trans ((show F560 (pg) (9 : Int) = F556 (pg) (9 : Int) from hf560 _ _ (ne_n o_pg en560)).trans (show F556 (pg) (9 : Int) = F (pg) (9 : Int) from by rw [eF556]; exact uF_j (by decide))))
                  have q593 : F571 (n560) (12 : Int) = 0 := (show F571 (n560) (12 : Int) = 0 from zp575 _ (by decide) (by decide) (by decide) (by decide))
                  have q594 : F571 (n560) (13 : Int) = 0 := (show F571 (n560) (13 : Int) = 0 from zp575 _ (by decide) (by decide) (by decide) (by decide))
                  have q595 : F571 (n560) (14 : Int) = 0 := (show F571 (n560) (14 : Int) = 0 from zp575 _ (by decide) (by decide) (by decide) (by decide))
                  exact Or.inl ⟨m560, tg560, ln560, F571, (n560), rfl, rfl, hX567, hC572, hM576, ⟨ho560.1, ho560.2⟩, by omega, by omega, by omega, by omega, by omega, by omega, by omega, by omega, by omega, by omega, by omega, by omega, by omega, by omega, c577, c569, trivial⟩
                · have _q := h555
                  refine jx_ld (pc_q := 132) (l_q := L547) (st_q := [rv (me)]) rfl (jl_rvn g548) ?_
                  refine jx_ar (pc_q := 134) (st_q := [.int (i32 (6)), rv (me)]) rfl rfl rfl rfl ?_
                  refine jx_ld (pc_q := 135) (l_q := L547) (st_q := [rv (me), .int (i32 (6)), rv (me)]) rfl (jl_rvn g548) ?_
                  refine cx_gr (pc_q := 138) (c := 8) (q := 1) (v := sc) rfl rfl (by decide) (by decide) rfl rfl o_me t_me e_sc ?_
                  refine cx_gi (pc_q := 141) (c := 10) (q := 16) (v := F (sc) (16 : Int)) rfl rfl (by decide) (by decide) (Or.inl rfl) rfl o_sc t_sc rfl ?_
                  have b596 : (-2147483648 : Int) ≤ F (sc) (16 : Int) ∧ F (sc) (16 : Int) ≤ 2147483647 := by have z := HC_i (c := 10) (q := 16) hC o_sc t_sc (by decide) rfl; rw [show F (sc) ((16 : Nat) : Int) = F (sc) (16 : Int) from rfl] at z; exact z
                  refine cx_vi (c := 8) (a := me) (st := []) (as := [.int (i32 (6)), .int (i32 (F (sc) (16 : Int)))]) rfl rfl rfl o_me t_me (by decide) rfl ⟨rfl, rfl, (Nat.le_of_ble_eq_true rfl)⟩ rfl (k_LParser_fail (dd := d) (R := R) (m := m) (tg := tg) (ln := ln) (F := F) (me := me) (kd := 6) (pl := F (sc) (16 : Int)) (hd := by omega) (hC := hC) (o_me := o_me) (t_me := t_me) (h_kd := by omega) (h_pl := by omega) (sc := sc) (pg := pg) (o_sc := o_sc) (t_sc := t_sc) (e_sc := e_sc) (o_pg := o_pg) (t_pg := t_pg) (e_pg := e_pg) (p_0 := by omega) (p_1 := by omega) (c_NP := cx_NP)) (fun o V_q hq => ?_)
                  obtain ⟨m597, tg597, ln597, F598, rfl, rfl, hx599, hC600, hM601, p602, c603, c604, -⟩ | ⟨m605, tg605, ln605, F605, x605, rfl, rfl, hx605, hC605, hM605, ho605, ht605, p606, p607, p608, p609, c610, c611, -⟩ := hq
                  rotate_left
                  ·
                    have c612 : NM m m605 tg605 := NM_t cx_NM hx605 c611
                    have lm613 := hx605.1
                    refine Or.inr (Or.inr (Or.inr ⟨_, _, rfl, cx_exc (c := 15) ho605 ht605 (by decide), rfl, ?_⟩))
                    exact Or.inr ⟨m605, tg605, ln605, F605, x605, rfl, rfl, Ex_t hX0 hx605, hC605, Fq_t (ln := ln) (ln1 := ln) hM0 hX0 hM605 (by decide) (Or.inl rfl), (And.intro ho605 ht605).1, (And.intro ho605 ht605).2, by omega, by omega, by omega, by omega, c610, c612, trivial⟩
                  exact p602.elim
            · have _q := h546
              refine jx_ld (pc_q := 95) (l_q := L) (st_q := [rv (me)]) rfl (jl_rvn gL_0) ?_
              refine cx_gr (pc_q := 98) (c := 8) (q := 0) (v := pg) rfl rfl (by decide) (by decide) rfl rfl o_me t_me e_pg ?_
              refine cx_gi (pc_q := 101) (c := 9) (q := 7) (v := F (pg) (7 : Int)) rfl rfl (by decide) (by decide) (Or.inl rfl) rfl o_pg t_pg rfl ?_
              have b614 : (0 : Int) ≤ F (pg) (7 : Int) ∧ F (pg) (7 : Int) ≤ 12 := by have z := HC_i (c := 9) (q := 7) hC o_pg t_pg (by decide) rfl; rw [show F (pg) ((7 : Nat) : Int) = F (pg) (7 : Int) from rfl] at z; exact z
              refine jx_ar (pc_q := 103) (st_q := [.int (i32 (12)), .int (i32 (F (pg) (7 : Int)))]) rfl rfl rfl rfl ?_
              refine jx_icmp_lt (pc_q := 106) (tg := 110) rfl rfl rfl (by omega) (by omega) (by decide) (by decide) (fun h615 => ?_) (fun h615 => ?_)
              · have _q := h615
                refine jx_ar (pc_q := 111) (st_q := [.int (i32 (0))]) rfl rfl rfl rfl ?_
                refine jx_ld (pc_q := 113) (l_q := jSto1 L 4 (.int (i32 (0)))) (st_q := []) rfl rfl ?_
                obtain ⟨L616, eL616⟩ : ∃ q : jL, q = jSto1 L 4 (.int (i32 (0))) := ⟨_, rfl⟩
                rw [← eL616]
                have g617 : jGet L616 0 = some (rv (me)) := eL616 ▸ jg_nr (by decide) gL_0
                have g618 : jGet L616 1 = some (.int (i32 (kd))) := eL616 ▸ jg_ne (by decide) gL_1 rfl
                have g619 : jGet L616 2 = some (.int (i32 (sz))) := eL616 ▸ jg_ne (by decide) gL_2 rfl
                have g620 : jGet L616 3 = some (rv (si)) := eL616 ▸ jg_nr (by decide) gL_3
                have g621 : jGet L616 4 = some (.int (i32 (0))) := eL616 ▸ jg_eq
                clear eL616
                refine jx_ld (pc_q := 115) (l_q := L616) (st_q := [.int (i32 (0))]) rfl (jl_iload g621) ?_
                refine jx_if_ne (pc_q := 118) (tg := 131) rfl rfl rfl (by decide) (by decide) (fun h622 => ?_) (fun h622 => ?_)
                · have _q := h622
                  exact absurd h622 (by omega)
                · have _q := h622
                  refine jx_ld (pc_q := 119) (l_q := L616) (st_q := [rv (me)]) rfl (jl_rvn g617) ?_
                  refine cx_gr (pc_q := 122) (c := 8) (q := 0) (v := pg) rfl rfl (by decide) (by decide) rfl rfl o_me t_me e_pg ?_
                  refine cx_gi (pc_q := 125) (c := 9) (q := 8) (v := F (pg) (8 : Int)) rfl rfl (by decide) (by decide) (Or.inl rfl) rfl o_pg t_pg rfl ?_
                  have b623 : (0 : Int) ≤ F (pg) (8 : Int) ∧ F (pg) (8 : Int) ≤ 200 := by have z := HC_i (c := 9) (q := 8) hC o_pg t_pg (by decide) rfl; rw [show F (pg) ((8 : Nat) : Int) = F (pg) (8 : Int) from rfl] at z; exact z
                  refine jx_ar (pc_q := 128) (st_q := [.int (i32 (200)), .int (i32 (F (pg) (8 : Int)))]) rfl rfl rfl rfl ?_
                  refine jx_icmp_lt (pc_q := 131) (tg := 144) rfl rfl rfl (by omega) (by omega) (by decide) (by decide) (fun h624 => ?_) (fun h624 => ?_)
                  · have _q := h624
                    refine jx_ld (pc_q := 145) (l_q := L616) (st_q := [rv (me)]) rfl (jl_rvn g617) ?_
                    refine cx_gr (pc_q := 148) (c := 8) (q := 0) (v := pg) rfl rfl (by decide) (by decide) rfl rfl o_me t_me e_pg ?_
                    refine jx_ar (pc_q := 149) (st_q := [rv (pg), rv (pg)]) rfl rfl ja_dup rfl ?_
                    refine cx_gi (pc_q := 152) (c := 9) (q := 8) (v := F (pg) (8 : Int)) rfl rfl (by decide) (by decide) (Or.inl rfl) rfl o_pg t_pg rfl ?_
                    refine jx_ar (pc_q := 153) (st_q := [.int (i32 (1)), .int (i32 (F (pg) (8 : Int))), rv (pg)]) rfl rfl rfl rfl ?_
                    refine jx_add (pc_q := 154) rfl rfl ?_
                    refine cx_pi (pc_q := 157) (c := 9) (q := 8) (qi := (8 : Int)) (z := (F (pg) (8 : Int) + 1)) rfl rfl (by decide) (by decide) rfl rfl rfl (by decide) rfl o_pg t_pg rfl ?_
                    obtain ⟨F625, eF625⟩ : ∃ q, q = uF F (pg) (8 : Int) ((F (pg) (8 : Int) + 1)) := ⟨_, rfl⟩
                    rw [← eF625]
                    have hC626 : HC 0 m tg ln F625 := by rw [eF625]; exact HC_fi (c := 9) (q := 8) hC t_pg (by decide) rfl (by omega) (by omega) ⟨fun w => absurd w (by decide), fun w => absurd w (by decide)⟩
                    have hM627 : Fq 0 [(10, 0), (10, 1), (10, 2), (10, 8)] m tg F F625 := by rw [eF625]; exact Fq_p hM0 t_pg (fun w => (hX0.2 _ w).1) rfl
                    have c628 : NP m tg F625 := by rw [eF625]; exact NP_u hC cx_NP t_pg (by omega)
                    refine cx_newp (pc_q := 160) (c := 6) rfl rfl (by decide) rfl rfl hC626 rfl (by decide) (fun n629 m629 tg629 ln629 F629 en629 em629 ho629 hx629 hC629 hf629 h0629 hs629 => ?_)
                    have ex629 : 64 + (m : Int) ≤ n629 := by have := hX0.1; omega
                    have lm630 := hx629.1
                    have lt631 : si < 64 + (m : Int) := by rcases y_si with w | w; (· omega); exact w.1.2.1
                    have ho632 : own m629 (me) ∧ tg629 (me) = 9 := Ex_o hx629 ⟨o_me, t_me⟩
                    have y633 : si = 0 ∨ (own m629 (si) ∧ tg629 (si) = 7) := Ex_z hx629 y_si
                    have ho634 : own m629 (sc) ∧ tg629 (sc) = 11 := Ex_o hx629 ⟨o_sc, t_sc⟩
                    have ho635 : own m629 (pg) ∧ tg629 (pg) = 10 := Ex_o hx629 ⟨o_pg, t_pg⟩
                    have hX636 := Ex_t hX0 hx629
                    have hM637 : Fq 0 [(10, 0), (10, 1), (10, 2), (10, 8)] m tg F F629 := Fq_n hM627 hf629 ex629
                    have c638 : NM m m629 tg629 := NM_n cx_NM hC626.1 hx629 en629 em629 ho629.2 (by decide)
                    refine jx_ar (pc_q := 161) (st_q := [rv (n629), rv (n629)]) rfl rfl ja_dup rfl ?_
                    refine jx_ld (pc_q := 162) (l_q := L616) (st_q := [.int (i32 (kd)), rv (n629), rv (n629)]) rfl (jl_iloadn g618) ?_
                    refine jx_ld (pc_q := 163) (l_q := L616) (st_q := [rv (me), .int (i32 (kd)), rv (n629), rv (n629)]) rfl (jl_rvn g617) ?_
                    refine cx_gr (pc_q := 166) (c := 8) (q := 1) (v := sc) rfl rfl (by decide) (by decide) rfl rfl ho632.1 ho632.2 (((show F629 (me) (1 : Int) = F625 (me) (1 : Int) from hf629 _ _ (ne_n o_me en629)).trans (show F625 (me) (1 : Int) = F (me) (1 : Int) from by rw [eF625]; exact uF_j (by decide))).trans e_sc) ?_
                    refine cx_gl (pc_q := 169) (c := 10) (q := 18) rfl rfl (by decide) (by decide) rfl rfl ho634.1 ho634.2 (fun y639 => ?_)
                    refine jx_ld (pc_q := 170) (l_q := L616) (st_q := [rv (me), .long (y639), .int (i32 (kd)), rv (n629), rv (n629)]) rfl (jl_rvn g617) ?_
                    refine cx_gr (pc_q := 173) (c := 8) (q := 0) (v := pg) rfl rfl (by decide) (by decide) rfl rfl ho632.1 ho632.2 (((show F629 (me) (0 : Int) = F625 (me) (0 : Int) from hf629 _ _ (ne_n o_me en629)).trans (show F625 (me) (0 : Int) = F (me) (0 : Int) from by rw [eF625]; exact uF_j (by decide))).trans e_pg) ?_
                    refine cx_gi (pc_q := 176) (c := 9) (q := 8) (v := (F (pg) (8 : Int) + 1)) rfl rfl (by decide) (by decide) (Or.inl rfl) rfl ho635.1 ho635.2 ((show F629 (pg) (8 : Int) = F625 (pg) (8 : Int) from hf629 _ _ (ne_n o_pg en629)).trans (show F625 (pg) (8 : Int) = (F (pg) (8 : Int) + 1) from by rw [eF625]; exact uF_e)) ?_
                    refine jx_ld (pc_q := 177) (l_q := L616) (st_q := [.int (i32 (sz)), .int (i32 ((F (pg) (8 : Int) + 1))), .long (y639), .int (i32 (kd)), rv (n629), rv (n629)]) rfl (jl_iloadn g619) ?_
                    refine cx_sp (kd := 2) (a := n629) (st := [rv (n629)]) (as := [.int (i32 (kd)), .long (y639), .int (i32 ((F (pg) (8 : Int) + 1))), .int (i32 (sz))]) rfl rfl (by decide) rfl ho629.1.1 ⟨rfl, (by rw [jS_r, jS_0]; exact Nat.le_of_ble_eq_true rfl)⟩ rfl (k_LName_init (dd := d) (R := R) (m := m629) (tg := tg629) (ln := ln629) (F := F629) (me := n629) (kd := kd) (ky := y639) (nu := (F (pg) (8 : Int) + 1)) (sz := sz) (hd := by omega) (hC := hC629) (o_me := ho629.1) (t_me := ho629.2) (h_kd := by omega) (h_nu := by omega) (h_sz := by omega) (z_me := h0629)) (fun o V_q hq => ?_)
                    obtain ⟨F640, rfl, rfl, hC641, hM642, p643, zp644, -⟩ := hq
                    have hM645 : Fq 0 [(10, 0), (10, 1), (10, 2), (10, 8)] m tg F F640 := Fq_t (ln := ln) (ln1 := ln629) hM637 hX636 hM642 (by decide) (Or.inr (Or.inr ex629))
                    have c646 : NP m629 tg629 F640 := NP_nn hC626 c628 hx629 en629 em629 (fun b i ob => (hM642 b i (own_m ob hx629.1) (ne_n ob en629) rfl).trans (hf629 b i (ne_n ob en629))) (fun w => absurd (ho629.2.symm.trans w) (by decide)) (fun _ => ⟨(zp644 _ (by decide) (by decide) (by decide) (by decide)), (zp644 _ (by decide) (by decide) (by decide) (by decide)), (zp644 _ (by decide) (by decide) (by decide) (by decide))⟩) (fun w => absurd (ho629.2.symm.trans w) (by decide))
                    refine Or.inl ⟨rfl, ?_⟩
                    refine jx_rt (v := some (rv (n629))) rfl rfl rfl rfl rfl jr_are ?_
                    have q647 : F640 (sc) (7 : Int) = F (sc) (7 : Int) := ((show F640 (sc) (7 : Int) = F629 (sc) (7 : Int) from hM642 _ _ ho634.1 (fun w => by have q1 := ho634.2; rw [w, ho629.2] at q1; exact absurd q1 (by decide)) (by rw [ho634.2]; rfl)).trans ((show F629 (sc) (7 : Int) = F625 (sc) (7 : Int) from hf629 _ _ (ne_n o_sc en629)).trans (show F625 (sc) (7 : Int) = F (sc) (7 : Int) from by rw [eF625]; exact uF_j (by decide))))
                    have q648 : F640 (sc) (8 : Int) = F (sc) (8 : Int) := ((show F640 (sc) (8 : Int) = F629 (sc) (8 : Int) from hM642 _ _ ho634.1 (fun w => by have q1 := ho634.2; rw [w, ho629.2] at q1; exact absurd q1 (by decide)) (by rw [ho634.2]; rfl)).trans ((show F629 (sc) (8 : Int) = F625 (sc) (8 : Int) from hf629 _ _ (ne_n o_sc en629)).trans (show F625 (sc) (8 : Int) = F (sc) (8 : Int) from by rw [eF625]; exact uF_a (fun w => by have q1 := t_sc; have q2 := t_pg; rw [w, q2] at q1; exact absurd q1 (by decide)))))
                    have q649 : F640 (pg) (9 : Int) = F (pg) (9 : Int) := ((show F640 (pg) (9 : Int) = F629 (pg) (9 : Int) from hM642 _ _ ho635.1 (fun w => by have q1 := ho635.2; rw [w, ho629.2] at q1; exact absurd q1 (by decide)) (by rw [ho635.2]; rfl)).trans ((show F629 (pg) (9 : Int) = F625 (pg) (9 : Int) from hf629 _ _ (ne_n o_pg en629)).trans (show F625 (pg) (9 : Int) = F (pg) (9 : Int) from by rw [eF625]; exact uF_j (by decide))))
                    have q650 : F640 (me) (2 : Int) = F (me) (2 : Int) := ((show F640 (me) (2 : Int) = F629 (me) (2 : Int) from hM642 _ _ ho632.1 (fun w => by have q1 := ho632.2; rw [w, ho629.2] at q1; exact absurd q1 (by decide)) (by rw [ho632.2]; rfl)).trans ((show F629 (me) (2 : Int) = F625 (me) (2 : Int) from hf629 _ _ (ne_n o_me en629)).trans (show F625 (me) (2 : Int) = F (me) (2 : Int) from by rw [eF625]; exact uF_j (by decide))))
                    have q651 : F640 (sc) (15 : Int) = F (sc) (15 : Int) := ((show F640 (sc) (15 : Int) = F629 (sc) (15 : Int) from hM642 _ _ ho634.1 (fun w => by have q1 := ho634.2; rw [w, ho629.2] at q1; exact absurd q1 (by decide)) (by rw [ho634.2]; rfl)).trans ((show F629 (sc) (15 : Int) = F625 (sc) (15 : Int) from hf629 _ _ (ne_n o_sc en629)).trans (show F625 (sc) (15 : Int) = F (sc) (15 : Int) from by rw [eF625]; exact uF_j (by decide))))
                    have q652 : tz (F640 (sc) (15 : Int)) = tz (F (sc) (15 : Int)) := by rw [q651]
                    have q653 := tz_b (F (sc) (15 : Int))
                    have q654 : F640 (sc) (8 : Int) = F (sc) (8 : Int) := ((show F640 (sc) (8 : Int) = F629 (sc) (8 : Int) from hM642 _ _ ho634.1 (fun w => by have q1 := ho634.2; rw [w, ho629.2] at q1; exact absurd q1 (by decide)) (by rw [ho634.2]; rfl)).trans ((show F629 (sc) (8 : Int) = F625 (sc) (8 : Int) from hf629 _ _ (ne_n o_sc en629)).trans (show F625 (sc) (8 : Int) = F (sc) (8 : Int) from by rw [eF625]; exact uF_a (fun w => by have q1 := t_sc; have q2 := t_pg; rw [w, q2] at q1; exact absurd q1 (by decide)))))
                    have q655 : F640 (sc) (15 : Int) = F (sc) (15 : Int) := ((show F640 (sc) (15 : Int) = F629 (sc) (15 : Int) from hM642 _ _ ho634.1 (fun w => by have q1 := ho634.2; rw [w, ho629.2] at q1; exact absurd q1 (by decide)) (by rw [ho634.2]; rfl)).trans ((show F629 (sc) (15 : Int) = F625 (sc) (15 : Int) from hf629 _ _ (ne_n o_sc en629)).trans (show F625 (sc) (15 : Int) = F (sc) (15 : Int) from by rw [eF625]; exact uF_j (by decide))))
                    have q656 : tz (F640 (sc) (15 : Int)) = tz (F (sc) (15 : Int)) := by rw [q655]
                    have q657 := tz_b (F (sc) (15 : Int))
                    have q658 : F640 (sc) (14 : Int) = F (sc) (14 : Int) := ((show F640 (sc) (14 : Int) = F629 (sc) (14 : Int) from hM642 _ _ ho634.1 (fun w => by have q1 := ho634.2; rw [w, ho629.2] at q1; exact absurd q1 (by decide)) (by rw [ho634.2]; rfl)).trans ((show F629 (sc) (14 : Int) = F625 (sc) (14 : Int) from hf629 _ _ (ne_n o_sc en629)).trans (show F625 (sc) (14 : Int) = F (sc) (14 : Int) from by rw [eF625]; exact uF_j (by decide))))
                    have q659 : lz (F640 (sc) (14 : Int)) = lz (F (sc) (14 : Int)) := by rw [q658]
                    have q660 := lz_b (F (sc) (14 : Int))
                    have q661 : F640 (pg) (9 : Int) = F (pg) (9 : Int) := ((show F640 (pg) (9 : Int) = F629 (pg) (9 : Int) from hM642 _ _ ho635.1 (fun w => by have q1 := ho635.2; rw [w, ho629.2] at q1; exact absurd q1 (by decide)) (by rw [ho635.2]; rfl)).trans ((show F629 (pg) (9 : Int) = F625 (pg) (9 : Int) from hf629 _ _ (ne_n o_pg en629)).trans (show F625 (pg) (9 : Int) = F (pg) (9 : Int) from by rw [eF625]; exact uF_j (by decide))))
                    have q662 : F640 (n629) (12 : Int) = 0 := (show F640 (n629) (12 : Int) = 0 from zp644 _ (by decide) (by decide) (by decide) (by decide))
                    have q663 : F640 (n629) (13 : Int) = 0 := (show F640 (n629) (13 : Int) = 0 from zp644 _ (by decide) (by decide) (by decide) (by decide))
                    have q664 : F640 (n629) (14 : Int) = 0 := (show F640 (n629) (14 : Int) = 0 from zp644 _ (by decide) (by decide) (by decide) (by decide))
                    exact Or.inl ⟨m629, tg629, ln629, F640, (n629), rfl, rfl, hX636, hC641, hM645, ⟨ho629.1, ho629.2⟩, by omega, by omega, by omega, by omega, by omega, by omega, by omega, by omega, by omega, by omega, by omega, by omega, by omega, by omega, c646, c638, trivial⟩
                  · have _q := h624
                    refine jx_ld (pc_q := 132) (l_q := L616) (st_q := [rv (me)]) rfl (jl_rvn g617) ?_
                    refine jx_ar (pc_q := 134) (st_q := [.int (i32 (6)), rv (me)]) rfl rfl rfl rfl ?_
                    refine jx_ld (pc_q := 135) (l_q := L616) (st_q := [rv (me), .int (i32 (6)), rv (me)]) rfl (jl_rvn g617) ?_
                    refine cx_gr (pc_q := 138) (c := 8) (q := 1) (v := sc) rfl rfl (by decide) (by decide) rfl rfl o_me t_me e_sc ?_
                    refine cx_gi (pc_q := 141) (c := 10) (q := 16) (v := F (sc) (16 : Int)) rfl rfl (by decide) (by decide) (Or.inl rfl) rfl o_sc t_sc rfl ?_
                    have b665 : (-2147483648 : Int) ≤ F (sc) (16 : Int) ∧ F (sc) (16 : Int) ≤ 2147483647 := by have z := HC_i (c := 10) (q := 16) hC o_sc t_sc (by decide) rfl; rw [show F (sc) ((16 : Nat) : Int) = F (sc) (16 : Int) from rfl] at z; exact z
                    refine cx_vi (c := 8) (a := me) (st := []) (as := [.int (i32 (6)), .int (i32 (F (sc) (16 : Int)))]) rfl rfl rfl o_me t_me (by decide) rfl ⟨rfl, rfl, (Nat.le_of_ble_eq_true rfl)⟩ rfl (k_LParser_fail (dd := d) (R := R) (m := m) (tg := tg) (ln := ln) (F := F) (me := me) (kd := 6) (pl := F (sc) (16 : Int)) (hd := by omega) (hC := hC) (o_me := o_me) (t_me := t_me) (h_kd := by omega) (h_pl := by omega) (sc := sc) (pg := pg) (o_sc := o_sc) (t_sc := t_sc) (e_sc := e_sc) (o_pg := o_pg) (t_pg := t_pg) (e_pg := e_pg) (p_0 := by omega) (p_1 := by omega) (c_NP := cx_NP)) (fun o V_q hq => ?_)
                    obtain ⟨m666, tg666, ln666, F667, rfl, rfl, hx668, hC669, hM670, p671, c672, c673, -⟩ | ⟨m674, tg674, ln674, F674, x674, rfl, rfl, hx674, hC674, hM674, ho674, ht674, p675, p676, p677, p678, c679, c680, -⟩ := hq
                    rotate_left
                    ·
                      have c681 : NM m m674 tg674 := NM_t cx_NM hx674 c680
                      have lm682 := hx674.1
                      refine Or.inr (Or.inr (Or.inr ⟨_, _, rfl, cx_exc (c := 15) ho674 ht674 (by decide), rfl, ?_⟩))
                      exact Or.inr ⟨m674, tg674, ln674, F674, x674, rfl, rfl, Ex_t hX0 hx674, hC674, Fq_t (ln := ln) (ln1 := ln) hM0 hX0 hM674 (by decide) (Or.inl rfl), (And.intro ho674 ht674).1, (And.intro ho674 ht674).2, by omega, by omega, by omega, by omega, c679, c681, trivial⟩
                    exact p671.elim
              · have _q := h615
                refine jx_ar (pc_q := 107) (st_q := [.int (i32 (1))]) rfl rfl rfl rfl ?_
                refine jx_go (tg := 111) rfl rfl ?_
                refine jx_ld (pc_q := 113) (l_q := jSto1 L 4 (.int (i32 (1)))) (st_q := []) rfl rfl ?_
                obtain ⟨L683, eL683⟩ : ∃ q : jL, q = jSto1 L 4 (.int (i32 (1))) := ⟨_, rfl⟩
                rw [← eL683]
                have g684 : jGet L683 0 = some (rv (me)) := eL683 ▸ jg_nr (by decide) gL_0
                have g685 : jGet L683 1 = some (.int (i32 (kd))) := eL683 ▸ jg_ne (by decide) gL_1 rfl
                have g686 : jGet L683 2 = some (.int (i32 (sz))) := eL683 ▸ jg_ne (by decide) gL_2 rfl
                have g687 : jGet L683 3 = some (rv (si)) := eL683 ▸ jg_nr (by decide) gL_3
                have g688 : jGet L683 4 = some (.int (i32 (1))) := eL683 ▸ jg_eq
                clear eL683
                refine jx_ld (pc_q := 115) (l_q := L683) (st_q := [.int (i32 (1))]) rfl (jl_iload g688) ?_
                refine jx_if_ne (pc_q := 118) (tg := 131) rfl rfl rfl (by decide) (by decide) (fun h689 => ?_) (fun h689 => ?_)
                · have _q := h689
                  refine jx_ld (pc_q := 132) (l_q := L683) (st_q := [rv (me)]) rfl (jl_rvn g684) ?_
                  refine jx_ar (pc_q := 134) (st_q := [.int (i32 (6)), rv (me)]) rfl rfl rfl rfl ?_
                  refine jx_ld (pc_q := 135) (l_q := L683) (st_q := [rv (me), .int (i32 (6)), rv (me)]) rfl (jl_rvn g684) ?_
                  refine cx_gr (pc_q := 138) (c := 8) (q := 1) (v := sc) rfl rfl (by decide) (by decide) rfl rfl o_me t_me e_sc ?_
                  refine cx_gi (pc_q := 141) (c := 10) (q := 16) (v := F (sc) (16 : Int)) rfl rfl (by decide) (by decide) (Or.inl rfl) rfl o_sc t_sc rfl ?_
                  have b690 : (-2147483648 : Int) ≤ F (sc) (16 : Int) ∧ F (sc) (16 : Int) ≤ 2147483647 := by have z := HC_i (c := 10) (q := 16) hC o_sc t_sc (by decide) rfl; rw [show F (sc) ((16 : Nat) : Int) = F (sc) (16 : Int) from rfl] at z; exact z
                  refine cx_vi (c := 8) (a := me) (st := []) (as := [.int (i32 (6)), .int (i32 (F (sc) (16 : Int)))]) rfl rfl rfl o_me t_me (by decide) rfl ⟨rfl, rfl, (Nat.le_of_ble_eq_true rfl)⟩ rfl (k_LParser_fail (dd := d) (R := R) (m := m) (tg := tg) (ln := ln) (F := F) (me := me) (kd := 6) (pl := F (sc) (16 : Int)) (hd := by omega) (hC := hC) (o_me := o_me) (t_me := t_me) (h_kd := by omega) (h_pl := by omega) (sc := sc) (pg := pg) (o_sc := o_sc) (t_sc := t_sc) (e_sc := e_sc) (o_pg := o_pg) (t_pg := t_pg) (e_pg := e_pg) (p_0 := by omega) (p_1 := by omega) (c_NP := cx_NP)) (fun o V_q hq => ?_)
                  obtain ⟨m691, tg691, ln691, F692, rfl, rfl, hx693, hC694, hM695, p696, c697, c698, -⟩ | ⟨m699, tg699, ln699, F699, x699, rfl, rfl, hx699, hC699, hM699, ho699, ht699, p700, p701, p702, p703, c704, c705, -⟩ := hq
                  rotate_left
                  ·
                    have c706 : NM m m699 tg699 := NM_t cx_NM hx699 c705
                    have lm707 := hx699.1
                    refine Or.inr (Or.inr (Or.inr ⟨_, _, rfl, cx_exc (c := 15) ho699 ht699 (by decide), rfl, ?_⟩))
                    exact Or.inr ⟨m699, tg699, ln699, F699, x699, rfl, rfl, Ex_t hX0 hx699, hC699, Fq_t (ln := ln) (ln1 := ln) hM0 hX0 hM699 (by decide) (Or.inl rfl), (And.intro ho699 ht699).1, (And.intro ho699 ht699).2, by omega, by omega, by omega, by omega, c704, c706, trivial⟩
                  exact p696.elim
                · have _q := h689
                  exact absurd h689 (by omega)
      · have _q := h355
        refine jx_ld (pc_q := 34) (l_q := L) (st_q := [rv (nm)]) rfl (jl_rv gL_4) ?_
        refine cx_gl (pc_q := 37) (c := 6) (q := 1) rfl rfl (by decide) (by decide) rfl rfl ho354.1 ho354.2 (fun y708 => ?_)
        refine jx_ld (pc_q := 38) (l_q := L) (st_q := [rv (me), .long (y708)]) rfl (jl_rvn gL_0) ?_
        refine cx_gr (pc_q := 41) (c := 8) (q := 1) (v := sc) rfl rfl (by decide) (by decide) rfl rfl o_me t_me e_sc ?_
        refine cx_gl (pc_q := 44) (c := 10) (q := 18) rfl rfl (by decide) (by decide) rfl rfl o_sc t_sc (fun y709 => ?_)
        refine jx_lcmp (pc_q := 45) rfl rfl (fun r710 hr710 => ?_)
        refine jx_if_ne (pc_q := 48) (tg := 60) rfl rfl rfl (by omega) (by omega) (fun h711 => ?_) (fun h711 => ?_)
        · have _q := h711
          refine jx_ld (pc_q := 62) (l_q := L) (st_q := [rv (nm)]) rfl (jl_rv gL_4) ?_
          refine cx_gr (pc_q := 65) (c := 6) (q := 15) (v := F (nm) (15 : Int)) rfl rfl (by decide) (by decide) rfl rfl ho354.1 ho354.2 rfl ?_
          have y712 : F (nm) (15 : Int) = 0 ∨ (own m (F (nm) (15 : Int)) ∧ tg (F (nm) (15 : Int)) = 7) := by have z := HC_r (c := 6) (q := 15) hC ho354.1 ho354.2 (by decide) rfl; rw [show F (nm) ((15 : Nat) : Int) = F (nm) (15 : Int) from rfl] at z; exact z
          have z713 := (cx_NP.1.2 _ ho354.1 ho354.2).2
          have z714 := ho354.1.1
          refine jx_ld (pc_q := 67) (l_q := jSto1 L 4 (rv (F (nm) (15 : Int)))) (st_q := []) rfl (js_rv (by decide)) ?_
          obtain ⟨L715, eL715⟩ : ∃ q : jL, q = jSto1 L 4 (rv (F (nm) (15 : Int))) := ⟨_, rfl⟩
          rw [← eL715]
          have g716 : jGet L715 0 = some (rv (me)) := eL715 ▸ jg_nr (by decide) gL_0
          have g717 : jGet L715 1 = some (.int (i32 (kd))) := eL715 ▸ jg_ne (by decide) gL_1 rfl
          have g718 : jGet L715 2 = some (.int (i32 (sz))) := eL715 ▸ jg_ne (by decide) gL_2 rfl
          have g719 : jGet L715 3 = some (rv (si)) := eL715 ▸ jg_nr (by decide) gL_3
          have g720 : jGet L715 4 = some (rv (F (nm) (15 : Int))) := eL715 ▸ jg_eq
          clear eL715
          refine jx_go (tg := 21) rfl rfl ?_
          exact ih _ (by omega) L715 (F (nm) (15 : Int)) rfl g716 g717 g718 g719 g720 y712 (by omega) cx_NP cx_NM
        · have _q := h711
          refine jx_ld (pc_q := 49) (l_q := L) (st_q := [rv (me)]) rfl (jl_rvn gL_0) ?_
          refine jx_ar (pc_q := 50) (st_q := [.int (i32 (2)), rv (me)]) rfl rfl rfl rfl ?_
          refine jx_ld (pc_q := 51) (l_q := L) (st_q := [rv (me), .int (i32 (2)), rv (me)]) rfl (jl_rvn gL_0) ?_
          refine cx_gr (pc_q := 54) (c := 8) (q := 1) (v := sc) rfl rfl (by decide) (by decide) rfl rfl o_me t_me e_sc ?_
          refine cx_gi (pc_q := 57) (c := 10) (q := 16) (v := F (sc) (16 : Int)) rfl rfl (by decide) (by decide) (Or.inl rfl) rfl o_sc t_sc rfl ?_
          have b721 : (-2147483648 : Int) ≤ F (sc) (16 : Int) ∧ F (sc) (16 : Int) ≤ 2147483647 := by have z := HC_i (c := 10) (q := 16) hC o_sc t_sc (by decide) rfl; rw [show F (sc) ((16 : Nat) : Int) = F (sc) (16 : Int) from rfl] at z; exact z
          refine cx_vi (c := 8) (a := me) (st := []) (as := [.int (i32 (2)), .int (i32 (F (sc) (16 : Int)))]) rfl rfl rfl o_me t_me (by decide) rfl ⟨rfl, rfl, (Nat.le_of_ble_eq_true rfl)⟩ rfl (k_LParser_fail (dd := d) (R := R) (m := m) (tg := tg) (ln := ln) (F := F) (me := me) (kd := 2) (pl := F (sc) (16 : Int)) (hd := by omega) (hC := hC) (o_me := o_me) (t_me := t_me) (h_kd := by omega) (h_pl := by omega) (sc := sc) (pg := pg) (o_sc := o_sc) (t_sc := t_sc) (e_sc := e_sc) (o_pg := o_pg) (t_pg := t_pg) (e_pg := e_pg) (p_0 := by omega) (p_1 := by omega) (c_NP := cx_NP)) (fun o V_q hq => ?_)
          obtain ⟨m722, tg722, ln722, F723, rfl, rfl, hx724, hC725, hM726, p727, c728, c729, -⟩ | ⟨m730, tg730, ln730, F730, x730, rfl, rfl, hx730, hC730, hM730, ho730, ht730, p731, p732, p733, p734, c735, c736, -⟩ := hq
          rotate_left
          ·
            have c737 : NM m m730 tg730 := NM_t cx_NM hx730 c736
            have lm738 := hx730.1
            refine Or.inr (Or.inr (Or.inr ⟨_, _, rfl, cx_exc (c := 15) ho730 ht730 (by decide), rfl, ?_⟩))
            exact Or.inr ⟨m730, tg730, ln730, F730, x730, rfl, rfl, Ex_t hX0 hx730, hC730, Fq_t (ln := ln) (ln1 := ln) hM0 hX0 hM730 (by decide) (Or.inl rfl), (And.intro ho730 ht730).1, (And.intro ho730 ht730).2, by omega, by omega, by omega, by omega, c735, c737, trivial⟩
          exact p727.elim
set_option maxRecDepth 20000 in
set_option maxHeartbeats 4000000 in
theorem k_LParser_fresh {X : jX} {dd : Nat} {R : Nat → jC} {m : Nat} {tg ln : Int → Int} {F : Int → Int → Int} {me kd sz si : Int} (hd : 3 ≤ dd) (hC : HC 0 m tg ln F) {sc pg : Int} (o_sc : own m sc) (t_sc : tg sc = 11) (e_sc : F me (1 : Int) = sc) (o_pg : own m pg) (t_pg : tg pg = 10) (e_pg : F me (0 : Int) = pg) (o_me : own m me) (t_me : tg me = 9) (h_kd : (-2147483648 : Int) ≤ kd ∧ kd ≤ 2147483647) (h_sz : (-2147483648 : Int) ≤ sz ∧ sz ≤ 2147483647) (y_si : si = 0 ∨ (own m si ∧ tg si = 7)) (p_0 : F sc (8 : Int) + 2 * tz (F sc (15 : Int)) ≤ F sc (7 : Int) + 1) (p_1 : F sc (8 : Int) + 2 * lz (F sc (14 : Int)) ≤ F sc (7 : Int) + 1) (p_2 : F sc (8 : Int) ≤ F sc (7 : Int)) (c_NP : NP m tg F) : wk X dd 171 [rv me, .int (i32 kd), .int (i32 sz), rv si] (cV R m tg ln F) (fun o V_q => (∃ (m_q : Nat) (tg_q ln_q : Int → Int) (F_q : Int → Int → Int) (r : Int), V_q = cV R m_q tg_q ln_q F_q ∧ o = .inl (some (rv r)) ∧ Ex m tg ln m_q tg_q ln_q ∧ HC 0 m_q tg_q ln_q F_q ∧ Fq 0 [(10, 0), (10, 1), (10, 2), (10, 8)] m tg F F_q ∧ (own m_q r ∧ tg_q r = 7) ∧ (F_q sc (8 : Int) + 2 * tz (F_q sc (15 : Int)) ≤ F sc (7 : Int) + 1) ∧ (F_q sc (8 : Int) + 2 * lz (F_q sc (14 : Int)) ≤ F sc (7 : Int) + 1) ∧ (F_q sc (8 : Int) ≤ F sc (7 : Int)) ∧ (F_q sc (8 : Int) = F sc (8 : Int)) ∧ (szD m_q tg_q ln_q = szD m tg ln + 25 * ((m_q : Int) - (m : Int))) ∧ ((m_q : Int) ≤ (m : Int) + (F_q sc (8 : Int) - F sc (8 : Int)) + (1)) ∧ (F_q pg (9 : Int) ≤ F pg (9 : Int) + ((m_q : Int) - (m : Int))) ∧ (64 + (m : Int) ≤ r) ∧ (F me (2 : Int) < r) ∧ (tz (F sc (15 : Int)) = 1) ∧ (F_q r (0 : Int) = kd) ∧ (F_q r (12 : Int) = 0) ∧ (F_q r (13 : Int) = 0) ∧ (F_q r (14 : Int) = 0) ∧ (NP m_q tg_q F_q) ∧ (NM m m_q tg_q) ∧ True) ∨ (∃ (m_q : Nat) (tg_q ln_q : Int → Int) (F_q : Int → Int → Int) (x : Nat), V_q = cV R m_q tg_q ln_q F_q ∧ o = .inr x ∧ Ex m tg ln m_q tg_q ln_q ∧ HC 0 m_q tg_q ln_q F_q ∧ Fq 0 [(10, 0), (10, 1), (10, 2), (10, 8)] m tg F F_q ∧ (own m_q (x : Int)) ∧ (tg_q (x : Int) = 16) ∧ (F_q pg (0 : Int) ≠ 0) ∧ (szD m_q tg_q ln_q = szD m tg ln + 25 * ((m_q : Int) - (m : Int))) ∧ ((m_q : Int) ≤ (m : Int) + (F_q sc (8 : Int) - F sc (8 : Int)) + (1)) ∧ (F_q sc (8 : Int) ≤ F sc (7 : Int) + 1) ∧ (NP m_q tg_q F_q) ∧ (NM m m_q tg_q) ∧ True)) := by
  obtain ⟨d, rfl⟩ : ∃ d, dd = d + 1 := ⟨dd - 1, by omega⟩
  refine wk_of (e := jm171) rfl (by rw [jS_r, jS_i, jS_i, jS_r, jS_0]; exact Nat.le_of_ble_eq_true rfl) ?_
  rw [la_r, la_i, la_i, la_r, la_0]
  show wj X d jm171 (0, [(0, rv (me)), (1, .int (i32 (kd))), (2, .int (i32 (sz))), (3, rv (si))], [], cV R m tg ln F) _
  have hM0 : Fq 0 [(10, 0), (10, 1), (10, 2), (10, 8)] m tg F F := Fq_r
  have hX0 : Ex m tg ln m tg ln := Ex_r
  obtain ⟨L0, eL0⟩ : ∃ q : jL, q = [(0, rv (me)), (1, .int (i32 (kd))), (2, .int (i32 (sz))), (3, rv (si))] := ⟨_, rfl⟩
  rw [← eL0]
  have g739 : jGet L0 0 = some (rv (me)) := eL0 ▸ (rfl : jGet [(0, rv (me)), (1, .int (i32 (kd))), (2, .int (i32 (sz))), (3, rv (si))] 0 = some (rv (me)))
  have g740 : jGet L0 1 = some (.int (i32 (kd))) := eL0 ▸ (rfl : jGet [(0, rv (me)), (1, .int (i32 (kd))), (2, .int (i32 (sz))), (3, rv (si))] 1 = some (.int (i32 (kd))))
  have g741 : jGet L0 2 = some (.int (i32 (sz))) := eL0 ▸ (rfl : jGet [(0, rv (me)), (1, .int (i32 (kd))), (2, .int (i32 (sz))), (3, rv (si))] 2 = some (.int (i32 (sz))))
  have g742 : jGet L0 3 = some (rv (si)) := eL0 ▸ (rfl : jGet [(0, rv (me)), (1, .int (i32 (kd))), (2, .int (i32 (sz))), (3, rv (si))] 3 = some (rv (si)))
  clear eL0
  have tb0 := tz_b (F sc (15 : Int))
  have lb0 := lz_b (F sc (14 : Int))
  have ob0 : (0 : Int) ≤ F me (3 : Int) ∧ F me (3 : Int) ≤ 8 := HC_i (c := 8) (q := 3) hC o_me t_me (by decide) rfl
  have tp0 : F me (2 : Int) < 64 + (m : Int) := by
    have z : F me (2 : Int) = 0 ∨ (own m (F me (2 : Int)) ∧ tg (F me (2 : Int)) = 7) := HC_r (c := 8) (q := 2) hC o_me t_me (by decide) rfl
    rcases z with w | w
    · omega
    · exact w.1.2.1
  refine jx_ld (pc_q := 1) (l_q := L0) (st_q := [rv (me)]) rfl (jl_rvn g739) ?_
  refine cx_gr (pc_q := 4) (c := 8) (q := 1) (v := sc) rfl rfl (by decide) (by decide) rfl rfl o_me t_me e_sc ?_
  refine cx_gi (pc_q := 7) (c := 10) (q := 15) (v := F (sc) (15 : Int)) rfl rfl (by decide) (by decide) (Or.inl rfl) rfl o_sc t_sc rfl ?_
  have b743 : (-2147483648 : Int) ≤ F (sc) (15 : Int) ∧ F (sc) (15 : Int) ≤ 2147483647 := by have z := HC_i (c := 10) (q := 15) hC o_sc t_sc (by decide) rfl; rw [show F (sc) ((15 : Nat) : Int) = F (sc) (15 : Int) from rfl] at z; exact z
  refine jx_ar (pc_q := 8) (st_q := [.int (i32 (2)), .int (i32 (F (sc) (15 : Int)))]) rfl rfl rfl rfl ?_
  refine jx_icmp_eq (pc_q := 11) (tg := 15) rfl rfl rfl (by omega) (by omega) (by decide) (by decide) (fun h744 => ?_) (fun h744 => ?_)
  · have _q := h744
    have t745 : tz (F (sc) (15 : Int)) = 1 := tz_p (by omega)
    refine jx_ld (pc_q := 16) (l_q := L0) (st_q := [rv (me)]) rfl (jl_rvn g739) ?_
    refine cx_gr (pc_q := 19) (c := 8) (q := 2) (v := F (me) (2 : Int)) rfl rfl (by decide) (by decide) rfl rfl o_me t_me rfl ?_
    have y746 : F (me) (2 : Int) = 0 ∨ (own m (F (me) (2 : Int)) ∧ tg (F (me) (2 : Int)) = 7) := by have z := HC_r (c := 8) (q := 2) hC o_me t_me (by decide) rfl; rw [show F (me) ((2 : Nat) : Int) = F (me) (2 : Int) from rfl] at z; exact z
    refine jx_ld (pc_q := 21) (l_q := jSto1 L0 4 (rv (F (me) (2 : Int)))) (st_q := []) rfl (js_rv (by decide)) ?_
    obtain ⟨L747, eL747⟩ : ∃ q : jL, q = jSto1 L0 4 (rv (F (me) (2 : Int))) := ⟨_, rfl⟩
    rw [← eL747]
    have g748 : jGet L747 0 = some (rv (me)) := eL747 ▸ jg_nr (by decide) g739
    have g749 : jGet L747 1 = some (.int (i32 (kd))) := eL747 ▸ jg_ne (by decide) g740 rfl
    have g750 : jGet L747 2 = some (.int (i32 (sz))) := eL747 ▸ jg_ne (by decide) g741 rfl
    have g751 : jGet L747 3 = some (rv (si)) := eL747 ▸ jg_nr (by decide) g742
    have g752 : jGet L747 4 = some (rv (F (me) (2 : Int))) := eL747 ▸ jg_eq
    clear eL747
    exact k_LParser_fresh_at_21 (X := X) (d := d) (R := R) (m := m) (tg := tg) (ln := ln) (F := F) (me := me) (kd := kd) (sz := sz) (si := si) (hd := hd) (hC := hC) (sc := sc) (pg := pg) (o_sc := o_sc) (t_sc := t_sc) (e_sc := e_sc) (o_pg := o_pg) (t_pg := t_pg) (e_pg := e_pg) (o_me := o_me) (t_me := t_me) (h_kd := h_kd) (h_sz := h_sz) (y_si := y_si) (p_0 := p_0) (p_1 := p_1) (p_2 := p_2) (c_NP := c_NP) _ L747 (F (me) (2 : Int)) rfl g748 g749 g750 g751 g752 y746 (by omega) c_NP NM_0
  · have _q := h744
    refine jx_ld (pc_q := 12) (l_q := L0) (st_q := [rv (me)]) rfl (jl_rvn g739) ?_
    refine cx_vi (c := 8) (a := me) (st := []) (as := []) rfl rfl rfl o_me t_me (by decide) rfl ⟨rfl, rfl, (Nat.le_of_ble_eq_true rfl)⟩ rfl (k_LParser_form (dd := d) (R := R) (m := m) (tg := tg) (ln := ln) (F := F) (me := me) (hd := by omega) (hC := hC) (o_me := o_me) (t_me := t_me) (sc := sc) (pg := pg) (o_sc := o_sc) (t_sc := t_sc) (e_sc := e_sc) (o_pg := o_pg) (t_pg := t_pg) (e_pg := e_pg) (p_0 := by omega) (c_NP := c_NP)) (fun o V_q hq => ?_)
    obtain ⟨m753, tg753, ln753, F754, rfl, rfl, hx755, hC756, hM757, p758, c759, c760, -⟩ | ⟨m761, tg761, ln761, F761, x761, rfl, rfl, hx761, hC761, hM761, ho761, ht761, p762, p763, p764, p765, c766, c767, -⟩ := hq
    rotate_left
    ·
      have c768 : NM m m761 tg761 := NM_t NM_0 hx761 c767
      have lm769 := hx761.1
      refine Or.inr (Or.inr (Or.inr ⟨_, _, rfl, cx_exc (c := 15) ho761 ht761 (by decide), rfl, ?_⟩))
      exact Or.inr ⟨m761, tg761, ln761, F761, x761, rfl, rfl, Ex_t hX0 hx761, hC761, Fq_t (ln := ln) (ln1 := ln) hM0 hX0 hM761 (by decide) (Or.inl rfl), (And.intro ho761 ht761).1, (And.intro ho761 ht761).2, by omega, by omega, by omega, by omega, c766, c768, trivial⟩
    exact p758.elim
set_option maxRecDepth 20000 in
set_option maxHeartbeats 4000000 in
theorem k_LParser_startsDeclaration {X : jX} {dd : Nat} {R : Nat → jC} {m : Nat} {tg ln : Int → Int} {F : Int → Int → Int} {me : Int} (hd : 1 ≤ dd) (hC : HC 0 m tg ln F) {sc pg : Int} (o_sc : own m sc) (t_sc : tg sc = 11) (e_sc : F me (1 : Int) = sc) (o_pg : own m pg) (t_pg : tg pg = 10) (e_pg : F me (0 : Int) = pg) (o_me : own m me) (t_me : tg me = 9) (c_NP : NP m tg F) : wk X dd 178 [rv me] (cV R m tg ln F) (fun o V_q => ∃ (r : Int), V_q = cV R m tg ln F ∧ o = .inl (some (.int (i32 r))) ∧ (0 ≤ r ∧ r ≤ 1) ∧ (r ≤ tz (F sc (15 : Int))) ∧ (NP m tg F) ∧ (NM m m tg) ∧ True) := by
  obtain ⟨d, rfl⟩ : ∃ d, dd = d + 1 := ⟨dd - 1, by omega⟩
  refine wk_of (e := jm178) rfl (by rw [jS_r, jS_0]; exact Nat.le_of_ble_eq_true rfl) ?_
  rw [la_r, la_0]
  show wj X d jm178 (0, [(0, rv (me))], [], cV R m tg ln F) _
  obtain ⟨L0, eL0⟩ : ∃ q : jL, q = [(0, rv (me))] := ⟨_, rfl⟩
  rw [← eL0]
  have g1 : jGet L0 0 = some (rv (me)) := eL0 ▸ (rfl : jGet [(0, rv (me))] 0 = some (rv (me)))
  clear eL0
  have tb0 := tz_b (F sc (15 : Int))
  have lb0 := lz_b (F sc (14 : Int))
  have ob0 : (0 : Int) ≤ F me (3 : Int) ∧ F me (3 : Int) ≤ 8 := HC_i (c := 8) (q := 3) hC o_me t_me (by decide) rfl
  have tp0 : F me (2 : Int) < 64 + (m : Int) := by
    have z : F me (2 : Int) = 0 ∨ (own m (F me (2 : Int)) ∧ tg (F me (2 : Int)) = 7) := HC_r (c := 8) (q := 2) hC o_me t_me (by decide) rfl
    rcases z with w | w
    · omega
    · exact w.1.2.1
  refine jx_ld (pc_q := 1) (l_q := L0) (st_q := [rv (me)]) rfl (jl_rvn g1) ?_
  refine cx_gr (pc_q := 4) (c := 8) (q := 1) (v := sc) rfl rfl (by decide) (by decide) rfl rfl o_me t_me e_sc ?_
  refine cx_gi (pc_q := 7) (c := 10) (q := 15) (v := F (sc) (15 : Int)) rfl rfl (by decide) (by decide) (Or.inl rfl) rfl o_sc t_sc rfl ?_
  have b2 : (-2147483648 : Int) ≤ F (sc) (15 : Int) ∧ F (sc) (15 : Int) ≤ 2147483647 := by have z := HC_i (c := 10) (q := 15) hC o_sc t_sc (by decide) rfl; rw [show F (sc) ((15 : Nat) : Int) = F (sc) (15 : Int) from rfl] at z; exact z
  refine jx_ar (pc_q := 9) (st_q := [.int (i32 (18)), .int (i32 (F (sc) (15 : Int)))]) rfl rfl rfl rfl ?_
  refine jx_icmp_eq (pc_q := 12) (tg := 36) rfl rfl rfl (by omega) (by omega) (by decide) (by decide) (fun h3 => ?_) (fun h3 => ?_)
  · have _q := h3
    have t4 : tz (F (sc) (15 : Int)) = 1 := tz_p (by omega)
    refine jx_ar (pc_q := 37) (st_q := [.int (i32 (1))]) rfl rfl rfl rfl ?_
    refine jx_go (tg := 41) rfl rfl ?_
    refine jx_rt (v := some (.int (i32 (1)))) rfl rfl rfl rfl rfl (by first | rfl | exact jRet_b (by omega)) ?_
    have q5 := tz_b (F (sc) (15 : Int))
    exact ⟨(1), rfl, rfl, by omega, by omega, c_NP, NM_0, trivial⟩
  · have _q := h3
    refine jx_ld (pc_q := 13) (l_q := L0) (st_q := [rv (me)]) rfl (jl_rvn g1) ?_
    refine cx_gr (pc_q := 16) (c := 8) (q := 1) (v := sc) rfl rfl (by decide) (by decide) rfl rfl o_me t_me e_sc ?_
    refine cx_gi (pc_q := 19) (c := 10) (q := 15) (v := F (sc) (15 : Int)) rfl rfl (by decide) (by decide) (Or.inl rfl) rfl o_sc t_sc rfl ?_
    refine jx_ar (pc_q := 21) (st_q := [.int (i32 (19)), .int (i32 (F (sc) (15 : Int)))]) rfl rfl rfl rfl ?_
    refine jx_icmp_eq (pc_q := 24) (tg := 36) rfl rfl rfl (by omega) (by omega) (by decide) (by decide) (fun h6 => ?_) (fun h6 => ?_)
    · have _q := h6
      have t7 : tz (F (sc) (15 : Int)) = 1 := tz_p (by omega)
      refine jx_ar (pc_q := 37) (st_q := [.int (i32 (1))]) rfl rfl rfl rfl ?_
      refine jx_go (tg := 41) rfl rfl ?_
      refine jx_rt (v := some (.int (i32 (1)))) rfl rfl rfl rfl rfl (by first | rfl | exact jRet_b (by omega)) ?_
      have q8 := tz_b (F (sc) (15 : Int))
      exact ⟨(1), rfl, rfl, by omega, by omega, c_NP, NM_0, trivial⟩
    · have _q := h6
      refine jx_ld (pc_q := 25) (l_q := L0) (st_q := [rv (me)]) rfl (jl_rvn g1) ?_
      refine cx_gr (pc_q := 28) (c := 8) (q := 1) (v := sc) rfl rfl (by decide) (by decide) rfl rfl o_me t_me e_sc ?_
      refine cx_gi (pc_q := 31) (c := 10) (q := 15) (v := F (sc) (15 : Int)) rfl rfl (by decide) (by decide) (Or.inl rfl) rfl o_sc t_sc rfl ?_
      refine jx_ar (pc_q := 33) (st_q := [.int (i32 (56)), .int (i32 (F (sc) (15 : Int)))]) rfl rfl rfl rfl ?_
      refine jx_icmp_ne (pc_q := 36) (tg := 40) rfl rfl rfl (by omega) (by omega) (by decide) (by decide) (fun h9 => ?_) (fun h9 => ?_)
      · have _q := h9
        refine jx_ar (pc_q := 41) (st_q := [.int (i32 (0))]) rfl rfl rfl rfl ?_
        refine jx_rt (v := some (.int (i32 (0)))) rfl rfl rfl rfl rfl (by first | rfl | exact jRet_b (by omega)) ?_
        have q10 := tz_b (F (sc) (15 : Int))
        exact ⟨(0), rfl, rfl, by omega, by omega, c_NP, NM_0, trivial⟩
      · have _q := h9
        have t11 : tz (F (sc) (15 : Int)) = 1 := tz_p (by omega)
        refine jx_ar (pc_q := 37) (st_q := [.int (i32 (1))]) rfl rfl rfl rfl ?_
        refine jx_go (tg := 41) rfl rfl ?_
        refine jx_rt (v := some (.int (i32 (1)))) rfl rfl rfl rfl rfl (by first | rfl | exact jRet_b (by omega)) ?_
        have q12 := tz_b (F (sc) (15 : Int))
        exact ⟨(1), rfl, rfl, by omega, by omega, c_NP, NM_0, trivial⟩
set_option maxRecDepth 20000 in
set_option maxHeartbeats 4000000 in
theorem k_LParser_newPart {X : jX} {dd : Nat} {R : Nat → jC} {m : Nat} {tg ln : Int → Int} {F : Int → Int → Int} {me nm : Int} (hd : 2 ≤ dd) (hC : HC 0 m tg ln F) {sc pg : Int} (o_sc : own m sc) (t_sc : tg sc = 11) (e_sc : F me (1 : Int) = sc) (o_pg : own m pg) (t_pg : tg pg = 10) (e_pg : F me (0 : Int) = pg) (o_me : own m me) (t_me : tg me = 9) (o_nm : own m nm) (t_nm : tg nm = 7) (p_0 : F sc (8 : Int) + 2 * tz (F sc (15 : Int)) ≤ F sc (7 : Int) + 1) (p_1 : F sc (8 : Int) + 2 * lz (F sc (14 : Int)) ≤ F sc (7 : Int) + 1) (p_2 : F sc (8 : Int) ≤ F sc (7 : Int)) (c_NP : NP m tg F) : wk X dd 193 [rv me, rv nm] (cV R m tg ln F) (fun o V_q => ∃ (m_q : Nat) (tg_q ln_q : Int → Int) (F_q : Int → Int → Int) (r : Int), V_q = cV R m_q tg_q ln_q F_q ∧ o = .inl (some (rv r)) ∧ Ex m tg ln m_q tg_q ln_q ∧ HC 0 m_q tg_q ln_q F_q ∧ Fq 0 [(10, 9)] m tg F F_q ∧ (own m_q r ∧ tg_q r = 8) ∧ (F_q sc (8 : Int) + 2 * tz (F_q sc (15 : Int)) ≤ F sc (7 : Int) + 1) ∧ (F_q sc (8 : Int) + 2 * lz (F_q sc (14 : Int)) ≤ F sc (7 : Int) + 1) ∧ (F_q sc (8 : Int) ≤ F sc (7 : Int)) ∧ (F_q sc (8 : Int) = F sc (8 : Int)) ∧ (szD m_q tg_q ln_q = szD m tg ln + 25 * ((m_q : Int) - (m : Int))) ∧ ((m_q : Int) ≤ (m : Int) + (F_q sc (8 : Int) - F sc (8 : Int)) + (1)) ∧ (F_q pg (9 : Int) ≤ F pg (9 : Int) + ((m_q : Int) - (m : Int))) ∧ (64 + (m : Int) ≤ r) ∧ (WK F_q r (1)) ∧ (F_q r (0 : Int) = 21) ∧ (F_q r (3 : Int) = nm) ∧ (F_q r (3 : Int) ≠ 0) ∧ (F_q r (4 : Int) = 0) ∧ (NP m_q tg_q F_q) ∧ (NM m m_q tg_q) ∧ True) := by
  obtain ⟨d, rfl⟩ : ∃ d, dd = d + 1 := ⟨dd - 1, by omega⟩
  refine wk_of (e := jm193) rfl (by rw [jS_r, jS_r, jS_0]; exact Nat.le_of_ble_eq_true rfl) ?_
  rw [la_r, la_r, la_0]
  show wj X d jm193 (0, [(0, rv (me)), (1, rv (nm))], [], cV R m tg ln F) _
  have hM0 : Fq 0 [(10, 9)] m tg F F := Fq_r
  have hX0 : Ex m tg ln m tg ln := Ex_r
  obtain ⟨L0, eL0⟩ : ∃ q : jL, q = [(0, rv (me)), (1, rv (nm))] := ⟨_, rfl⟩
  rw [← eL0]
  have g1 : jGet L0 0 = some (rv (me)) := eL0 ▸ (rfl : jGet [(0, rv (me)), (1, rv (nm))] 0 = some (rv (me)))
  have g2 : jGet L0 1 = some (rv (nm)) := eL0 ▸ (rfl : jGet [(0, rv (me)), (1, rv (nm))] 1 = some (rv (nm)))
  clear eL0
  have tb0 := tz_b (F sc (15 : Int))
  have lb0 := lz_b (F sc (14 : Int))
  have ob0 : (0 : Int) ≤ F me (3 : Int) ∧ F me (3 : Int) ≤ 8 := HC_i (c := 8) (q := 3) hC o_me t_me (by decide) rfl
  have tp0 : F me (2 : Int) < 64 + (m : Int) := by
    have z : F me (2 : Int) = 0 ∨ (own m (F me (2 : Int)) ∧ tg (F me (2 : Int)) = 7) := HC_r (c := 8) (q := 2) hC o_me t_me (by decide) rfl
    rcases z with w | w
    · omega
    · exact w.1.2.1
  have nz_nm := own_z o_nm
  refine cx_newp (pc_q := 3) (c := 7) rfl rfl (by decide) rfl rfl hC rfl (by decide) (fun n3 m3 tg3 ln3 F3 en3 em3 ho3 hx3 hC3 hf3 h03 hs3 => ?_)
  have ex3 : 64 + (m : Int) ≤ n3 := by have := hX0.1; omega
  have lm4 := hx3.1
  have lt5 : nm < 64 + (m : Int) := o_nm.2.1
  have ho6 : own m3 (me) ∧ tg3 (me) = 9 := Ex_o hx3 ⟨o_me, t_me⟩
  have ho7 : own m3 (nm) ∧ tg3 (nm) = 7 := Ex_o hx3 ⟨o_nm, t_nm⟩
  have ho8 : own m3 (sc) ∧ tg3 (sc) = 11 := Ex_o hx3 ⟨o_sc, t_sc⟩
  have ho9 : own m3 (pg) ∧ tg3 (pg) = 10 := Ex_o hx3 ⟨o_pg, t_pg⟩
  have hX10 := Ex_t hX0 hx3
  have hM11 : Fq 0 [(10, 9)] m tg F F3 := Fq_n hM0 hf3 ex3
  have c12 : NM m m3 tg3 := NM_n NM_0 hC.1 hx3 en3 em3 ho3.2 (by decide)
  refine jx_ar (pc_q := 4) (st_q := [rv (n3), rv (n3)]) rfl rfl ja_dup rfl ?_
  refine jx_ar (pc_q := 6) (st_q := [.int (i32 (21)), rv (n3), rv (n3)]) rfl rfl rfl rfl ?_
  refine jx_ld (pc_q := 7) (l_q := L0) (st_q := [rv (me), .int (i32 (21)), rv (n3), rv (n3)]) rfl (jl_rvn g1) ?_
  refine cx_gr (pc_q := 10) (c := 8) (q := 1) (v := sc) rfl rfl (by decide) (by decide) rfl rfl ho6.1 ho6.2 ((show F3 (me) (1 : Int) = F (me) (1 : Int) from hf3 _ _ (ne_n o_me en3)).trans e_sc) ?_
  refine cx_gi (pc_q := 13) (c := 10) (q := 13) (v := F (sc) (13 : Int)) rfl rfl (by decide) (by decide) (Or.inl rfl) rfl ho8.1 ho8.2 (show F3 (sc) (13 : Int) = F (sc) (13 : Int) from hf3 _ _ (ne_n o_sc en3)) ?_
  have b13 : (-2147483648 : Int) ≤ F (sc) (13 : Int) ∧ F (sc) (13 : Int) ≤ 2147483647 := by have z := HC_i (c := 10) (q := 13) hC3 ho8.1 ho8.2 (by decide) rfl; rw [show F3 (sc) ((13 : Nat) : Int) = F (sc) (13 : Int) from (show F3 (sc) (13 : Int) = F (sc) (13 : Int) from hf3 _ _ (ne_n o_sc en3))] at z; exact z
  refine cx_sp (kd := 2) (a := n3) (st := [rv (n3)]) (as := [.int (i32 (21)), .int (i32 (F (sc) (13 : Int)))]) rfl rfl (by decide) rfl ho3.1.1 ⟨rfl, (by rw [jS_r, jS_0]; exact Nat.le_of_ble_eq_true rfl)⟩ rfl (k_LNode_init (dd := d) (R := R) (m := m3) (tg := tg3) (ln := ln3) (F := F3) (me := n3) (kd := 21) (l := F (sc) (13 : Int)) (hd := by omega) (hC := hC3) (o_me := ho3.1) (t_me := ho3.2) (h_kd := by omega) (h_l := by omega) (z_me := h03)) (fun o V_q hq => ?_)
  obtain ⟨F14, rfl, rfl, hC15, hM16, p17, zp18, -⟩ := hq
  have hM19 : Fq 0 [(10, 9)] m tg F F14 := Fq_t (ln := ln) (ln1 := ln3) hM11 hX10 hM16 (by decide) (Or.inr (Or.inr ex3))
  have c20 : NP m3 tg3 F14 := NP_nn hC c_NP hx3 en3 em3 (fun b i ob => (hM16 b i (own_m ob hx3.1) (ne_n ob en3) rfl).trans (hf3 b i (ne_n ob en3))) (fun _ => (zp18 _ (by decide) (by decide))) (fun w => absurd (ho3.2.symm.trans w) (by decide)) (fun w => absurd (ho3.2.symm.trans w) (by decide))
  refine Or.inl ⟨rfl, ?_⟩
  refine jx_ld (pc_q := 17) (l_q := jSto1 L0 2 (rv (n3))) (st_q := []) rfl (js_rvn (by decide)) ?_
  obtain ⟨L21, eL21⟩ : ∃ q : jL, q = jSto1 L0 2 (rv (n3)) := ⟨_, rfl⟩
  rw [← eL21]
  have g22 : jGet L21 0 = some (rv (me)) := eL21 ▸ jg_nr (by decide) g1
  have g23 : jGet L21 1 = some (rv (nm)) := eL21 ▸ jg_nr (by decide) g2
  have g24 : jGet L21 2 = some (rv (n3)) := eL21 ▸ jg_eq
  clear eL21
  refine jx_ld (pc_q := 18) (l_q := L21) (st_q := [rv (n3)]) rfl (jl_rvn g24) ?_
  refine jx_ld (pc_q := 19) (l_q := L21) (st_q := [rv (nm), rv (n3)]) rfl (jl_rvn g23) ?_
  refine cx_po (pc_q := 22) (c := 7) (q := 3) (qi := (3 : Int)) (z := nm) rfl rfl (by decide) (by decide) rfl rfl rfl (by decide) rfl ho3.1 ho3.2 rfl ?_
  obtain ⟨F25, eF25⟩ : ∃ q, q = uF F14 (n3) (3 : Int) (nm) := ⟨_, rfl⟩
  rw [← eF25]
  have hC26 : HC 0 m3 tg3 ln3 F25 := by rw [eF25]; exact HC_fr (c := 7) (q := 3) (by decide) hC15 ho3.2 (by decide) rfl (Or.inr ⟨ho7.1, ho7.2⟩) ⟨fun w => absurd w (by decide), fun w => absurd w (by decide)⟩
  have hM27 : Fq 0 [(10, 9)] m tg F F25 := by rw [eF25]; exact Fq_x hM19 (Or.inr ex3)
  have c28 : NP m3 tg3 F25 := by rw [eF25]; exact NP_un hC15 c20 ho3.1 ho3.2 (show F14 (n3) (103 : Int) = 0 from zp18 _ (by decide) (by decide)) (by decide) (Or.inr (own_z ho7.1))
  refine jx_ld (pc_q := 23) (l_q := L21) (st_q := [rv (me)]) rfl (jl_rvn g22) ?_
  refine cx_gr (pc_q := 26) (c := 8) (q := 0) (v := pg) rfl rfl (by decide) (by decide) rfl rfl ho6.1 ho6.2 (((show F25 (me) (0 : Int) = F14 (me) (0 : Int) from by rw [eF25]; exact uF_j (by decide)).trans ((show F14 (me) (0 : Int) = F3 (me) (0 : Int) from hM16 _ _ ho6.1 (fun w => by have q1 := ho6.2; rw [w, ho3.2] at q1; exact absurd q1 (by decide)) (by rw [ho6.2]; rfl)).trans (show F3 (me) (0 : Int) = F (me) (0 : Int) from hf3 _ _ (ne_n o_me en3)))).trans e_pg) ?_
  refine jx_ar (pc_q := 27) (st_q := [rv (pg), rv (pg)]) rfl rfl ja_dup rfl ?_
  refine cx_gi (pc_q := 30) (c := 9) (q := 9) (v := F (pg) (9 : Int)) rfl rfl (by decide) (by decide) (Or.inl rfl) rfl ho9.1 ho9.2 ((show F25 (pg) (9 : Int) = F14 (pg) (9 : Int) from by rw [eF25]; exact uF_j (by decide)).trans ((show F14 (pg) (9 : Int) = F3 (pg) (9 : Int) from hM16 _ _ ho9.1 (fun w => by have q1 := ho9.2; rw [w, ho3.2] at q1; exact absurd q1 (by decide)) (by rw [ho9.2]; rfl)).trans (show F3 (pg) (9 : Int) = F (pg) (9 : Int) from hf3 _ _ (ne_n o_pg en3)))) ?_
  have b29 : (-2147483648 : Int) ≤ F (pg) (9 : Int) ∧ F (pg) (9 : Int) ≤ 2147483647 := by have z := HC_i (c := 9) (q := 9) hC26 ho9.1 ho9.2 (by decide) rfl; rw [show F25 (pg) ((9 : Nat) : Int) = F (pg) (9 : Int) from ((show F25 (pg) (9 : Int) = F14 (pg) (9 : Int) from by rw [eF25]; exact uF_j (by decide)).trans ((show F14 (pg) (9 : Int) = F3 (pg) (9 : Int) from hM16 _ _ ho9.1 (fun w => by have q1 := ho9.2; rw [w, ho3.2] at q1; exact absurd q1 (by decide)) (by rw [ho9.2]; rfl)).trans (show F3 (pg) (9 : Int) = F (pg) (9 : Int) from hf3 _ _ (ne_n o_pg en3))))] at z; exact z
  refine jx_ar (pc_q := 31) (st_q := [.int (i32 (1)), .int (i32 (F (pg) (9 : Int))), rv (pg)]) rfl rfl rfl rfl ?_
  refine jx_add (pc_q := 32) rfl rfl ?_
  obtain ⟨z30, ez30⟩ : ∃ q, q = (i32 ((F (pg) (9 : Int) + 1))).toInt := ⟨_, rfl⟩
  have bz30 : (-2147483648 : Int) ≤ z30 ∧ z30 ≤ 2147483647 := ez30 ▸ i32_rg _
  rw [show i32 ((F (pg) (9 : Int) + 1)) = i32 z30 by rw [ez30, i32_of]]
  have kz30 : z30 ≤ (F (pg) (9 : Int) + 1) := ez30 ▸ i32_up (by omega) (by omega)
  clear ez30
  refine cx_pi (pc_q := 35) (c := 9) (q := 9) (qi := (9 : Int)) (z := z30) rfl rfl (by decide) (by decide) rfl rfl rfl (by decide) rfl ho9.1 ho9.2 rfl ?_
  obtain ⟨F31, eF31⟩ : ∃ q, q = uF F25 (pg) (9 : Int) (z30) := ⟨_, rfl⟩
  rw [← eF31]
  have hC32 : HC 0 m3 tg3 ln3 F31 := by rw [eF31]; exact HC_fi (c := 9) (q := 9) hC26 ho9.2 (by decide) rfl (by omega) (by omega) ⟨fun w => absurd w (by decide), fun w => absurd w (by decide)⟩
  have hM33 : Fq 0 [(10, 9)] m tg F F31 := by rw [eF31]; exact Fq_p hM27 ho9.2 (fun w => (hX10.2 _ w).1) rfl
  have c34 : NP m3 tg3 F31 := by rw [eF31]; exact NP_u hC26 c28 ho9.2 (by omega)
  refine jx_ld (pc_q := 36) (l_q := L21) (st_q := [rv (n3)]) rfl (jl_rvn g24) ?_
  refine jx_rt (v := some (rv (n3))) rfl rfl rfl rfl rfl jr_are ?_
  have q35 : F31 (sc) (7 : Int) = F (sc) (7 : Int) := ((show F31 (sc) (7 : Int) = F25 (sc) (7 : Int) from by rw [eF31]; exact uF_j (by decide)).trans ((show F25 (sc) (7 : Int) = F14 (sc) (7 : Int) from by rw [eF25]; exact uF_j (by decide)).trans ((show F14 (sc) (7 : Int) = F3 (sc) (7 : Int) from hM16 _ _ ho8.1 (fun w => by have q1 := ho8.2; rw [w, ho3.2] at q1; exact absurd q1 (by decide)) (by rw [ho8.2]; rfl)).trans (show F3 (sc) (7 : Int) = F (sc) (7 : Int) from hf3 _ _ (ne_n o_sc en3)))))
  have q36 : F31 (sc) (8 : Int) = F (sc) (8 : Int) := ((show F31 (sc) (8 : Int) = F25 (sc) (8 : Int) from by rw [eF31]; exact uF_j (by decide)).trans ((show F25 (sc) (8 : Int) = F14 (sc) (8 : Int) from by rw [eF25]; exact uF_j (by decide)).trans ((show F14 (sc) (8 : Int) = F3 (sc) (8 : Int) from hM16 _ _ ho8.1 (fun w => by have q1 := ho8.2; rw [w, ho3.2] at q1; exact absurd q1 (by decide)) (by rw [ho8.2]; rfl)).trans (show F3 (sc) (8 : Int) = F (sc) (8 : Int) from hf3 _ _ (ne_n o_sc en3)))))
  have q37 : F31 (pg) (9 : Int) = z30 := (show F31 (pg) (9 : Int) = z30 from by rw [eF31]; exact uF_e)
  have q38 : F31 (sc) (8 : Int) = F (sc) (8 : Int) := ((show F31 (sc) (8 : Int) = F25 (sc) (8 : Int) from by rw [eF31]; exact uF_j (by decide)).trans ((show F25 (sc) (8 : Int) = F14 (sc) (8 : Int) from by rw [eF25]; exact uF_j (by decide)).trans ((show F14 (sc) (8 : Int) = F3 (sc) (8 : Int) from hM16 _ _ ho8.1 (fun w => by have q1 := ho8.2; rw [w, ho3.2] at q1; exact absurd q1 (by decide)) (by rw [ho8.2]; rfl)).trans (show F3 (sc) (8 : Int) = F (sc) (8 : Int) from hf3 _ _ (ne_n o_sc en3)))))
  have q39 : F31 (sc) (15 : Int) = F (sc) (15 : Int) := ((show F31 (sc) (15 : Int) = F25 (sc) (15 : Int) from by rw [eF31]; exact uF_j (by decide)).trans ((show F25 (sc) (15 : Int) = F14 (sc) (15 : Int) from by rw [eF25]; exact uF_j (by decide)).trans ((show F14 (sc) (15 : Int) = F3 (sc) (15 : Int) from hM16 _ _ ho8.1 (fun w => by have q1 := ho8.2; rw [w, ho3.2] at q1; exact absurd q1 (by decide)) (by rw [ho8.2]; rfl)).trans (show F3 (sc) (15 : Int) = F (sc) (15 : Int) from hf3 _ _ (ne_n o_sc en3)))))
  have q40 : tz (F31 (sc) (15 : Int)) = tz (F (sc) (15 : Int)) := by rw [q39]
  have q41 := tz_b (F (sc) (15 : Int))
  have q42 : F31 (sc) (14 : Int) = F (sc) (14 : Int) := ((show F31 (sc) (14 : Int) = F25 (sc) (14 : Int) from by rw [eF31]; exact uF_j (by decide)).trans ((show F25 (sc) (14 : Int) = F14 (sc) (14 : Int) from by rw [eF25]; exact uF_j (by decide)).trans ((show F14 (sc) (14 : Int) = F3 (sc) (14 : Int) from hM16 _ _ ho8.1 (fun w => by have q1 := ho8.2; rw [w, ho3.2] at q1; exact absurd q1 (by decide)) (by rw [ho8.2]; rfl)).trans (show F3 (sc) (14 : Int) = F (sc) (14 : Int) from hf3 _ _ (ne_n o_sc en3)))))
  have q43 : lz (F31 (sc) (14 : Int)) = lz (F (sc) (14 : Int)) := by rw [q42]
  have q44 := lz_b (F (sc) (14 : Int))
  have q45 : F31 (pg) (9 : Int) = z30 := (show F31 (pg) (9 : Int) = z30 from by rw [eF31]; exact uF_e)
  have q46 : F31 (n3) (0 : Int) = F14 (n3) (0 : Int) := ((show F31 (n3) (0 : Int) = F25 (n3) (0 : Int) from by rw [eF31]; exact uF_j (by decide)).trans (show F25 (n3) (0 : Int) = F14 (n3) (0 : Int) from by rw [eF25]; exact uF_j (by decide)))
  have q47 : F31 (n3) (3 : Int) = nm := ((show F31 (n3) (3 : Int) = F25 (n3) (3 : Int) from by rw [eF31]; exact uF_j (by decide)).trans (show F25 (n3) (3 : Int) = nm from by rw [eF25]; exact uF_e))
  have q48 : F31 (n3) (4 : Int) = 0 := ((show F31 (n3) (4 : Int) = F25 (n3) (4 : Int) from by rw [eF31]; exact uF_j (by decide)).trans ((show F25 (n3) (4 : Int) = F14 (n3) (4 : Int) from by rw [eF25]; exact uF_j (by decide)).trans (show F14 (n3) (4 : Int) = 0 from zp18 _ (by decide) (by decide))))
  exact ⟨m3, tg3, ln3, F31, (n3), rfl, rfl, hX10, hC32, hM33, ⟨ho3.1, ho3.2⟩, by omega, by omega, by omega, by omega, by omega, by omega, by omega, by omega, (WK_i (K := 1) ((show F31 (n3) (103 : Int) = F25 (n3) (103 : Int) from by rw [eF31]; exact uF_j (by decide)).trans ((show F25 (n3) (103 : Int) = F14 (n3) (103 : Int) from by rw [eF25]; exact uF_j (by decide)).trans (show F14 (n3) (103 : Int) = 0 from zp18 _ (by decide) (by decide)))) ((show F31 (n3) (101 : Int) = F25 (n3) (101 : Int) from by rw [eF31]; exact uF_j (by decide)).trans ((show F25 (n3) (101 : Int) = F14 (n3) (101 : Int) from by rw [eF25]; exact uF_j (by decide)).trans (show F14 (n3) (101 : Int) = 0 from zp18 _ (by decide) (by decide)))) ((show F31 (n3) (8 : Int) = F25 (n3) (8 : Int) from by rw [eF31]; exact uF_j (by decide)).trans ((show F25 (n3) (8 : Int) = F14 (n3) (8 : Int) from by rw [eF25]; exact uF_j (by decide)).trans (show F14 (n3) (8 : Int) = 0 from zp18 _ (by decide) (by decide)))) (Or.inl ((show F31 (n3) (4 : Int) = F25 (n3) (4 : Int) from by rw [eF31]; exact uF_j (by decide)).trans ((show F25 (n3) (4 : Int) = F14 (n3) (4 : Int) from by rw [eF25]; exact uF_j (by decide)).trans (show F14 (n3) (4 : Int) = 0 from zp18 _ (by decide) (by decide))))) (Or.inl ((show F31 (n3) (5 : Int) = F25 (n3) (5 : Int) from by rw [eF31]; exact uF_j (by decide)).trans ((show F25 (n3) (5 : Int) = F14 (n3) (5 : Int) from by rw [eF25]; exact uF_j (by decide)).trans (show F14 (n3) (5 : Int) = 0 from zp18 _ (by decide) (by decide))))) (Or.inl ((show F31 (n3) (6 : Int) = F25 (n3) (6 : Int) from by rw [eF31]; exact uF_j (by decide)).trans ((show F25 (n3) (6 : Int) = F14 (n3) (6 : Int) from by rw [eF25]; exact uF_j (by decide)).trans (show F14 (n3) (6 : Int) = 0 from zp18 _ (by decide) (by decide))))) (Or.inl ((show F31 (n3) (7 : Int) = F25 (n3) (7 : Int) from by rw [eF31]; exact uF_j (by decide)).trans ((show F25 (n3) (7 : Int) = F14 (n3) (7 : Int) from by rw [eF25]; exact uF_j (by decide)).trans (show F14 (n3) (7 : Int) = 0 from zp18 _ (by decide) (by decide))))) (Or.inr (Or.inl ((show F31 (n3) (4 : Int) = F25 (n3) (4 : Int) from by rw [eF31]; exact uF_j (by decide)).trans ((show F25 (n3) (4 : Int) = F14 (n3) (4 : Int) from by rw [eF25]; exact uF_j (by decide)).trans (show F14 (n3) (4 : Int) = 0 from zp18 _ (by decide) (by decide))))))), by omega, by omega, by omega, by omega, c34, c12, trivial⟩
set_option maxRecDepth 20000 in
set_option maxHeartbeats 4000000 in
theorem k_LParser_judge {X : jX} {dd : Nat} {R : Nat → jC} {m : Nat} {tg ln : Int → Int} {F : Int → Int → Int} {me pt wa pl : Int} (hd : 2 ≤ dd) (hC : HC 0 m tg ln F) {sc pg : Int} (o_sc : own m sc) (t_sc : tg sc = 11) (e_sc : F me (1 : Int) = sc) (o_pg : own m pg) (t_pg : tg pg = 10) (e_pg : F me (0 : Int) = pg) (o_me : own m me) (t_me : tg me = 9) (o_pt : own m pt) (t_pt : tg pt = 8) (h_wa : (0 : Int) ≤ wa ∧ wa ≤ 1) (h_pl : (-2147483648 : Int) ≤ pl ∧ pl ≤ 2147483647) (p_0 : F sc (8 : Int) + 2 * tz (F sc (15 : Int)) ≤ F sc (7 : Int) + 1) (p_1 : F sc (8 : Int) + 2 * lz (F sc (14 : Int)) ≤ F sc (7 : Int) + 1) (p_2 : F sc (8 : Int) ≤ F sc (7 : Int)) (p_3 : F pt (3 : Int) ≠ 0) (c_NP : NP m tg F) : wk X dd 194 [rv me, rv pt, .int (i32 wa), .int (i32 pl)] (cV R m tg ln F) (fun o V_q => (∃ (m_q : Nat) (tg_q ln_q : Int → Int) (F_q : Int → Int → Int), V_q = cV R m_q tg_q ln_q F_q ∧ o = .inl none ∧ Ex m tg ln m_q tg_q ln_q ∧ HC 0 m_q tg_q ln_q F_q ∧ Fq 0 [(10, 0), (10, 1), (10, 2)] m tg F F_q ∧ (F_q sc (8 : Int) + 2 * tz (F_q sc (15 : Int)) ≤ F sc (7 : Int) + 1) ∧ (F_q sc (8 : Int) + 2 * lz (F_q sc (14 : Int)) ≤ F sc (7 : Int) + 1) ∧ (F_q sc (8 : Int) ≤ F sc (7 : Int)) ∧ (F_q sc (8 : Int) = F sc (8 : Int)) ∧ (szD m_q tg_q ln_q = szD m tg ln + 25 * ((m_q : Int) - (m : Int))) ∧ ((m_q : Int) = (m : Int)) ∧ (F_q pg (9 : Int) ≤ F pg (9 : Int) + ((m_q : Int) - (m : Int))) ∧ (NP m_q tg_q F_q) ∧ (NM m m_q tg_q) ∧ True) ∨ (∃ (m_q : Nat) (tg_q ln_q : Int → Int) (F_q : Int → Int → Int) (x : Nat), V_q = cV R m_q tg_q ln_q F_q ∧ o = .inr x ∧ Ex m tg ln m_q tg_q ln_q ∧ HC 0 m_q tg_q ln_q F_q ∧ Fq 0 [(10, 0), (10, 1), (10, 2)] m tg F F_q ∧ (own m_q (x : Int)) ∧ (tg_q (x : Int) = 16) ∧ (F_q pg (0 : Int) ≠ 0) ∧ (szD m_q tg_q ln_q = szD m tg ln + 25 * ((m_q : Int) - (m : Int))) ∧ ((m_q : Int) ≤ (m : Int) + (F_q sc (8 : Int) - F sc (8 : Int)) + (1)) ∧ (F_q sc (8 : Int) ≤ F sc (7 : Int) + 1) ∧ (NP m_q tg_q F_q) ∧ (NM m m_q tg_q) ∧ True)) := by
  obtain ⟨d, rfl⟩ : ∃ d, dd = d + 1 := ⟨dd - 1, by omega⟩
  refine wk_of (e := jm194) rfl (by rw [jS_r, jS_r, jS_i, jS_i, jS_0]; exact Nat.le_of_ble_eq_true rfl) ?_
  rw [la_r, la_r, la_i, la_i, la_0]
  show wj X d jm194 (0, [(0, rv (me)), (1, rv (pt)), (2, .int (i32 (wa))), (3, .int (i32 (pl)))], [], cV R m tg ln F) _
  have hM0 : Fq 0 [(10, 0), (10, 1), (10, 2)] m tg F F := Fq_r
  have hX0 : Ex m tg ln m tg ln := Ex_r
  obtain ⟨L0, eL0⟩ : ∃ q : jL, q = [(0, rv (me)), (1, rv (pt)), (2, .int (i32 (wa))), (3, .int (i32 (pl)))] := ⟨_, rfl⟩
  rw [← eL0]
  have g1 : jGet L0 0 = some (rv (me)) := eL0 ▸ (rfl : jGet [(0, rv (me)), (1, rv (pt)), (2, .int (i32 (wa))), (3, .int (i32 (pl)))] 0 = some (rv (me)))
  have g2 : jGet L0 1 = some (rv (pt)) := eL0 ▸ (rfl : jGet [(0, rv (me)), (1, rv (pt)), (2, .int (i32 (wa))), (3, .int (i32 (pl)))] 1 = some (rv (pt)))
  have g3 : jGet L0 2 = some (.int (i32 (wa))) := eL0 ▸ (rfl : jGet [(0, rv (me)), (1, rv (pt)), (2, .int (i32 (wa))), (3, .int (i32 (pl)))] 2 = some (.int (i32 (wa))))
  have g4 : jGet L0 3 = some (.int (i32 (pl))) := eL0 ▸ (rfl : jGet [(0, rv (me)), (1, rv (pt)), (2, .int (i32 (wa))), (3, .int (i32 (pl)))] 3 = some (.int (i32 (pl))))
  clear eL0
  have tb0 := tz_b (F sc (15 : Int))
  have lb0 := lz_b (F sc (14 : Int))
  have ob0 : (0 : Int) ≤ F me (3 : Int) ∧ F me (3 : Int) ≤ 8 := HC_i (c := 8) (q := 3) hC o_me t_me (by decide) rfl
  have tp0 : F me (2 : Int) < 64 + (m : Int) := by
    have z : F me (2 : Int) = 0 ∨ (own m (F me (2 : Int)) ∧ tg (F me (2 : Int)) = 7) := HC_r (c := 8) (q := 2) hC o_me t_me (by decide) rfl
    rcases z with w | w
    · omega
    · exact w.1.2.1
  have nz_pt := own_z o_pt
  refine jx_ld (pc_q := 1) (l_q := L0) (st_q := [.int (i32 (wa))]) rfl (jl_iloadn g3) ?_
  refine jx_if_eq (pc_q := 4) (tg := 26) rfl rfl rfl (by omega) (by omega) (fun h5 => ?_) (fun h5 => ?_)
  · have _q := h5
    refine jx_ld (pc_q := 27) (l_q := L0) (st_q := [rv (me)]) rfl (jl_rvn g1) ?_
    refine jx_ar (pc_q := 28) (st_q := [.int (i32 (4)), rv (me)]) rfl rfl rfl rfl ?_
    refine jx_ld (pc_q := 29) (l_q := L0) (st_q := [.int (i32 (pl)), .int (i32 (4)), rv (me)]) rfl (jl_iloadn g4) ?_
    refine cx_vi (c := 8) (a := me) (st := []) (as := [.int (i32 (4)), .int (i32 (pl))]) rfl rfl rfl o_me t_me (by decide) rfl ⟨rfl, rfl, (Nat.le_of_ble_eq_true rfl)⟩ rfl (k_LParser_fail (dd := d) (R := R) (m := m) (tg := tg) (ln := ln) (F := F) (me := me) (kd := 4) (pl := pl) (hd := by omega) (hC := hC) (o_me := o_me) (t_me := t_me) (h_kd := by omega) (h_pl := by omega) (sc := sc) (pg := pg) (o_sc := o_sc) (t_sc := t_sc) (e_sc := e_sc) (o_pg := o_pg) (t_pg := t_pg) (e_pg := e_pg) (p_0 := by omega) (p_1 := by omega) (c_NP := c_NP)) (fun o V_q hq => ?_)
    obtain ⟨m6, tg6, ln6, F7, rfl, rfl, hx8, hC9, hM10, p11, c12, c13, -⟩ | ⟨m14, tg14, ln14, F14, x14, rfl, rfl, hx14, hC14, hM14, ho14, ht14, p15, p16, p17, p18, c19, c20, -⟩ := hq
    rotate_left
    ·
      have c21 : NM m m14 tg14 := NM_t NM_0 hx14 c20
      have lm22 := hx14.1
      refine Or.inr (Or.inr (Or.inr ⟨_, _, rfl, cx_exc (c := 15) ho14 ht14 (by decide), rfl, ?_⟩))
      exact Or.inr ⟨m14, tg14, ln14, F14, x14, rfl, rfl, Ex_t hX0 hx14, hC14, Fq_t (ln := ln) (ln1 := ln) hM0 hX0 hM14 (by decide) (Or.inl rfl), (And.intro ho14 ht14).1, (And.intro ho14 ht14).2, by omega, by omega, by omega, by omega, c19, c21, trivial⟩
    exact p11.elim
  · have _q := h5
    refine jx_ld (pc_q := 5) (l_q := L0) (st_q := [rv (pt)]) rfl (jl_rvn g2) ?_
    refine cx_gr (pc_q := 8) (c := 7) (q := 3) (v := F (pt) (3 : Int)) rfl rfl (by decide) (by decide) rfl rfl o_pt t_pt rfl ?_
    have y23 : F (pt) (3 : Int) = 0 ∨ (own m (F (pt) (3 : Int)) ∧ tg (F (pt) (3 : Int)) = 7) := by have z := HC_r (c := 7) (q := 3) hC o_pt t_pt (by decide) rfl; rw [show F (pt) ((3 : Nat) : Int) = F (pt) (3 : Int) from rfl] at z; exact z
    have hn24 : F (pt) (3 : Int) ≠ 0 := p_3
    have ho25 : own m (F (pt) (3 : Int)) ∧ tg (F (pt) (3 : Int)) = 7 := y23.resolve_left hn24
    refine cx_vi (c := 6) (a := F (pt) (3 : Int)) (st := []) (as := []) rfl rfl rfl ho25.1 ho25.2 (by decide) rfl ⟨rfl, rfl, (Nat.le_of_ble_eq_true rfl)⟩ rfl (k_LName_isRow (dd := d) (R := R) (m := m) (tg := tg) (ln := ln) (F := F) (me := F (pt) (3 : Int)) (hd := by omega) (hC := hC) (o_me := ho25.1) (t_me := ho25.2)) (fun o V_q hq => ?_)
    obtain ⟨r26, rfl, rfl, b27, -⟩ := hq
    refine Or.inr (Or.inl ⟨_, rfl, ?_⟩)
    refine jx_ld (pc_q := 12) (l_q := L0) (st_q := [rv (pt), .int (i32 (r26))]) rfl (jl_rvn g2) ?_
    refine cx_gr (pc_q := 15) (c := 7) (q := 4) (v := F (pt) (4 : Int)) rfl rfl (by decide) (by decide) rfl rfl o_pt t_pt rfl ?_
    have y28 : F (pt) (4 : Int) = 0 ∨ (own m (F (pt) (4 : Int)) ∧ tg (F (pt) (4 : Int)) = 8) := by have z := HC_r (c := 7) (q := 4) hC o_pt t_pt (by decide) rfl; rw [show F (pt) ((4 : Nat) : Int) = F (pt) (4 : Int) from rfl] at z; exact z
    refine cx_nul (pc_q := 18) (tg_q := 22) rfl rfl rfl (fun h29 => ?_) (fun h29 => ?_)
    · have _q := h29
      refine jx_ar (pc_q := 23) (st_q := [.int (i32 (0)), .int (i32 (r26))]) rfl rfl rfl rfl ?_
      refine jx_icmp_eq (pc_q := 26) (tg := 32) rfl rfl rfl (by omega) (by omega) (by decide) (by decide) (fun h30 => ?_) (fun h30 => ?_)
      · have _q := h30
        refine jx_rt (v := none) rfl rfl rfl rfl rfl rfl ?_
        have q31 := tz_b (F (sc) (15 : Int))
        have q32 := lz_b (F (sc) (14 : Int))
        exact Or.inl ⟨m, tg, ln, F, rfl, rfl, hX0, hC, hM0, by omega, by omega, by omega, by omega, by omega, by omega, by omega, c_NP, NM_0, trivial⟩
      · have _q := h30
        refine jx_ld (pc_q := 27) (l_q := L0) (st_q := [rv (me)]) rfl (jl_rvn g1) ?_
        refine jx_ar (pc_q := 28) (st_q := [.int (i32 (4)), rv (me)]) rfl rfl rfl rfl ?_
        refine jx_ld (pc_q := 29) (l_q := L0) (st_q := [.int (i32 (pl)), .int (i32 (4)), rv (me)]) rfl (jl_iloadn g4) ?_
        refine cx_vi (c := 8) (a := me) (st := []) (as := [.int (i32 (4)), .int (i32 (pl))]) rfl rfl rfl o_me t_me (by decide) rfl ⟨rfl, rfl, (Nat.le_of_ble_eq_true rfl)⟩ rfl (k_LParser_fail (dd := d) (R := R) (m := m) (tg := tg) (ln := ln) (F := F) (me := me) (kd := 4) (pl := pl) (hd := by omega) (hC := hC) (o_me := o_me) (t_me := t_me) (h_kd := by omega) (h_pl := by omega) (sc := sc) (pg := pg) (o_sc := o_sc) (t_sc := t_sc) (e_sc := e_sc) (o_pg := o_pg) (t_pg := t_pg) (e_pg := e_pg) (p_0 := by omega) (p_1 := by omega) (c_NP := c_NP)) (fun o V_q hq => ?_)
        obtain ⟨m33, tg33, ln33, F34, rfl, rfl, hx35, hC36, hM37, p38, c39, c40, -⟩ | ⟨m41, tg41, ln41, F41, x41, rfl, rfl, hx41, hC41, hM41, ho41, ht41, p42, p43, p44, p45, c46, c47, -⟩ := hq
        rotate_left
        ·
          have c48 : NM m m41 tg41 := NM_t NM_0 hx41 c47
          have lm49 := hx41.1
          refine Or.inr (Or.inr (Or.inr ⟨_, _, rfl, cx_exc (c := 15) ho41 ht41 (by decide), rfl, ?_⟩))
          exact Or.inr ⟨m41, tg41, ln41, F41, x41, rfl, rfl, Ex_t hX0 hx41, hC41, Fq_t (ln := ln) (ln1 := ln) hM0 hX0 hM41 (by decide) (Or.inl rfl), (And.intro ho41 ht41).1, (And.intro ho41 ht41).2, by omega, by omega, by omega, by omega, c46, c48, trivial⟩
        exact p38.elim
    · have _q := h29
      have ho50 : own m (F (pt) (4 : Int)) ∧ tg (F (pt) (4 : Int)) = 8 := y28.resolve_left h29
      refine jx_ar (pc_q := 19) (st_q := [.int (i32 (1)), .int (i32 (r26))]) rfl rfl rfl rfl ?_
      refine jx_go (tg := 23) rfl rfl ?_
      refine jx_icmp_eq (pc_q := 26) (tg := 32) rfl rfl rfl (by omega) (by omega) (by decide) (by decide) (fun h51 => ?_) (fun h51 => ?_)
      · have _q := h51
        refine jx_rt (v := none) rfl rfl rfl rfl rfl rfl ?_
        have q52 := tz_b (F (sc) (15 : Int))
        have q53 := lz_b (F (sc) (14 : Int))
        exact Or.inl ⟨m, tg, ln, F, rfl, rfl, hX0, hC, hM0, by omega, by omega, by omega, by omega, by omega, by omega, by omega, c_NP, NM_0, trivial⟩
      · have _q := h51
        refine jx_ld (pc_q := 27) (l_q := L0) (st_q := [rv (me)]) rfl (jl_rvn g1) ?_
        refine jx_ar (pc_q := 28) (st_q := [.int (i32 (4)), rv (me)]) rfl rfl rfl rfl ?_
        refine jx_ld (pc_q := 29) (l_q := L0) (st_q := [.int (i32 (pl)), .int (i32 (4)), rv (me)]) rfl (jl_iloadn g4) ?_
        refine cx_vi (c := 8) (a := me) (st := []) (as := [.int (i32 (4)), .int (i32 (pl))]) rfl rfl rfl o_me t_me (by decide) rfl ⟨rfl, rfl, (Nat.le_of_ble_eq_true rfl)⟩ rfl (k_LParser_fail (dd := d) (R := R) (m := m) (tg := tg) (ln := ln) (F := F) (me := me) (kd := 4) (pl := pl) (hd := by omega) (hC := hC) (o_me := o_me) (t_me := t_me) (h_kd := by omega) (h_pl := by omega) (sc := sc) (pg := pg) (o_sc := o_sc) (t_sc := t_sc) (e_sc := e_sc) (o_pg := o_pg) (t_pg := t_pg) (e_pg := e_pg) (p_0 := by omega) (p_1 := by omega) (c_NP := c_NP)) (fun o V_q hq => ?_)
        obtain ⟨m54, tg54, ln54, F55, rfl, rfl, hx56, hC57, hM58, p59, c60, c61, -⟩ | ⟨m62, tg62, ln62, F62, x62, rfl, rfl, hx62, hC62, hM62, ho62, ht62, p63, p64, p65, p66, c67, c68, -⟩ := hq
        rotate_left
        ·
          have c69 : NM m m62 tg62 := NM_t NM_0 hx62 c68
          have lm70 := hx62.1
          refine Or.inr (Or.inr (Or.inr ⟨_, _, rfl, cx_exc (c := 15) ho62 ht62 (by decide), rfl, ?_⟩))
          exact Or.inr ⟨m62, tg62, ln62, F62, x62, rfl, rfl, Ex_t hX0 hx62, hC62, Fq_t (ln := ln) (ln1 := ln) hM0 hX0 hM62 (by decide) (Or.inl rfl), (And.intro ho62 ht62).1, (And.intro ho62 ht62).2, by omega, by omega, by omega, by omega, c67, c69, trivial⟩
        exact p59.elim
set_option maxRecDepth 20000 in
set_option maxHeartbeats 4000000 in
theorem k_LParser_openBracket {X : jX} {dd : Nat} {R : Nat → jC} {m : Nat} {tg ln : Int → Int} {F : Int → Int → Int} {me : Int} (hd : 3 ≤ dd) (hC : HC 0 m tg ln F) {sc pg : Int} (o_sc : own m sc) (t_sc : tg sc = 11) (e_sc : F me (1 : Int) = sc) (o_pg : own m pg) (t_pg : tg pg = 10) (e_pg : F me (0 : Int) = pg) (o_me : own m me) (t_me : tg me = 9) (p_0 : F sc (8 : Int) + 2 * tz (F sc (15 : Int)) ≤ F sc (7 : Int) + 1) (p_1 : F sc (8 : Int) + 2 * lz (F sc (14 : Int)) ≤ F sc (7 : Int) + 1) (p_2 : F sc (8 : Int) ≤ F sc (7 : Int)) (p_3 : tz (F sc (15 : Int)) = 1) (c_NP : NP m tg F) : wk X dd 198 [rv me] (cV R m tg ln F) (fun o V_q => (∃ (m_q : Nat) (tg_q ln_q : Int → Int) (F_q : Int → Int → Int), V_q = cV R m_q tg_q ln_q F_q ∧ o = .inl none ∧ Ex m tg ln m_q tg_q ln_q ∧ HC 0 m_q tg_q ln_q F_q ∧ Fq 0 [(9, 3), (10, 0), (10, 1), (10, 2), (11, 8), (11, 12), (11, 13), (11, 14), (11, 15), (11, 16), (11, 17), (11, 18)] m tg F F_q ∧ (F_q sc (8 : Int) + 2 * tz (F_q sc (15 : Int)) ≤ F sc (7 : Int) + 1) ∧ (F_q sc (8 : Int) + 2 * lz (F_q sc (14 : Int)) ≤ F sc (7 : Int) + 1) ∧ (F_q sc (8 : Int) ≤ F sc (7 : Int)) ∧ (F_q sc (8 : Int) = F sc (8 : Int) + 1) ∧ (szD m_q tg_q ln_q = szD m tg ln + 25 * ((m_q : Int) - (m : Int))) ∧ ((m_q : Int) = (m : Int)) ∧ (F_q pg (9 : Int) ≤ F pg (9 : Int) + ((m_q : Int) - (m : Int))) ∧ (F_q me (3 : Int) = F me (3 : Int) + 1) ∧ (F me (3 : Int) ≤ 7) ∧ (NP m_q tg_q F_q) ∧ (NM m m_q tg_q) ∧ True) ∨ (∃ (m_q : Nat) (tg_q ln_q : Int → Int) (F_q : Int → Int → Int) (x : Nat), V_q = cV R m_q tg_q ln_q F_q ∧ o = .inr x ∧ Ex m tg ln m_q tg_q ln_q ∧ HC 0 m_q tg_q ln_q F_q ∧ Fq 0 [(9, 3), (10, 0), (10, 1), (10, 2), (11, 8), (11, 12), (11, 13), (11, 14), (11, 15), (11, 16), (11, 17), (11, 18)] m tg F F_q ∧ (own m_q (x : Int)) ∧ (tg_q (x : Int) = 16) ∧ (F_q pg (0 : Int) ≠ 0) ∧ (szD m_q tg_q ln_q = szD m tg ln + 25 * ((m_q : Int) - (m : Int))) ∧ ((m_q : Int) ≤ (m : Int) + (F_q sc (8 : Int) - F sc (8 : Int)) + (1)) ∧ (F_q sc (8 : Int) ≤ F sc (7 : Int) + 1) ∧ (NP m_q tg_q F_q) ∧ (NM m m_q tg_q) ∧ True)) := by
  obtain ⟨d, rfl⟩ : ∃ d, dd = d + 1 := ⟨dd - 1, by omega⟩
  refine wk_of (e := jm198) rfl (by rw [jS_r, jS_0]; exact Nat.le_of_ble_eq_true rfl) ?_
  rw [la_r, la_0]
  show wj X d jm198 (0, [(0, rv (me))], [], cV R m tg ln F) _
  have hM0 : Fq 0 [(9, 3), (10, 0), (10, 1), (10, 2), (11, 8), (11, 12), (11, 13), (11, 14), (11, 15), (11, 16), (11, 17), (11, 18)] m tg F F := Fq_r
  have hX0 : Ex m tg ln m tg ln := Ex_r
  obtain ⟨L0, eL0⟩ : ∃ q : jL, q = [(0, rv (me))] := ⟨_, rfl⟩
  rw [← eL0]
  have g1 : jGet L0 0 = some (rv (me)) := eL0 ▸ (rfl : jGet [(0, rv (me))] 0 = some (rv (me)))
  clear eL0
  have tb0 := tz_b (F sc (15 : Int))
  have lb0 := lz_b (F sc (14 : Int))
  have ob0 : (0 : Int) ≤ F me (3 : Int) ∧ F me (3 : Int) ≤ 8 := HC_i (c := 8) (q := 3) hC o_me t_me (by decide) rfl
  have tp0 : F me (2 : Int) < 64 + (m : Int) := by
    have z : F me (2 : Int) = 0 ∨ (own m (F me (2 : Int)) ∧ tg (F me (2 : Int)) = 7) := HC_r (c := 8) (q := 2) hC o_me t_me (by decide) rfl
    rcases z with w | w
    · omega
    · exact w.1.2.1
  refine jx_ld (pc_q := 1) (l_q := L0) (st_q := [rv (me)]) rfl (jl_rvn g1) ?_
  refine cx_gi (pc_q := 4) (c := 8) (q := 3) (v := F (me) (3 : Int)) rfl rfl (by decide) (by decide) (Or.inl rfl) rfl o_me t_me rfl ?_
  have b2 : (0 : Int) ≤ F (me) (3 : Int) ∧ F (me) (3 : Int) ≤ 8 := by have z := HC_i (c := 8) (q := 3) hC o_me t_me (by decide) rfl; rw [show F (me) ((3 : Nat) : Int) = F (me) (3 : Int) from rfl] at z; exact z
  refine jx_ar (pc_q := 6) (st_q := [.int (i32 (8)), .int (i32 (F (me) (3 : Int)))]) rfl rfl rfl rfl ?_
  refine jx_icmp_lt (pc_q := 9) (tg := 21) rfl rfl rfl (by omega) (by omega) (by decide) (by decide) (fun h3 => ?_) (fun h3 => ?_)
  · have _q := h3
    refine jx_ld (pc_q := 22) (l_q := L0) (st_q := [rv (me)]) rfl (jl_rvn g1) ?_
    refine jx_ar (pc_q := 23) (st_q := [rv (me), rv (me)]) rfl rfl ja_dup rfl ?_
    refine cx_gi (pc_q := 26) (c := 8) (q := 3) (v := F (me) (3 : Int)) rfl rfl (by decide) (by decide) (Or.inl rfl) rfl o_me t_me rfl ?_
    refine jx_ar (pc_q := 27) (st_q := [.int (i32 (1)), .int (i32 (F (me) (3 : Int))), rv (me)]) rfl rfl rfl rfl ?_
    refine jx_add (pc_q := 28) rfl rfl ?_
    refine cx_pi (pc_q := 31) (c := 8) (q := 3) (qi := (3 : Int)) (z := (F (me) (3 : Int) + 1)) rfl rfl (by decide) (by decide) rfl rfl rfl (by decide) rfl o_me t_me rfl ?_
    obtain ⟨F4, eF4⟩ : ∃ q, q = uF F (me) (3 : Int) ((F (me) (3 : Int) + 1)) := ⟨_, rfl⟩
    rw [← eF4]
    have hC5 : HC 0 m tg ln F4 := by rw [eF4]; exact HC_fi (c := 8) (q := 3) hC t_me (by decide) rfl (by omega) (by omega) ⟨fun w => absurd w (by decide), fun w => absurd w (by decide)⟩
    have hM6 : Fq 0 [(9, 3), (10, 0), (10, 1), (10, 2), (11, 8), (11, 12), (11, 13), (11, 14), (11, 15), (11, 16), (11, 17), (11, 18)] m tg F F4 := by rw [eF4]; exact Fq_p hM0 t_me (fun w => (hX0.2 _ w).1) rfl
    have c7 : NP m tg F4 := by rw [eF4]; exact NP_u hC c_NP t_me (by omega)
    refine jx_ld (pc_q := 32) (l_q := L0) (st_q := [rv (me)]) rfl (jl_rvn g1) ?_
    refine cx_gr (pc_q := 35) (c := 8) (q := 1) (v := sc) rfl rfl (by decide) (by decide) rfl rfl o_me t_me ((show F4 (me) (1 : Int) = F (me) (1 : Int) from by rw [eF4]; exact uF_j (by decide)).trans e_sc) ?_
    have q8 : F4 (sc) (8 : Int) = F (sc) (8 : Int) := (show F4 (sc) (8 : Int) = F (sc) (8 : Int) from by rw [eF4]; exact uF_j (by decide))
    have q9 : F4 (sc) (15 : Int) = F (sc) (15 : Int) := (show F4 (sc) (15 : Int) = F (sc) (15 : Int) from by rw [eF4]; exact uF_j (by decide))
    have q10 : tz (F4 (sc) (15 : Int)) = tz (F (sc) (15 : Int)) := by rw [q9]
    have q11 := tz_b (F (sc) (15 : Int))
    have q12 : F4 (sc) (7 : Int) = F (sc) (7 : Int) := (show F4 (sc) (7 : Int) = F (sc) (7 : Int) from by rw [eF4]; exact uF_j (by decide))
    have q13 : F4 (sc) (14 : Int) = F (sc) (14 : Int) := (show F4 (sc) (14 : Int) = F (sc) (14 : Int) from by rw [eF4]; exact uF_j (by decide))
    have q14 : lz (F4 (sc) (14 : Int)) = lz (F (sc) (14 : Int)) := by rw [q13]
    have q15 := lz_b (F (sc) (14 : Int))
    refine cx_vi (c := 10) (a := sc) (st := []) (as := []) rfl rfl rfl o_sc t_sc (by decide) rfl ⟨rfl, rfl, (Nat.le_of_ble_eq_true rfl)⟩ rfl (k_LScanner_next (dd := d) (R := R) (m := m) (tg := tg) (ln := ln) (F := F4) (me := sc) (hd := by omega) (hC := hC5) (o_me := o_sc) (t_me := t_sc) (p_0 := by omega) (p_1 := by omega)) (fun o V_q hq => ?_)
    obtain ⟨F16, rfl, rfl, hC17, hM18, p19, p20, p21, -⟩ := hq
    have hM22 : Fq 0 [(9, 3), (10, 0), (10, 1), (10, 2), (11, 8), (11, 12), (11, 13), (11, 14), (11, 15), (11, 16), (11, 17), (11, 18)] m tg F F16 := Fq_t (ln := ln) (ln1 := ln) hM6 hX0 hM18 (by decide) (Or.inl rfl)
    have c23 : NP m tg F16 := NP_q hC5 c7 hM18 rfl rfl
    refine Or.inl ⟨rfl, ?_⟩
    refine jx_rt (v := none) rfl rfl rfl rfl rfl rfl ?_
    have q24 : F16 (sc) (7 : Int) = F (sc) (7 : Int) := ((show F16 (sc) (7 : Int) = F4 (sc) (7 : Int) from hM18 _ _ o_sc (own_z o_sc) (by rw [t_sc]; rfl)).trans (show F4 (sc) (7 : Int) = F (sc) (7 : Int) from by rw [eF4]; exact uF_j (by decide)))
    have q25 : F16 (pg) (9 : Int) = F (pg) (9 : Int) := ((show F16 (pg) (9 : Int) = F4 (pg) (9 : Int) from hM18 _ _ o_pg (own_z o_pg) (by rw [t_pg]; rfl)).trans (show F4 (pg) (9 : Int) = F (pg) (9 : Int) from by rw [eF4]; exact uF_j (by decide)))
    have q26 : F16 (me) (3 : Int) = (F (me) (3 : Int) + 1) := ((show F16 (me) (3 : Int) = F4 (me) (3 : Int) from hM18 _ _ o_me (own_z o_me) (by rw [t_me]; rfl)).trans (show F4 (me) (3 : Int) = (F (me) (3 : Int) + 1) from by rw [eF4]; exact uF_e))
    have q27 := tz_b (F16 (sc) (15 : Int))
    have q28 := lz_b (F16 (sc) (14 : Int))
    have q29 : F16 (pg) (9 : Int) = F (pg) (9 : Int) := ((show F16 (pg) (9 : Int) = F4 (pg) (9 : Int) from hM18 _ _ o_pg (own_z o_pg) (by rw [t_pg]; rfl)).trans (show F4 (pg) (9 : Int) = F (pg) (9 : Int) from by rw [eF4]; exact uF_j (by decide)))
    have q30 : F16 (me) (3 : Int) = (F (me) (3 : Int) + 1) := ((show F16 (me) (3 : Int) = F4 (me) (3 : Int) from hM18 _ _ o_me (own_z o_me) (by rw [t_me]; rfl)).trans (show F4 (me) (3 : Int) = (F (me) (3 : Int) + 1) from by rw [eF4]; exact uF_e))
    exact Or.inl ⟨m, tg, ln, F16, rfl, rfl, hX0, hC17, hM22, by omega, by omega, by omega, by omega, by omega, by omega, by omega, by omega, by omega, c23, NM_0, trivial⟩
  · have _q := h3
    refine jx_ld (pc_q := 10) (l_q := L0) (st_q := [rv (me)]) rfl (jl_rvn g1) ?_
    refine jx_ar (pc_q := 11) (st_q := [.int (i32 (1)), rv (me)]) rfl rfl rfl rfl ?_
    refine jx_ld (pc_q := 12) (l_q := L0) (st_q := [rv (me), .int (i32 (1)), rv (me)]) rfl (jl_rvn g1) ?_
    refine cx_gr (pc_q := 15) (c := 8) (q := 1) (v := sc) rfl rfl (by decide) (by decide) rfl rfl o_me t_me e_sc ?_
    refine cx_gi (pc_q := 18) (c := 10) (q := 16) (v := F (sc) (16 : Int)) rfl rfl (by decide) (by decide) (Or.inl rfl) rfl o_sc t_sc rfl ?_
    have b31 : (-2147483648 : Int) ≤ F (sc) (16 : Int) ∧ F (sc) (16 : Int) ≤ 2147483647 := by have z := HC_i (c := 10) (q := 16) hC o_sc t_sc (by decide) rfl; rw [show F (sc) ((16 : Nat) : Int) = F (sc) (16 : Int) from rfl] at z; exact z
    refine cx_vi (c := 8) (a := me) (st := []) (as := [.int (i32 (1)), .int (i32 (F (sc) (16 : Int)))]) rfl rfl rfl o_me t_me (by decide) rfl ⟨rfl, rfl, (Nat.le_of_ble_eq_true rfl)⟩ rfl (k_LParser_fail (dd := d) (R := R) (m := m) (tg := tg) (ln := ln) (F := F) (me := me) (kd := 1) (pl := F (sc) (16 : Int)) (hd := by omega) (hC := hC) (o_me := o_me) (t_me := t_me) (h_kd := by omega) (h_pl := by omega) (sc := sc) (pg := pg) (o_sc := o_sc) (t_sc := t_sc) (e_sc := e_sc) (o_pg := o_pg) (t_pg := t_pg) (e_pg := e_pg) (p_0 := by omega) (p_1 := by omega) (c_NP := c_NP)) (fun o V_q hq => ?_)
    obtain ⟨m32, tg32, ln32, F33, rfl, rfl, hx34, hC35, hM36, p37, c38, c39, -⟩ | ⟨m40, tg40, ln40, F40, x40, rfl, rfl, hx40, hC40, hM40, ho40, ht40, p41, p42, p43, p44, c45, c46, -⟩ := hq
    rotate_left
    ·
      have c47 : NM m m40 tg40 := NM_t NM_0 hx40 c46
      have lm48 := hx40.1
      refine Or.inr (Or.inr (Or.inr ⟨_, _, rfl, cx_exc (c := 15) ho40 ht40 (by decide), rfl, ?_⟩))
      exact Or.inr ⟨m40, tg40, ln40, F40, x40, rfl, rfl, Ex_t hX0 hx40, hC40, Fq_t (ln := ln) (ln1 := ln) hM0 hX0 hM40 (by decide) (Or.inl rfl), (And.intro ho40 ht40).1, (And.intro ho40 ht40).2, by omega, by omega, by omega, by omega, c45, c47, trivial⟩
    exact p37.elim
set_option maxRecDepth 20000 in
set_option maxHeartbeats 4000000 in
theorem k_LParser_closeBracket {X : jX} {dd : Nat} {R : Nat → jC} {m : Nat} {tg ln : Int → Int} {F : Int → Int → Int} {me tk : Int} (hd : 3 ≤ dd) (hC : HC 0 m tg ln F) {sc pg : Int} (o_sc : own m sc) (t_sc : tg sc = 11) (e_sc : F me (1 : Int) = sc) (o_pg : own m pg) (t_pg : tg pg = 10) (e_pg : F me (0 : Int) = pg) (o_me : own m me) (t_me : tg me = 9) (h_tk : (-2147483648 : Int) ≤ tk ∧ tk ≤ 2147483647) (p_0 : F sc (8 : Int) + 2 * tz (F sc (15 : Int)) ≤ F sc (7 : Int) + 1) (p_1 : F sc (8 : Int) + 2 * lz (F sc (14 : Int)) ≤ F sc (7 : Int) + 1) (p_2 : F sc (8 : Int) ≤ F sc (7 : Int)) (p_3 : 1 ≤ tk) (p_4 : 1 ≤ F me (3 : Int)) (c_NP : NP m tg F) : wk X dd 199 [rv me, .int (i32 tk)] (cV R m tg ln F) (fun o V_q => (∃ (m_q : Nat) (tg_q ln_q : Int → Int) (F_q : Int → Int → Int), V_q = cV R m_q tg_q ln_q F_q ∧ o = .inl none ∧ Ex m tg ln m_q tg_q ln_q ∧ HC 0 m_q tg_q ln_q F_q ∧ Fq 0 [(9, 3), (10, 0), (10, 1), (10, 2), (11, 8), (11, 12), (11, 13), (11, 14), (11, 15), (11, 16), (11, 17), (11, 18)] m tg F F_q ∧ (F_q sc (8 : Int) + 2 * tz (F_q sc (15 : Int)) ≤ F sc (7 : Int) + 1) ∧ (F_q sc (8 : Int) + 2 * lz (F_q sc (14 : Int)) ≤ F sc (7 : Int) + 1) ∧ (F_q sc (8 : Int) ≤ F sc (7 : Int)) ∧ (F_q sc (8 : Int) = F sc (8 : Int) + 1) ∧ (szD m_q tg_q ln_q = szD m tg ln + 25 * ((m_q : Int) - (m : Int))) ∧ ((m_q : Int) = (m : Int)) ∧ (F_q pg (9 : Int) ≤ F pg (9 : Int) + ((m_q : Int) - (m : Int))) ∧ (F_q me (3 : Int) = F me (3 : Int) - 1) ∧ (NP m_q tg_q F_q) ∧ (NM m m_q tg_q) ∧ True) ∨ (∃ (m_q : Nat) (tg_q ln_q : Int → Int) (F_q : Int → Int → Int) (x : Nat), V_q = cV R m_q tg_q ln_q F_q ∧ o = .inr x ∧ Ex m tg ln m_q tg_q ln_q ∧ HC 0 m_q tg_q ln_q F_q ∧ Fq 0 [(9, 3), (10, 0), (10, 1), (10, 2), (11, 8), (11, 12), (11, 13), (11, 14), (11, 15), (11, 16), (11, 17), (11, 18)] m tg F F_q ∧ (own m_q (x : Int)) ∧ (tg_q (x : Int) = 16) ∧ (F_q pg (0 : Int) ≠ 0) ∧ (szD m_q tg_q ln_q = szD m tg ln + 25 * ((m_q : Int) - (m : Int))) ∧ ((m_q : Int) ≤ (m : Int) + (F_q sc (8 : Int) - F sc (8 : Int)) + (1)) ∧ (F_q sc (8 : Int) ≤ F sc (7 : Int) + 1) ∧ (NP m_q tg_q F_q) ∧ (NM m m_q tg_q) ∧ True)) := by
  obtain ⟨d, rfl⟩ : ∃ d, dd = d + 1 := ⟨dd - 1, by omega⟩
  refine wk_of (e := jm199) rfl (by rw [jS_r, jS_i, jS_0]; exact Nat.le_of_ble_eq_true rfl) ?_
  rw [la_r, la_i, la_0]
  show wj X d jm199 (0, [(0, rv (me)), (1, .int (i32 (tk)))], [], cV R m tg ln F) _
  have hM0 : Fq 0 [(9, 3), (10, 0), (10, 1), (10, 2), (11, 8), (11, 12), (11, 13), (11, 14), (11, 15), (11, 16), (11, 17), (11, 18)] m tg F F := Fq_r
  have hX0 : Ex m tg ln m tg ln := Ex_r
  obtain ⟨L0, eL0⟩ : ∃ q : jL, q = [(0, rv (me)), (1, .int (i32 (tk)))] := ⟨_, rfl⟩
  rw [← eL0]
  have g1 : jGet L0 0 = some (rv (me)) := eL0 ▸ (rfl : jGet [(0, rv (me)), (1, .int (i32 (tk)))] 0 = some (rv (me)))
  have g2 : jGet L0 1 = some (.int (i32 (tk))) := eL0 ▸ (rfl : jGet [(0, rv (me)), (1, .int (i32 (tk)))] 1 = some (.int (i32 (tk))))
  clear eL0
  have tb0 := tz_b (F sc (15 : Int))
  have lb0 := lz_b (F sc (14 : Int))
  have ob0 : (0 : Int) ≤ F me (3 : Int) ∧ F me (3 : Int) ≤ 8 := HC_i (c := 8) (q := 3) hC o_me t_me (by decide) rfl
  have tp0 : F me (2 : Int) < 64 + (m : Int) := by
    have z : F me (2 : Int) = 0 ∨ (own m (F me (2 : Int)) ∧ tg (F me (2 : Int)) = 7) := HC_r (c := 8) (q := 2) hC o_me t_me (by decide) rfl
    rcases z with w | w
    · omega
    · exact w.1.2.1
  refine jx_ld (pc_q := 1) (l_q := L0) (st_q := [rv (me)]) rfl (jl_rvn g1) ?_
  refine cx_gr (pc_q := 4) (c := 8) (q := 1) (v := sc) rfl rfl (by decide) (by decide) rfl rfl o_me t_me e_sc ?_
  refine cx_gi (pc_q := 7) (c := 10) (q := 15) (v := F (sc) (15 : Int)) rfl rfl (by decide) (by decide) (Or.inl rfl) rfl o_sc t_sc rfl ?_
  have b3 : (-2147483648 : Int) ≤ F (sc) (15 : Int) ∧ F (sc) (15 : Int) ≤ 2147483647 := by have z := HC_i (c := 10) (q := 15) hC o_sc t_sc (by decide) rfl; rw [show F (sc) ((15 : Nat) : Int) = F (sc) (15 : Int) from rfl] at z; exact z
  refine jx_ld (pc_q := 8) (l_q := L0) (st_q := [.int (i32 (tk)), .int (i32 (F (sc) (15 : Int)))]) rfl (jl_iloadn g2) ?_
  refine jx_icmp_eq (pc_q := 11) (tg := 23) rfl rfl rfl (by omega) (by omega) (by omega) (by omega) (fun h4 => ?_) (fun h4 => ?_)
  · have _q := h4
    have t5 : tz (F (sc) (15 : Int)) = 1 := tz_p (by omega)
    refine jx_ld (pc_q := 24) (l_q := L0) (st_q := [rv (me)]) rfl (jl_rvn g1) ?_
    refine jx_ar (pc_q := 25) (st_q := [rv (me), rv (me)]) rfl rfl ja_dup rfl ?_
    refine cx_gi (pc_q := 28) (c := 8) (q := 3) (v := F (me) (3 : Int)) rfl rfl (by decide) (by decide) (Or.inl rfl) rfl o_me t_me rfl ?_
    have b6 : (0 : Int) ≤ F (me) (3 : Int) ∧ F (me) (3 : Int) ≤ 8 := by have z := HC_i (c := 8) (q := 3) hC o_me t_me (by decide) rfl; rw [show F (me) ((3 : Nat) : Int) = F (me) (3 : Int) from rfl] at z; exact z
    refine jx_ar (pc_q := 29) (st_q := [.int (i32 (1)), .int (i32 (F (me) (3 : Int))), rv (me)]) rfl rfl rfl rfl ?_
    refine jx_sub (pc_q := 30) rfl rfl ?_
    refine cx_pi (pc_q := 33) (c := 8) (q := 3) (qi := (3 : Int)) (z := (F (me) (3 : Int) - 1)) rfl rfl (by decide) (by decide) rfl rfl rfl (by decide) rfl o_me t_me rfl ?_
    obtain ⟨F7, eF7⟩ : ∃ q, q = uF F (me) (3 : Int) ((F (me) (3 : Int) - 1)) := ⟨_, rfl⟩
    rw [← eF7]
    have hC8 : HC 0 m tg ln F7 := by rw [eF7]; exact HC_fi (c := 8) (q := 3) hC t_me (by decide) rfl (by omega) (by omega) ⟨fun w => absurd w (by decide), fun w => absurd w (by decide)⟩
    have hM9 : Fq 0 [(9, 3), (10, 0), (10, 1), (10, 2), (11, 8), (11, 12), (11, 13), (11, 14), (11, 15), (11, 16), (11, 17), (11, 18)] m tg F F7 := by rw [eF7]; exact Fq_p hM0 t_me (fun w => (hX0.2 _ w).1) rfl
    have c10 : NP m tg F7 := by rw [eF7]; exact NP_u hC c_NP t_me (by omega)
    refine jx_ld (pc_q := 34) (l_q := L0) (st_q := [rv (me)]) rfl (jl_rvn g1) ?_
    refine cx_gr (pc_q := 37) (c := 8) (q := 1) (v := sc) rfl rfl (by decide) (by decide) rfl rfl o_me t_me ((show F7 (me) (1 : Int) = F (me) (1 : Int) from by rw [eF7]; exact uF_j (by decide)).trans e_sc) ?_
    have q11 : F7 (sc) (8 : Int) = F (sc) (8 : Int) := (show F7 (sc) (8 : Int) = F (sc) (8 : Int) from by rw [eF7]; exact uF_j (by decide))
    have q12 : F7 (sc) (15 : Int) = F (sc) (15 : Int) := (show F7 (sc) (15 : Int) = F (sc) (15 : Int) from by rw [eF7]; exact uF_j (by decide))
    have q13 : tz (F7 (sc) (15 : Int)) = tz (F (sc) (15 : Int)) := by rw [q12]
    have q14 := tz_b (F (sc) (15 : Int))
    have q15 : F7 (sc) (7 : Int) = F (sc) (7 : Int) := (show F7 (sc) (7 : Int) = F (sc) (7 : Int) from by rw [eF7]; exact uF_j (by decide))
    have q16 : F7 (sc) (14 : Int) = F (sc) (14 : Int) := (show F7 (sc) (14 : Int) = F (sc) (14 : Int) from by rw [eF7]; exact uF_j (by decide))
    have q17 : lz (F7 (sc) (14 : Int)) = lz (F (sc) (14 : Int)) := by rw [q16]
    have q18 := lz_b (F (sc) (14 : Int))
    refine cx_vi (c := 10) (a := sc) (st := []) (as := []) rfl rfl rfl o_sc t_sc (by decide) rfl ⟨rfl, rfl, (Nat.le_of_ble_eq_true rfl)⟩ rfl (k_LScanner_next (dd := d) (R := R) (m := m) (tg := tg) (ln := ln) (F := F7) (me := sc) (hd := by omega) (hC := hC8) (o_me := o_sc) (t_me := t_sc) (p_0 := by omega) (p_1 := by omega)) (fun o V_q hq => ?_)
    obtain ⟨F19, rfl, rfl, hC20, hM21, p22, p23, p24, -⟩ := hq
    have hM25 : Fq 0 [(9, 3), (10, 0), (10, 1), (10, 2), (11, 8), (11, 12), (11, 13), (11, 14), (11, 15), (11, 16), (11, 17), (11, 18)] m tg F F19 := Fq_t (ln := ln) (ln1 := ln) hM9 hX0 hM21 (by decide) (Or.inl rfl)
    have c26 : NP m tg F19 := NP_q hC8 c10 hM21 rfl rfl
    refine Or.inl ⟨rfl, ?_⟩
    refine jx_rt (v := none) rfl rfl rfl rfl rfl rfl ?_
    have q27 : F19 (sc) (7 : Int) = F (sc) (7 : Int) := ((show F19 (sc) (7 : Int) = F7 (sc) (7 : Int) from hM21 _ _ o_sc (own_z o_sc) (by rw [t_sc]; rfl)).trans (show F7 (sc) (7 : Int) = F (sc) (7 : Int) from by rw [eF7]; exact uF_j (by decide)))
    have q28 : F19 (pg) (9 : Int) = F (pg) (9 : Int) := ((show F19 (pg) (9 : Int) = F7 (pg) (9 : Int) from hM21 _ _ o_pg (own_z o_pg) (by rw [t_pg]; rfl)).trans (show F7 (pg) (9 : Int) = F (pg) (9 : Int) from by rw [eF7]; exact uF_j (by decide)))
    have q29 : F19 (me) (3 : Int) = (F (me) (3 : Int) - 1) := ((show F19 (me) (3 : Int) = F7 (me) (3 : Int) from hM21 _ _ o_me (own_z o_me) (by rw [t_me]; rfl)).trans (show F7 (me) (3 : Int) = (F (me) (3 : Int) - 1) from by rw [eF7]; exact uF_e))
    have q30 := tz_b (F19 (sc) (15 : Int))
    have q31 := lz_b (F19 (sc) (14 : Int))
    have q32 : F19 (pg) (9 : Int) = F (pg) (9 : Int) := ((show F19 (pg) (9 : Int) = F7 (pg) (9 : Int) from hM21 _ _ o_pg (own_z o_pg) (by rw [t_pg]; rfl)).trans (show F7 (pg) (9 : Int) = F (pg) (9 : Int) from by rw [eF7]; exact uF_j (by decide)))
    have q33 : F19 (me) (3 : Int) = (F (me) (3 : Int) - 1) := ((show F19 (me) (3 : Int) = F7 (me) (3 : Int) from hM21 _ _ o_me (own_z o_me) (by rw [t_me]; rfl)).trans (show F7 (me) (3 : Int) = (F (me) (3 : Int) - 1) from by rw [eF7]; exact uF_e))
    exact Or.inl ⟨m, tg, ln, F19, rfl, rfl, hX0, hC20, hM25, by omega, by omega, by omega, by omega, by omega, by omega, by omega, by omega, c26, NM_0, trivial⟩
  · have _q := h4
    refine jx_ld (pc_q := 12) (l_q := L0) (st_q := [rv (me)]) rfl (jl_rvn g1) ?_
    refine jx_ar (pc_q := 13) (st_q := [.int (i32 (1)), rv (me)]) rfl rfl rfl rfl ?_
    refine jx_ld (pc_q := 14) (l_q := L0) (st_q := [rv (me), .int (i32 (1)), rv (me)]) rfl (jl_rvn g1) ?_
    refine cx_gr (pc_q := 17) (c := 8) (q := 1) (v := sc) rfl rfl (by decide) (by decide) rfl rfl o_me t_me e_sc ?_
    refine cx_gi (pc_q := 20) (c := 10) (q := 16) (v := F (sc) (16 : Int)) rfl rfl (by decide) (by decide) (Or.inl rfl) rfl o_sc t_sc rfl ?_
    have b34 : (-2147483648 : Int) ≤ F (sc) (16 : Int) ∧ F (sc) (16 : Int) ≤ 2147483647 := by have z := HC_i (c := 10) (q := 16) hC o_sc t_sc (by decide) rfl; rw [show F (sc) ((16 : Nat) : Int) = F (sc) (16 : Int) from rfl] at z; exact z
    refine cx_vi (c := 8) (a := me) (st := []) (as := [.int (i32 (1)), .int (i32 (F (sc) (16 : Int)))]) rfl rfl rfl o_me t_me (by decide) rfl ⟨rfl, rfl, (Nat.le_of_ble_eq_true rfl)⟩ rfl (k_LParser_fail (dd := d) (R := R) (m := m) (tg := tg) (ln := ln) (F := F) (me := me) (kd := 1) (pl := F (sc) (16 : Int)) (hd := by omega) (hC := hC) (o_me := o_me) (t_me := t_me) (h_kd := by omega) (h_pl := by omega) (sc := sc) (pg := pg) (o_sc := o_sc) (t_sc := t_sc) (e_sc := e_sc) (o_pg := o_pg) (t_pg := t_pg) (e_pg := e_pg) (p_0 := by omega) (p_1 := by omega) (c_NP := c_NP)) (fun o V_q hq => ?_)
    obtain ⟨m35, tg35, ln35, F36, rfl, rfl, hx37, hC38, hM39, p40, c41, c42, -⟩ | ⟨m43, tg43, ln43, F43, x43, rfl, rfl, hx43, hC43, hM43, ho43, ht43, p44, p45, p46, p47, c48, c49, -⟩ := hq
    rotate_left
    ·
      have c50 : NM m m43 tg43 := NM_t NM_0 hx43 c49
      have lm51 := hx43.1
      refine Or.inr (Or.inr (Or.inr ⟨_, _, rfl, cx_exc (c := 15) ho43 ht43 (by decide), rfl, ?_⟩))
      exact Or.inr ⟨m43, tg43, ln43, F43, x43, rfl, rfl, Ex_t hX0 hx43, hC43, Fq_t (ln := ln) (ln1 := ln) hM0 hX0 hM43 (by decide) (Or.inl rfl), (And.intro ho43 ht43).1, (And.intro ho43 ht43).2, by omega, by omega, by omega, by omega, c48, c50, trivial⟩
    exact p40.elim
set_option maxRecDepth 20000 in
set_option maxHeartbeats 4000000 in
theorem k_LParser_numeral {X : jX} {dd : Nat} {R : Nat → jC} {m : Nat} {tg ln : Int → Int} {F : Int → Int → Int} {me v : Int} (hd : 3 ≤ dd) (hC : HC 0 m tg ln F) {sc pg : Int} (o_sc : own m sc) (t_sc : tg sc = 11) (e_sc : F me (1 : Int) = sc) (o_pg : own m pg) (t_pg : tg pg = 10) (e_pg : F me (0 : Int) = pg) (o_me : own m me) (t_me : tg me = 9) (h_v : (-2147483648 : Int) ≤ v ∧ v ≤ 2147483647) (p_0 : F sc (8 : Int) + 2 * tz (F sc (15 : Int)) ≤ F sc (7 : Int) + 1) (p_1 : F sc (8 : Int) + 2 * lz (F sc (14 : Int)) ≤ F sc (7 : Int) + 1) (p_2 : F sc (8 : Int) ≤ F sc (7 : Int)) (p_3 : tz (F sc (15 : Int)) = 1) (c_NP : NP m tg F) : wk X dd 203 [rv me, .int (i32 v)] (cV R m tg ln F) (fun o V_q => (∃ (m_q : Nat) (tg_q ln_q : Int → Int) (F_q : Int → Int → Int) (r : Int), V_q = cV R m_q tg_q ln_q F_q ∧ o = .inl (some (rv r)) ∧ Ex m tg ln m_q tg_q ln_q ∧ HC 0 m_q tg_q ln_q F_q ∧ Fq 0 [(11, 8), (11, 12), (11, 13), (11, 14), (11, 15), (11, 16), (11, 17), (11, 18)] m tg F F_q ∧ (own m_q r ∧ tg_q r = 8) ∧ (F_q sc (8 : Int) + 2 * tz (F_q sc (15 : Int)) ≤ F sc (7 : Int) + 1) ∧ (F_q sc (8 : Int) + 2 * lz (F_q sc (14 : Int)) ≤ F sc (7 : Int) + 1) ∧ (F_q sc (8 : Int) ≤ F sc (7 : Int)) ∧ (F sc (8 : Int) ≤ F_q sc (8 : Int)) ∧ (szD m_q tg_q ln_q = szD m tg ln + 25 * ((m_q : Int) - (m : Int))) ∧ ((m_q : Int) ≤ (m : Int) + (F_q sc (8 : Int) - F sc (8 : Int)) + (0)) ∧ (F_q pg (9 : Int) ≤ F pg (9 : Int) + ((m_q : Int) - (m : Int))) ∧ (64 + (m : Int) ≤ r) ∧ (WK F_q r (1)) ∧ (20 ≤ F_q r (0 : Int)) ∧ (F_q me (3 : Int) = F me (3 : Int)) ∧ (NP m_q tg_q F_q) ∧ (NM m m_q tg_q) ∧ True) ∨ (∃ (m_q : Nat) (tg_q ln_q : Int → Int) (F_q : Int → Int → Int) (x : Nat), V_q = cV R m_q tg_q ln_q F_q ∧ o = .inr x ∧ Ex m tg ln m_q tg_q ln_q ∧ HC 0 m_q tg_q ln_q F_q ∧ Fq 0 [(11, 8), (11, 12), (11, 13), (11, 14), (11, 15), (11, 16), (11, 17), (11, 18)] m tg F F_q ∧ (own m_q (x : Int)) ∧ (tg_q (x : Int) = 16) ∧ (F_q pg (0 : Int) ≠ 0) ∧ (szD m_q tg_q ln_q = szD m tg ln + 25 * ((m_q : Int) - (m : Int))) ∧ ((m_q : Int) ≤ (m : Int) + (F_q sc (8 : Int) - F sc (8 : Int)) + (1)) ∧ (F_q sc (8 : Int) ≤ F sc (7 : Int) + 1) ∧ (NP m_q tg_q F_q) ∧ (NM m m_q tg_q) ∧ True)) := by
  obtain ⟨d, rfl⟩ : ∃ d, dd = d + 1 := ⟨dd - 1, by omega⟩
  refine wk_of (e := jm203) rfl (by rw [jS_r, jS_i, jS_0]; exact Nat.le_of_ble_eq_true rfl) ?_
  rw [la_r, la_i, la_0]
  show wj X d jm203 (0, [(0, rv (me)), (1, .int (i32 (v)))], [], cV R m tg ln F) _
  have hM0 : Fq 0 [(11, 8), (11, 12), (11, 13), (11, 14), (11, 15), (11, 16), (11, 17), (11, 18)] m tg F F := Fq_r
  have hX0 : Ex m tg ln m tg ln := Ex_r
  obtain ⟨L0, eL0⟩ : ∃ q : jL, q = [(0, rv (me)), (1, .int (i32 (v)))] := ⟨_, rfl⟩
  rw [← eL0]
  have g1 : jGet L0 0 = some (rv (me)) := eL0 ▸ (rfl : jGet [(0, rv (me)), (1, .int (i32 (v)))] 0 = some (rv (me)))
  have g2 : jGet L0 1 = some (.int (i32 (v))) := eL0 ▸ (rfl : jGet [(0, rv (me)), (1, .int (i32 (v)))] 1 = some (.int (i32 (v))))
  clear eL0
  have tb0 := tz_b (F sc (15 : Int))
  have lb0 := lz_b (F sc (14 : Int))
  have ob0 : (0 : Int) ≤ F me (3 : Int) ∧ F me (3 : Int) ≤ 8 := HC_i (c := 8) (q := 3) hC o_me t_me (by decide) rfl
  have tp0 : F me (2 : Int) < 64 + (m : Int) := by
    have z : F me (2 : Int) = 0 ∨ (own m (F me (2 : Int)) ∧ tg (F me (2 : Int)) = 7) := HC_r (c := 8) (q := 2) hC o_me t_me (by decide) rfl
    rcases z with w | w
    · omega
    · exact w.1.2.1
  refine cx_newp (pc_q := 3) (c := 7) rfl rfl (by decide) rfl rfl hC rfl (by decide) (fun n3 m3 tg3 ln3 F3 en3 em3 ho3 hx3 hC3 hf3 h03 hs3 => ?_)
  have ex3 : 64 + (m : Int) ≤ n3 := by have := hX0.1; omega
  have lm4 := hx3.1
  have ho5 : own m3 (me) ∧ tg3 (me) = 9 := Ex_o hx3 ⟨o_me, t_me⟩
  have ho6 : own m3 (sc) ∧ tg3 (sc) = 11 := Ex_o hx3 ⟨o_sc, t_sc⟩
  have ho7 : own m3 (pg) ∧ tg3 (pg) = 10 := Ex_o hx3 ⟨o_pg, t_pg⟩
  have hX8 := Ex_t hX0 hx3
  have hM9 : Fq 0 [(11, 8), (11, 12), (11, 13), (11, 14), (11, 15), (11, 16), (11, 17), (11, 18)] m tg F F3 := Fq_n hM0 hf3 ex3
  have c10 : NM m m3 tg3 := NM_n NM_0 hC.1 hx3 en3 em3 ho3.2 (by decide)
  refine jx_ar (pc_q := 4) (st_q := [rv (n3), rv (n3)]) rfl rfl ja_dup rfl ?_
  refine jx_ar (pc_q := 6) (st_q := [.int (i32 (20)), rv (n3), rv (n3)]) rfl rfl rfl rfl ?_
  refine jx_ld (pc_q := 7) (l_q := L0) (st_q := [rv (me), .int (i32 (20)), rv (n3), rv (n3)]) rfl (jl_rvn g1) ?_
  refine cx_gr (pc_q := 10) (c := 8) (q := 1) (v := sc) rfl rfl (by decide) (by decide) rfl rfl ho5.1 ho5.2 ((show F3 (me) (1 : Int) = F (me) (1 : Int) from hf3 _ _ (ne_n o_me en3)).trans e_sc) ?_
  refine cx_gi (pc_q := 13) (c := 10) (q := 13) (v := F (sc) (13 : Int)) rfl rfl (by decide) (by decide) (Or.inl rfl) rfl ho6.1 ho6.2 (show F3 (sc) (13 : Int) = F (sc) (13 : Int) from hf3 _ _ (ne_n o_sc en3)) ?_
  have b11 : (-2147483648 : Int) ≤ F (sc) (13 : Int) ∧ F (sc) (13 : Int) ≤ 2147483647 := by have z := HC_i (c := 10) (q := 13) hC3 ho6.1 ho6.2 (by decide) rfl; rw [show F3 (sc) ((13 : Nat) : Int) = F (sc) (13 : Int) from (show F3 (sc) (13 : Int) = F (sc) (13 : Int) from hf3 _ _ (ne_n o_sc en3))] at z; exact z
  refine cx_sp (kd := 2) (a := n3) (st := [rv (n3)]) (as := [.int (i32 (20)), .int (i32 (F (sc) (13 : Int)))]) rfl rfl (by decide) rfl ho3.1.1 ⟨rfl, (by rw [jS_r, jS_0]; exact Nat.le_of_ble_eq_true rfl)⟩ rfl (k_LNode_init (dd := d) (R := R) (m := m3) (tg := tg3) (ln := ln3) (F := F3) (me := n3) (kd := 20) (l := F (sc) (13 : Int)) (hd := by omega) (hC := hC3) (o_me := ho3.1) (t_me := ho3.2) (h_kd := by omega) (h_l := by omega) (z_me := h03)) (fun o V_q hq => ?_)
  obtain ⟨F12, rfl, rfl, hC13, hM14, p15, zp16, -⟩ := hq
  have hM17 : Fq 0 [(11, 8), (11, 12), (11, 13), (11, 14), (11, 15), (11, 16), (11, 17), (11, 18)] m tg F F12 := Fq_t (ln := ln) (ln1 := ln3) hM9 hX8 hM14 (by decide) (Or.inr (Or.inr ex3))
  have c18 : NP m3 tg3 F12 := NP_nn hC c_NP hx3 en3 em3 (fun b i ob => (hM14 b i (own_m ob hx3.1) (ne_n ob en3) rfl).trans (hf3 b i (ne_n ob en3))) (fun _ => (zp16 _ (by decide) (by decide))) (fun w => absurd (ho3.2.symm.trans w) (by decide)) (fun w => absurd (ho3.2.symm.trans w) (by decide))
  refine Or.inl ⟨rfl, ?_⟩
  refine jx_ld (pc_q := 17) (l_q := jSto1 L0 2 (rv (n3))) (st_q := []) rfl (js_rvn (by decide)) ?_
  obtain ⟨L19, eL19⟩ : ∃ q : jL, q = jSto1 L0 2 (rv (n3)) := ⟨_, rfl⟩
  rw [← eL19]
  have g20 : jGet L19 0 = some (rv (me)) := eL19 ▸ jg_nr (by decide) g1
  have g21 : jGet L19 1 = some (.int (i32 (v))) := eL19 ▸ jg_ne (by decide) g2 rfl
  have g22 : jGet L19 2 = some (rv (n3)) := eL19 ▸ jg_eq
  clear eL19
  refine jx_ld (pc_q := 18) (l_q := L19) (st_q := [rv (n3)]) rfl (jl_rvn g22) ?_
  refine jx_ld (pc_q := 19) (l_q := L19) (st_q := [.int (i32 (v)), rv (n3)]) rfl (jl_iloadn g21) ?_
  refine cx_pi (pc_q := 22) (c := 7) (q := 2) (qi := (2 : Int)) (z := v) rfl rfl (by decide) (by decide) rfl rfl rfl (by decide) rfl ho3.1 ho3.2 rfl ?_
  obtain ⟨F23, eF23⟩ : ∃ q, q = uF F12 (n3) (2 : Int) (v) := ⟨_, rfl⟩
  rw [← eF23]
  have hC24 : HC 0 m3 tg3 ln3 F23 := by rw [eF23]; exact HC_fi (c := 7) (q := 2) hC13 ho3.2 (by decide) rfl (by omega) (by omega) ⟨fun w => absurd w (by decide), fun w => absurd w (by decide)⟩
  have hM25 : Fq 0 [(11, 8), (11, 12), (11, 13), (11, 14), (11, 15), (11, 16), (11, 17), (11, 18)] m tg F F23 := by rw [eF23]; exact Fq_x hM17 (Or.inr ex3)
  have c26 : NP m3 tg3 F23 := by rw [eF23]; exact NP_un hC13 c18 ho3.1 ho3.2 (show F12 (n3) (103 : Int) = 0 from zp16 _ (by decide) (by decide)) (by decide) (Or.inl (by decide))
  refine jx_ld (pc_q := 23) (l_q := L19) (st_q := [rv (me)]) rfl (jl_rvn g20) ?_
  refine cx_gr (pc_q := 26) (c := 8) (q := 1) (v := sc) rfl rfl (by decide) (by decide) rfl rfl ho5.1 ho5.2 (((show F23 (me) (1 : Int) = F12 (me) (1 : Int) from by rw [eF23]; exact uF_j (by decide)).trans ((show F12 (me) (1 : Int) = F3 (me) (1 : Int) from hM14 _ _ ho5.1 (fun w => by have q1 := ho5.2; rw [w, ho3.2] at q1; exact absurd q1 (by decide)) (by rw [ho5.2]; rfl)).trans (show F3 (me) (1 : Int) = F (me) (1 : Int) from hf3 _ _ (ne_n o_me en3)))).trans e_sc) ?_
  have q27 : F23 (sc) (8 : Int) = F (sc) (8 : Int) := ((show F23 (sc) (8 : Int) = F12 (sc) (8 : Int) from by rw [eF23]; exact uF_j (by decide)).trans ((show F12 (sc) (8 : Int) = F3 (sc) (8 : Int) from hM14 _ _ ho6.1 (fun w => by have q1 := ho6.2; rw [w, ho3.2] at q1; exact absurd q1 (by decide)) (by rw [ho6.2]; rfl)).trans (show F3 (sc) (8 : Int) = F (sc) (8 : Int) from hf3 _ _ (ne_n o_sc en3))))
  have q28 : F23 (sc) (15 : Int) = F (sc) (15 : Int) := ((show F23 (sc) (15 : Int) = F12 (sc) (15 : Int) from by rw [eF23]; exact uF_j (by decide)).trans ((show F12 (sc) (15 : Int) = F3 (sc) (15 : Int) from hM14 _ _ ho6.1 (fun w => by have q1 := ho6.2; rw [w, ho3.2] at q1; exact absurd q1 (by decide)) (by rw [ho6.2]; rfl)).trans (show F3 (sc) (15 : Int) = F (sc) (15 : Int) from hf3 _ _ (ne_n o_sc en3))))
  have q29 : tz (F23 (sc) (15 : Int)) = tz (F (sc) (15 : Int)) := by rw [q28]
  have q30 := tz_b (F (sc) (15 : Int))
  have q31 : F23 (sc) (7 : Int) = F (sc) (7 : Int) := ((show F23 (sc) (7 : Int) = F12 (sc) (7 : Int) from by rw [eF23]; exact uF_j (by decide)).trans ((show F12 (sc) (7 : Int) = F3 (sc) (7 : Int) from hM14 _ _ ho6.1 (fun w => by have q1 := ho6.2; rw [w, ho3.2] at q1; exact absurd q1 (by decide)) (by rw [ho6.2]; rfl)).trans (show F3 (sc) (7 : Int) = F (sc) (7 : Int) from hf3 _ _ (ne_n o_sc en3))))
  have q32 : F23 (sc) (14 : Int) = F (sc) (14 : Int) := ((show F23 (sc) (14 : Int) = F12 (sc) (14 : Int) from by rw [eF23]; exact uF_j (by decide)).trans ((show F12 (sc) (14 : Int) = F3 (sc) (14 : Int) from hM14 _ _ ho6.1 (fun w => by have q1 := ho6.2; rw [w, ho3.2] at q1; exact absurd q1 (by decide)) (by rw [ho6.2]; rfl)).trans (show F3 (sc) (14 : Int) = F (sc) (14 : Int) from hf3 _ _ (ne_n o_sc en3))))
  have q33 : lz (F23 (sc) (14 : Int)) = lz (F (sc) (14 : Int)) := by rw [q32]
  have q34 := lz_b (F (sc) (14 : Int))
  refine cx_vi (c := 10) (a := sc) (st := []) (as := []) rfl rfl rfl ho6.1 ho6.2 (by decide) rfl ⟨rfl, rfl, (Nat.le_of_ble_eq_true rfl)⟩ rfl (k_LScanner_next (dd := d) (R := R) (m := m3) (tg := tg3) (ln := ln3) (F := F23) (me := sc) (hd := by omega) (hC := hC24) (o_me := ho6.1) (t_me := ho6.2) (p_0 := by omega) (p_1 := by omega)) (fun o V_q hq => ?_)
  obtain ⟨F35, rfl, rfl, hC36, hM37, p38, p39, p40, -⟩ := hq
  have hM41 : Fq 0 [(11, 8), (11, 12), (11, 13), (11, 14), (11, 15), (11, 16), (11, 17), (11, 18)] m tg F F35 := Fq_t (ln := ln) (ln1 := ln3) hM25 hX8 hM37 (by decide) (Or.inl rfl)
  have c42 : NP m3 tg3 F35 := NP_q hC24 c26 hM37 rfl rfl
  refine Or.inl ⟨rfl, ?_⟩
  refine jx_ld (pc_q := 30) (l_q := L19) (st_q := [rv (n3)]) rfl (jl_rvn g22) ?_
  refine jx_rt (v := some (rv (n3))) rfl rfl rfl rfl rfl jr_are ?_
  have q43 : F35 (sc) (7 : Int) = F (sc) (7 : Int) := ((show F35 (sc) (7 : Int) = F23 (sc) (7 : Int) from hM37 _ _ ho6.1 (own_z ho6.1) (by rw [ho6.2]; rfl)).trans ((show F23 (sc) (7 : Int) = F12 (sc) (7 : Int) from by rw [eF23]; exact uF_j (by decide)).trans ((show F12 (sc) (7 : Int) = F3 (sc) (7 : Int) from hM14 _ _ ho6.1 (fun w => by have q1 := ho6.2; rw [w, ho3.2] at q1; exact absurd q1 (by decide)) (by rw [ho6.2]; rfl)).trans (show F3 (sc) (7 : Int) = F (sc) (7 : Int) from hf3 _ _ (ne_n o_sc en3)))))
  have q44 : F35 (pg) (9 : Int) = F (pg) (9 : Int) := ((show F35 (pg) (9 : Int) = F23 (pg) (9 : Int) from hM37 _ _ ho7.1 (own_z ho7.1) (by rw [ho7.2]; rfl)).trans ((show F23 (pg) (9 : Int) = F12 (pg) (9 : Int) from by rw [eF23]; exact uF_j (by decide)).trans ((show F12 (pg) (9 : Int) = F3 (pg) (9 : Int) from hM14 _ _ ho7.1 (fun w => by have q1 := ho7.2; rw [w, ho3.2] at q1; exact absurd q1 (by decide)) (by rw [ho7.2]; rfl)).trans (show F3 (pg) (9 : Int) = F (pg) (9 : Int) from hf3 _ _ (ne_n o_pg en3)))))
  have q45 : F35 (me) (3 : Int) = F (me) (3 : Int) := ((show F35 (me) (3 : Int) = F23 (me) (3 : Int) from hM37 _ _ ho5.1 (own_z ho5.1) (by rw [ho5.2]; rfl)).trans ((show F23 (me) (3 : Int) = F12 (me) (3 : Int) from by rw [eF23]; exact uF_j (by decide)).trans ((show F12 (me) (3 : Int) = F3 (me) (3 : Int) from hM14 _ _ ho5.1 (fun w => by have q1 := ho5.2; rw [w, ho3.2] at q1; exact absurd q1 (by decide)) (by rw [ho5.2]; rfl)).trans (show F3 (me) (3 : Int) = F (me) (3 : Int) from hf3 _ _ (ne_n o_me en3)))))
  have q46 := tz_b (F35 (sc) (15 : Int))
  have q47 := lz_b (F35 (sc) (14 : Int))
  have q48 : F35 (pg) (9 : Int) = F (pg) (9 : Int) := ((show F35 (pg) (9 : Int) = F23 (pg) (9 : Int) from hM37 _ _ ho7.1 (own_z ho7.1) (by rw [ho7.2]; rfl)).trans ((show F23 (pg) (9 : Int) = F12 (pg) (9 : Int) from by rw [eF23]; exact uF_j (by decide)).trans ((show F12 (pg) (9 : Int) = F3 (pg) (9 : Int) from hM14 _ _ ho7.1 (fun w => by have q1 := ho7.2; rw [w, ho3.2] at q1; exact absurd q1 (by decide)) (by rw [ho7.2]; rfl)).trans (show F3 (pg) (9 : Int) = F (pg) (9 : Int) from hf3 _ _ (ne_n o_pg en3)))))
  have q49 : F35 (n3) (0 : Int) = F12 (n3) (0 : Int) := ((show F35 (n3) (0 : Int) = F23 (n3) (0 : Int) from hM37 _ _ ho3.1 (own_z ho3.1) (by rw [ho3.2]; rfl)).trans (show F23 (n3) (0 : Int) = F12 (n3) (0 : Int) from by rw [eF23]; exact uF_j (by decide)))
  have q50 : F35 (me) (3 : Int) = F (me) (3 : Int) := ((show F35 (me) (3 : Int) = F23 (me) (3 : Int) from hM37 _ _ ho5.1 (own_z ho5.1) (by rw [ho5.2]; rfl)).trans ((show F23 (me) (3 : Int) = F12 (me) (3 : Int) from by rw [eF23]; exact uF_j (by decide)).trans ((show F12 (me) (3 : Int) = F3 (me) (3 : Int) from hM14 _ _ ho5.1 (fun w => by have q1 := ho5.2; rw [w, ho3.2] at q1; exact absurd q1 (by decide)) (by rw [ho5.2]; rfl)).trans (show F3 (me) (3 : Int) = F (me) (3 : Int) from hf3 _ _ (ne_n o_me en3)))))
  exact Or.inl ⟨m3, tg3, ln3, F35, (n3), rfl, rfl, hX8, hC36, hM41, ⟨ho3.1, ho3.2⟩, by omega, by omega, by omega, by omega, by omega, by omega, by omega, by omega, (WK_i (K := 1) ((show F35 (n3) (103 : Int) = F23 (n3) (103 : Int) from hM37 _ _ ho3.1 (own_z ho3.1) (by rw [ho3.2]; rfl)).trans ((show F23 (n3) (103 : Int) = F12 (n3) (103 : Int) from by rw [eF23]; exact uF_j (by decide)).trans (show F12 (n3) (103 : Int) = 0 from zp16 _ (by decide) (by decide)))) ((show F35 (n3) (101 : Int) = F23 (n3) (101 : Int) from hM37 _ _ ho3.1 (own_z ho3.1) (by rw [ho3.2]; rfl)).trans ((show F23 (n3) (101 : Int) = F12 (n3) (101 : Int) from by rw [eF23]; exact uF_j (by decide)).trans (show F12 (n3) (101 : Int) = 0 from zp16 _ (by decide) (by decide)))) ((show F35 (n3) (8 : Int) = F23 (n3) (8 : Int) from hM37 _ _ ho3.1 (own_z ho3.1) (by rw [ho3.2]; rfl)).trans ((show F23 (n3) (8 : Int) = F12 (n3) (8 : Int) from by rw [eF23]; exact uF_j (by decide)).trans (show F12 (n3) (8 : Int) = 0 from zp16 _ (by decide) (by decide)))) (Or.inl ((show F35 (n3) (4 : Int) = F23 (n3) (4 : Int) from hM37 _ _ ho3.1 (own_z ho3.1) (by rw [ho3.2]; rfl)).trans ((show F23 (n3) (4 : Int) = F12 (n3) (4 : Int) from by rw [eF23]; exact uF_j (by decide)).trans (show F12 (n3) (4 : Int) = 0 from zp16 _ (by decide) (by decide))))) (Or.inl ((show F35 (n3) (5 : Int) = F23 (n3) (5 : Int) from hM37 _ _ ho3.1 (own_z ho3.1) (by rw [ho3.2]; rfl)).trans ((show F23 (n3) (5 : Int) = F12 (n3) (5 : Int) from by rw [eF23]; exact uF_j (by decide)).trans (show F12 (n3) (5 : Int) = 0 from zp16 _ (by decide) (by decide))))) (Or.inl ((show F35 (n3) (6 : Int) = F23 (n3) (6 : Int) from hM37 _ _ ho3.1 (own_z ho3.1) (by rw [ho3.2]; rfl)).trans ((show F23 (n3) (6 : Int) = F12 (n3) (6 : Int) from by rw [eF23]; exact uF_j (by decide)).trans (show F12 (n3) (6 : Int) = 0 from zp16 _ (by decide) (by decide))))) (Or.inl ((show F35 (n3) (7 : Int) = F23 (n3) (7 : Int) from hM37 _ _ ho3.1 (own_z ho3.1) (by rw [ho3.2]; rfl)).trans ((show F23 (n3) (7 : Int) = F12 (n3) (7 : Int) from by rw [eF23]; exact uF_j (by decide)).trans (show F12 (n3) (7 : Int) = 0 from zp16 _ (by decide) (by decide))))) (Or.inr (Or.inl ((show F35 (n3) (4 : Int) = F23 (n3) (4 : Int) from hM37 _ _ ho3.1 (own_z ho3.1) (by rw [ho3.2]; rfl)).trans ((show F23 (n3) (4 : Int) = F12 (n3) (4 : Int) from by rw [eF23]; exact uF_j (by decide)).trans (show F12 (n3) (4 : Int) = 0 from zp16 _ (by decide) (by decide))))))), by omega, by omega, c42, c10, trivial⟩
set_option maxRecDepth 20000 in
set_option maxHeartbeats 4000000 in
theorem k_LParser_readArray {X : jX} {dd : Nat} {R : Nat → jC} {m : Nat} {tg ln : Int → Int} {F : Int → Int → Int} {me sz : Int} (hd : 3 ≤ dd) (hC : HC 0 m tg ln F) {sc pg : Int} (o_sc : own m sc) (t_sc : tg sc = 11) (e_sc : F me (1 : Int) = sc) (o_pg : own m pg) (t_pg : tg pg = 10) (e_pg : F me (0 : Int) = pg) (o_me : own m me) (t_me : tg me = 9) (h_sz : (-2147483648 : Int) ≤ sz ∧ sz ≤ 2147483647) (p_0 : F sc (8 : Int) + 2 * tz (F sc (15 : Int)) ≤ F sc (7 : Int) + 1) (p_1 : F sc (8 : Int) + 2 * lz (F sc (14 : Int)) ≤ F sc (7 : Int) + 1) (p_2 : F sc (8 : Int) ≤ F sc (7 : Int)) (p_3 : tz (F sc (15 : Int)) = 1) (c_NP : NP m tg F) : wk X dd 192 [rv me, .int (i32 sz)] (cV R m tg ln F) (fun o V_q => (∃ (m_q : Nat) (tg_q ln_q : Int → Int) (F_q : Int → Int → Int) (r : Int), V_q = cV R m_q tg_q ln_q F_q ∧ o = .inl (some (rv r)) ∧ Ex m tg ln m_q tg_q ln_q ∧ HC 0 m_q tg_q ln_q F_q ∧ Fq 0 [(10, 0), (10, 1), (10, 2), (10, 9), (11, 8), (11, 12), (11, 13), (11, 14), (11, 15), (11, 16), (11, 17), (11, 18)] m tg F F_q ∧ (own m_q r ∧ tg_q r = 8) ∧ (F_q sc (8 : Int) + 2 * tz (F_q sc (15 : Int)) ≤ F sc (7 : Int) + 1) ∧ (F_q sc (8 : Int) + 2 * lz (F_q sc (14 : Int)) ≤ F sc (7 : Int) + 1) ∧ (F_q sc (8 : Int) ≤ F sc (7 : Int)) ∧ (F sc (8 : Int) ≤ F_q sc (8 : Int)) ∧ (szD m_q tg_q ln_q = szD m tg ln + 25 * ((m_q : Int) - (m : Int))) ∧ ((m_q : Int) ≤ (m : Int) + (F_q sc (8 : Int) - F sc (8 : Int)) + (0)) ∧ (F_q pg (9 : Int) ≤ F pg (9 : Int) + ((m_q : Int) - (m : Int))) ∧ (64 + (m : Int) ≤ r) ∧ (WK F_q r (1)) ∧ (20 ≤ F_q r (0 : Int)) ∧ (F_q me (3 : Int) = F me (3 : Int)) ∧ (F_q r (3 : Int) ≠ 0) ∧ (NP m_q tg_q F_q) ∧ (NM m m_q tg_q) ∧ True) ∨ (∃ (m_q : Nat) (tg_q ln_q : Int → Int) (F_q : Int → Int → Int) (x : Nat), V_q = cV R m_q tg_q ln_q F_q ∧ o = .inr x ∧ Ex m tg ln m_q tg_q ln_q ∧ HC 0 m_q tg_q ln_q F_q ∧ Fq 0 [(10, 0), (10, 1), (10, 2), (10, 9), (11, 8), (11, 12), (11, 13), (11, 14), (11, 15), (11, 16), (11, 17), (11, 18)] m tg F F_q ∧ (own m_q (x : Int)) ∧ (tg_q (x : Int) = 16) ∧ (F_q pg (0 : Int) ≠ 0) ∧ (szD m_q tg_q ln_q = szD m tg ln + 25 * ((m_q : Int) - (m : Int))) ∧ ((m_q : Int) ≤ (m : Int) + (F_q sc (8 : Int) - F sc (8 : Int)) + (1)) ∧ (F_q sc (8 : Int) ≤ F sc (7 : Int) + 1) ∧ (NP m_q tg_q F_q) ∧ (NM m m_q tg_q) ∧ True)) := by
  obtain ⟨d, rfl⟩ : ∃ d, dd = d + 1 := ⟨dd - 1, by omega⟩
  refine wk_of (e := jm192) rfl (by rw [jS_r, jS_i, jS_0]; exact Nat.le_of_ble_eq_true rfl) ?_
  rw [la_r, la_i, la_0]
  show wj X d jm192 (0, [(0, rv (me)), (1, .int (i32 (sz)))], [], cV R m tg ln F) _
  have hM0 : Fq 0 [(10, 0), (10, 1), (10, 2), (10, 9), (11, 8), (11, 12), (11, 13), (11, 14), (11, 15), (11, 16), (11, 17), (11, 18)] m tg F F := Fq_r
  have hX0 : Ex m tg ln m tg ln := Ex_r
  obtain ⟨L0, eL0⟩ : ∃ q : jL, q = [(0, rv (me)), (1, .int (i32 (sz)))] := ⟨_, rfl⟩
  rw [← eL0]
  have g1 : jGet L0 0 = some (rv (me)) := eL0 ▸ (rfl : jGet [(0, rv (me)), (1, .int (i32 (sz)))] 0 = some (rv (me)))
  have g2 : jGet L0 1 = some (.int (i32 (sz))) := eL0 ▸ (rfl : jGet [(0, rv (me)), (1, .int (i32 (sz)))] 1 = some (.int (i32 (sz))))
  clear eL0
  have tb0 := tz_b (F sc (15 : Int))
  have lb0 := lz_b (F sc (14 : Int))
  have ob0 : (0 : Int) ≤ F me (3 : Int) ∧ F me (3 : Int) ≤ 8 := HC_i (c := 8) (q := 3) hC o_me t_me (by decide) rfl
  have tp0 : F me (2 : Int) < 64 + (m : Int) := by
    have z : F me (2 : Int) = 0 ∨ (own m (F me (2 : Int)) ∧ tg (F me (2 : Int)) = 7) := HC_r (c := 8) (q := 2) hC o_me t_me (by decide) rfl
    rcases z with w | w
    · omega
    · exact w.1.2.1
  refine jx_ld (pc_q := 1) (l_q := L0) (st_q := [rv (me)]) rfl (jl_rvn g1) ?_
  have q3 := tz_b (F (sc) (15 : Int))
  have q4 := lz_b (F (sc) (14 : Int))
  refine cx_vi (c := 8) (a := me) (st := []) (as := []) rfl rfl rfl o_me t_me (by decide) rfl ⟨rfl, rfl, (Nat.le_of_ble_eq_true rfl)⟩ rfl (k_LParser_known (dd := d) (R := R) (m := m) (tg := tg) (ln := ln) (F := F) (me := me) (hd := by omega) (hC := hC) (o_me := o_me) (t_me := t_me) (sc := sc) (pg := pg) (o_sc := o_sc) (t_sc := t_sc) (e_sc := e_sc) (o_pg := o_pg) (t_pg := t_pg) (e_pg := e_pg) (p_0 := by omega) (p_1 := by omega) (p_2 := by omega) (c_NP := c_NP)) (fun o V_q hq => ?_)
  obtain ⟨m5, tg5, ln5, F6, r7, rfl, rfl, hx8, hC9, hM10, b11, p12, p13, p14, p15, p16, p17, p18, c19, c20, -⟩ | ⟨m21, tg21, ln21, F21, x21, rfl, rfl, hx21, hC21, hM21, ho21, ht21, p22, p23, p24, p25, c26, c27, -⟩ := hq
  rotate_left
  ·
    have c28 : NM m m21 tg21 := NM_t NM_0 hx21 c27
    have lm29 := hx21.1
    refine Or.inr (Or.inr (Or.inr ⟨_, _, rfl, cx_exc (c := 15) ho21 ht21 (by decide), rfl, ?_⟩))
    exact Or.inr ⟨m21, tg21, ln21, F21, x21, rfl, rfl, Ex_t hX0 hx21, hC21, Fq_t (ln := ln) (ln1 := ln) hM0 hX0 hM21 (by decide) (Or.inl rfl), (And.intro ho21 ht21).1, (And.intro ho21 ht21).2, by omega, by omega, by omega, by omega, c26, c28, trivial⟩
  have hM30 : Fq 0 [(10, 0), (10, 1), (10, 2), (10, 9), (11, 8), (11, 12), (11, 13), (11, 14), (11, 15), (11, 16), (11, 17), (11, 18)] m tg F F6 := Fq_t (ln := ln) (ln1 := ln) hM0 hX0 hM10 (by decide) (Or.inl rfl)
  have lm31 := hx8.1
  have ho32 : own m5 (me) ∧ tg5 (me) = 9 := Ex_o hx8 ⟨o_me, t_me⟩
  have ho33 : own m5 (sc) ∧ tg5 (sc) = 11 := Ex_o hx8 ⟨o_sc, t_sc⟩
  have ho34 : own m5 (pg) ∧ tg5 (pg) = 10 := Ex_o hx8 ⟨o_pg, t_pg⟩
  have hX35 := Ex_t hX0 hx8
  have c36 : NM m m5 tg5 := NM_t NM_0 hx8 c20
  refine Or.inr (Or.inl ⟨_, rfl, ?_⟩)
  refine jx_ld (pc_q := 5) (l_q := jSto1 L0 2 (rv (r7))) (st_q := []) rfl (js_rvn (by decide)) ?_
  obtain ⟨L37, eL37⟩ : ∃ q : jL, q = jSto1 L0 2 (rv (r7)) := ⟨_, rfl⟩
  rw [← eL37]
  have g38 : jGet L37 0 = some (rv (me)) := eL37 ▸ jg_nr (by decide) g1
  have g39 : jGet L37 1 = some (.int (i32 (sz))) := eL37 ▸ jg_ne (by decide) g2 rfl
  have g40 : jGet L37 2 = some (rv (r7)) := eL37 ▸ jg_eq
  clear eL37
  refine jx_ld (pc_q := 6) (l_q := L37) (st_q := [rv (me)]) rfl (jl_rvn g38) ?_
  refine cx_gr (pc_q := 9) (c := 8) (q := 1) (v := sc) rfl rfl (by decide) (by decide) rfl rfl ho32.1 ho32.2 ((show F6 (me) (1 : Int) = F (me) (1 : Int) from hM10 _ _ o_me (own_z o_me) (by rw [t_me]; rfl)).trans e_sc) ?_
  refine cx_gi (pc_q := 12) (c := 10) (q := 16) (v := F (sc) (16 : Int)) rfl rfl (by decide) (by decide) (Or.inl rfl) rfl ho33.1 ho33.2 (show F6 (sc) (16 : Int) = F (sc) (16 : Int) from hM10 _ _ o_sc (own_z o_sc) (by rw [t_sc]; rfl)) ?_
  have b41 : (-2147483648 : Int) ≤ F (sc) (16 : Int) ∧ F (sc) (16 : Int) ≤ 2147483647 := by have z := HC_i (c := 10) (q := 16) hC9 ho33.1 ho33.2 (by decide) rfl; rw [show F6 (sc) ((16 : Nat) : Int) = F (sc) (16 : Int) from (show F6 (sc) (16 : Int) = F (sc) (16 : Int) from hM10 _ _ o_sc (own_z o_sc) (by rw [t_sc]; rfl))] at z; exact z
  refine jx_ld (pc_q := 13) (l_q := jSto1 L37 3 (.int (i32 (F (sc) (16 : Int))))) (st_q := []) rfl rfl ?_
  obtain ⟨L42, eL42⟩ : ∃ q : jL, q = jSto1 L37 3 (.int (i32 (F (sc) (16 : Int)))) := ⟨_, rfl⟩
  rw [← eL42]
  have g43 : jGet L42 0 = some (rv (me)) := eL42 ▸ jg_nr (by decide) g38
  have g44 : jGet L42 1 = some (.int (i32 (sz))) := eL42 ▸ jg_ne (by decide) g39 rfl
  have g45 : jGet L42 2 = some (rv (r7)) := eL42 ▸ jg_nr (by decide) g40
  have g46 : jGet L42 3 = some (.int (i32 (F (sc) (16 : Int)))) := eL42 ▸ jg_eq
  clear eL42
  refine jx_ld (pc_q := 14) (l_q := L42) (st_q := [rv (r7)]) rfl (jl_rvn g45) ?_
  refine cx_gi (pc_q := 17) (c := 6) (q := 0) (v := F6 (r7) (0 : Int)) rfl rfl (by decide) (by decide) (Or.inl rfl) rfl b11.1 b11.2 rfl ?_
  have b47 : (-2147483648 : Int) ≤ F6 (r7) (0 : Int) ∧ F6 (r7) (0 : Int) ≤ 2147483647 := by have z := HC_i (c := 6) (q := 0) hC9 b11.1 b11.2 (by decide) rfl; rw [show F6 (r7) ((0 : Nat) : Int) = F6 (r7) (0 : Int) from rfl] at z; exact z
  refine jx_ar (pc_q := 18) (st_q := [.int (i32 (5)), .int (i32 (F6 (r7) (0 : Int)))]) rfl rfl rfl rfl ?_
  refine jx_icmp_eq (pc_q := 21) (tg := 30) rfl rfl rfl (by omega) (by omega) (by decide) (by decide) (fun h48 => ?_) (fun h48 => ?_)
  · have _q := h48
    refine jx_ar (pc_q := 31) (st_q := [.int (i32 (1))]) rfl rfl rfl rfl ?_
    refine jx_go (tg := 35) rfl rfl ?_
    refine jx_ld (pc_q := 37) (l_q := jSto1 L42 4 (.int (i32 (1)))) (st_q := []) rfl rfl ?_
    obtain ⟨L49, eL49⟩ : ∃ q : jL, q = jSto1 L42 4 (.int (i32 (1))) := ⟨_, rfl⟩
    rw [← eL49]
    have g50 : jGet L49 0 = some (rv (me)) := eL49 ▸ jg_nr (by decide) g43
    have g51 : jGet L49 1 = some (.int (i32 (sz))) := eL49 ▸ jg_ne (by decide) g44 rfl
    have g52 : jGet L49 2 = some (rv (r7)) := eL49 ▸ jg_nr (by decide) g45
    have g53 : jGet L49 3 = some (.int (i32 (F (sc) (16 : Int)))) := eL49 ▸ jg_ne (by decide) g46 rfl
    have g54 : jGet L49 4 = some (.int (i32 (1))) := eL49 ▸ jg_eq
    clear eL49
    refine jx_ld (pc_q := 39) (l_q := L49) (st_q := [.int (i32 (1))]) rfl (jl_iload g54) ?_
    refine jx_if_eq (pc_q := 42) (tg := 50) rfl rfl rfl (by decide) (by decide) (fun h55 => ?_) (fun h55 => ?_)
    · have _q := h55
      exact absurd h55 (by omega)
    · have _q := h55
      refine jx_ld (pc_q := 43) (l_q := L49) (st_q := [rv (r7)]) rfl (jl_rvn g52) ?_
      refine cx_gi (pc_q := 46) (c := 6) (q := 3) (v := F6 (r7) (3 : Int)) rfl rfl (by decide) (by decide) (Or.inl rfl) rfl b11.1 b11.2 rfl ?_
      have b56 : (-2147483648 : Int) ≤ F6 (r7) (3 : Int) ∧ F6 (r7) (3 : Int) ≤ 2147483647 := by have z := HC_i (c := 6) (q := 3) hC9 b11.1 b11.2 (by decide) rfl; rw [show F6 (r7) ((3 : Nat) : Int) = F6 (r7) (3 : Int) from rfl] at z; exact z
      refine jx_ld (pc_q := 47) (l_q := L49) (st_q := [.int (i32 (sz)), .int (i32 (F6 (r7) (3 : Int)))]) rfl (jl_iloadn g51) ?_
      refine jx_icmp_eq (pc_q := 50) (tg := 56) rfl rfl rfl (by omega) (by omega) (by omega) (by omega) (fun h57 => ?_) (fun h57 => ?_)
      · have _q := h57
        refine jx_ld (pc_q := 57) (l_q := L49) (st_q := [rv (me)]) rfl (jl_rvn g50) ?_
        refine jx_ld (pc_q := 58) (l_q := L49) (st_q := [rv (r7), rv (me)]) rfl (jl_rvn g52) ?_
        have q58 : F6 (sc) (8 : Int) = F (sc) (8 : Int) := (show F6 (sc) (8 : Int) = F (sc) (8 : Int) from hM10 _ _ o_sc (own_z o_sc) (by rw [t_sc]; rfl))
        have q59 : F6 (sc) (15 : Int) = F (sc) (15 : Int) := (show F6 (sc) (15 : Int) = F (sc) (15 : Int) from hM10 _ _ o_sc (own_z o_sc) (by rw [t_sc]; rfl))
        have q60 : tz (F6 (sc) (15 : Int)) = tz (F (sc) (15 : Int)) := by rw [q59]
        have q61 := tz_b (F (sc) (15 : Int))
        have q62 : F6 (sc) (7 : Int) = F (sc) (7 : Int) := (show F6 (sc) (7 : Int) = F (sc) (7 : Int) from hM10 _ _ o_sc (own_z o_sc) (by rw [t_sc]; rfl))
        have q63 : F6 (sc) (14 : Int) = F (sc) (14 : Int) := (show F6 (sc) (14 : Int) = F (sc) (14 : Int) from hM10 _ _ o_sc (own_z o_sc) (by rw [t_sc]; rfl))
        have q64 : lz (F6 (sc) (14 : Int)) = lz (F (sc) (14 : Int)) := by rw [q63]
        have q65 := lz_b (F (sc) (14 : Int))
        have q66 : F6 (pg) (9 : Int) = F (pg) (9 : Int) := (show F6 (pg) (9 : Int) = F (pg) (9 : Int) from hM10 _ _ o_pg (own_z o_pg) (by rw [t_pg]; rfl))
        refine cx_vi (c := 8) (a := me) (st := []) (as := [rv (r7)]) rfl rfl rfl ho32.1 ho32.2 (by decide) rfl ⟨rfl, rfl, (Nat.le_of_ble_eq_true rfl)⟩ rfl (k_LParser_newPart (dd := d) (R := R) (m := m5) (tg := tg5) (ln := ln5) (F := F6) (me := me) (nm := r7) (hd := by omega) (hC := hC9) (o_me := ho32.1) (t_me := ho32.2) (o_nm := b11.1) (t_nm := b11.2) (sc := sc) (pg := pg) (o_sc := ho33.1) (t_sc := ho33.2) (e_sc := ((show F6 (me) (1 : Int) = F (me) (1 : Int) from hM10 _ _ o_me (own_z o_me) (by rw [t_me]; rfl)).trans e_sc)) (o_pg := ho34.1) (t_pg := ho34.2) (e_pg := ((show F6 (me) (0 : Int) = F (me) (0 : Int) from hM10 _ _ o_me (own_z o_me) (by rw [t_me]; rfl)).trans e_pg)) (p_0 := by omega) (p_1 := by omega) (p_2 := by omega) (c_NP := c19)) (fun o V_q hq => ?_)
        obtain ⟨m67, tg67, ln67, F68, r69, rfl, rfl, hx70, hC71, hM72, b73, p74, p75, p76, p77, p78, p79, p80, p81, p82, p83, p84, p85, p86, c87, c88, -⟩ := hq
        have hM89 : Fq 0 [(10, 0), (10, 1), (10, 2), (10, 9), (11, 8), (11, 12), (11, 13), (11, 14), (11, 15), (11, 16), (11, 17), (11, 18)] m tg F F68 := Fq_t (ln := ln) (ln1 := ln5) hM30 hX35 hM72 (by decide) (Or.inl rfl)
        have lm90 := hx70.1
        have lt91 : r7 < 64 + (m5 : Int) := b11.1.2.1
        have ho92 : own m67 (me) ∧ tg67 (me) = 9 := Ex_o hx70 ⟨ho32.1, ho32.2⟩
        have ho93 : own m67 (r7) ∧ tg67 (r7) = 7 := Ex_o hx70 ⟨b11.1, b11.2⟩
        have ho94 : own m67 (sc) ∧ tg67 (sc) = 11 := Ex_o hx70 ⟨ho33.1, ho33.2⟩
        have ho95 : own m67 (pg) ∧ tg67 (pg) = 10 := Ex_o hx70 ⟨ho34.1, ho34.2⟩
        have hX96 := Ex_t hX35 hx70
        have q97 := p82.1
        have q98 := p82.2.1
        have q99 := p82.2.2.1
        have c100 : NM m m67 tg67 := NM_t c36 hx70 c88
        refine Or.inr (Or.inl ⟨_, rfl, ?_⟩)
        refine jx_ld (pc_q := 63) (l_q := jSto1 L49 5 (rv (r69))) (st_q := []) rfl (js_rv (by decide)) ?_
        obtain ⟨L101, eL101⟩ : ∃ q : jL, q = jSto1 L49 5 (rv (r69)) := ⟨_, rfl⟩
        rw [← eL101]
        have g102 : jGet L101 0 = some (rv (me)) := eL101 ▸ jg_nr (by decide) g50
        have g103 : jGet L101 1 = some (.int (i32 (sz))) := eL101 ▸ jg_ne (by decide) g51 rfl
        have g104 : jGet L101 2 = some (rv (r7)) := eL101 ▸ jg_nr (by decide) g52
        have g105 : jGet L101 3 = some (.int (i32 (F (sc) (16 : Int)))) := eL101 ▸ jg_ne (by decide) g53 rfl
        have g106 : jGet L101 4 = some (.int (i32 (1))) := eL101 ▸ jg_ne (by decide) g54 rfl
        have g107 : jGet L101 5 = some (rv (r69)) := eL101 ▸ jg_eq
        clear eL101
        refine jx_ld (pc_q := 64) (l_q := L101) (st_q := [rv (me)]) rfl (jl_rvn g102) ?_
        refine cx_gr (pc_q := 67) (c := 8) (q := 1) (v := sc) rfl rfl (by decide) (by decide) rfl rfl ho92.1 ho92.2 (((show F68 (me) (1 : Int) = F6 (me) (1 : Int) from hM72 _ _ ho32.1 (own_z ho32.1) (by rw [ho32.2]; rfl)).trans (show F6 (me) (1 : Int) = F (me) (1 : Int) from hM10 _ _ o_me (own_z o_me) (by rw [t_me]; rfl))).trans e_sc) ?_
        have q108 : F68 (sc) (8 : Int) = F (sc) (8 : Int) := ((show F68 (sc) (8 : Int) = F6 (sc) (8 : Int) from hM72 _ _ ho33.1 (own_z ho33.1) (by rw [ho33.2]; rfl)).trans (show F6 (sc) (8 : Int) = F (sc) (8 : Int) from hM10 _ _ o_sc (own_z o_sc) (by rw [t_sc]; rfl)))
        have q109 : F68 (sc) (15 : Int) = F (sc) (15 : Int) := ((show F68 (sc) (15 : Int) = F6 (sc) (15 : Int) from hM72 _ _ ho33.1 (own_z ho33.1) (by rw [ho33.2]; rfl)).trans (show F6 (sc) (15 : Int) = F (sc) (15 : Int) from hM10 _ _ o_sc (own_z o_sc) (by rw [t_sc]; rfl)))
        have q110 : tz (F68 (sc) (15 : Int)) = tz (F (sc) (15 : Int)) := by rw [q109]
        have q111 := tz_b (F (sc) (15 : Int))
        have q112 : F68 (sc) (7 : Int) = F (sc) (7 : Int) := ((show F68 (sc) (7 : Int) = F6 (sc) (7 : Int) from hM72 _ _ ho33.1 (own_z ho33.1) (by rw [ho33.2]; rfl)).trans (show F6 (sc) (7 : Int) = F (sc) (7 : Int) from hM10 _ _ o_sc (own_z o_sc) (by rw [t_sc]; rfl)))
        have q113 : F68 (sc) (14 : Int) = F (sc) (14 : Int) := ((show F68 (sc) (14 : Int) = F6 (sc) (14 : Int) from hM72 _ _ ho33.1 (own_z ho33.1) (by rw [ho33.2]; rfl)).trans (show F6 (sc) (14 : Int) = F (sc) (14 : Int) from hM10 _ _ o_sc (own_z o_sc) (by rw [t_sc]; rfl)))
        have q114 : lz (F68 (sc) (14 : Int)) = lz (F (sc) (14 : Int)) := by rw [q113]
        have q115 := lz_b (F (sc) (14 : Int))
        refine cx_vi (c := 10) (a := sc) (st := []) (as := []) rfl rfl rfl ho94.1 ho94.2 (by decide) rfl ⟨rfl, rfl, (Nat.le_of_ble_eq_true rfl)⟩ rfl (k_LScanner_next (dd := d) (R := R) (m := m67) (tg := tg67) (ln := ln67) (F := F68) (me := sc) (hd := by omega) (hC := hC71) (o_me := ho94.1) (t_me := ho94.2) (p_0 := by omega) (p_1 := by omega)) (fun o V_q hq => ?_)
        obtain ⟨F116, rfl, rfl, hC117, hM118, p119, p120, p121, -⟩ := hq
        have hM122 : Fq 0 [(10, 0), (10, 1), (10, 2), (10, 9), (11, 8), (11, 12), (11, 13), (11, 14), (11, 15), (11, 16), (11, 17), (11, 18)] m tg F F116 := Fq_t (ln := ln) (ln1 := ln67) hM89 hX96 hM118 (by decide) (Or.inl rfl)
        have w123 : WK F116 r69 (1) := WK_q p82 hC71 b73.1 b73.2 hM118 rfl
        have c124 : NP m67 tg67 F116 := NP_q hC71 c87 hM118 rfl rfl
        refine Or.inl ⟨rfl, ?_⟩
        refine jx_ld (pc_q := 71) (l_q := L101) (st_q := [rv (me)]) rfl (jl_rvn g102) ?_
        refine cx_gr (pc_q := 74) (c := 8) (q := 1) (v := sc) rfl rfl (by decide) (by decide) rfl rfl ho92.1 ho92.2 (((show F116 (me) (1 : Int) = F68 (me) (1 : Int) from hM118 _ _ ho92.1 (own_z ho92.1) (by rw [ho92.2]; rfl)).trans ((show F68 (me) (1 : Int) = F6 (me) (1 : Int) from hM72 _ _ ho32.1 (own_z ho32.1) (by rw [ho32.2]; rfl)).trans (show F6 (me) (1 : Int) = F (me) (1 : Int) from hM10 _ _ o_me (own_z o_me) (by rw [t_me]; rfl)))).trans e_sc) ?_
        refine cx_gi (pc_q := 77) (c := 10) (q := 15) (v := F116 (sc) (15 : Int)) rfl rfl (by decide) (by decide) (Or.inl rfl) rfl ho94.1 ho94.2 rfl ?_
        have b125 : (-2147483648 : Int) ≤ F116 (sc) (15 : Int) ∧ F116 (sc) (15 : Int) ≤ 2147483647 := by have z := HC_i (c := 10) (q := 15) hC117 ho94.1 ho94.2 (by decide) rfl; rw [show F116 (sc) ((15 : Nat) : Int) = F116 (sc) (15 : Int) from rfl] at z; exact z
        refine jx_ar (pc_q := 79) (st_q := [.int (i32 (56)), .int (i32 (F116 (sc) (15 : Int)))]) rfl rfl rfl rfl ?_
        refine jx_icmp_ne (pc_q := 82) (tg := 88) rfl rfl rfl (by omega) (by omega) (by decide) (by decide) (fun h126 => ?_) (fun h126 => ?_)
        · have _q := h126
          refine jx_ld (pc_q := 90) (l_q := L101) (st_q := [rv (r69)]) rfl (jl_rv g107) ?_
          refine jx_rt (v := some (rv (r69))) rfl rfl rfl rfl rfl jr_are ?_
          have q127 : F116 (sc) (7 : Int) = F (sc) (7 : Int) := ((show F116 (sc) (7 : Int) = F68 (sc) (7 : Int) from hM118 _ _ ho94.1 (own_z ho94.1) (by rw [ho94.2]; rfl)).trans ((show F68 (sc) (7 : Int) = F6 (sc) (7 : Int) from hM72 _ _ ho33.1 (own_z ho33.1) (by rw [ho33.2]; rfl)).trans (show F6 (sc) (7 : Int) = F (sc) (7 : Int) from hM10 _ _ o_sc (own_z o_sc) (by rw [t_sc]; rfl))))
          have q128 : F116 (pg) (9 : Int) = F68 (pg) (9 : Int) := (show F116 (pg) (9 : Int) = F68 (pg) (9 : Int) from hM118 _ _ ho95.1 (own_z ho95.1) (by rw [ho95.2]; rfl))
          have q129 : F116 (me) (3 : Int) = F (me) (3 : Int) := ((show F116 (me) (3 : Int) = F68 (me) (3 : Int) from hM118 _ _ ho92.1 (own_z ho92.1) (by rw [ho92.2]; rfl)).trans ((show F68 (me) (3 : Int) = F6 (me) (3 : Int) from hM72 _ _ ho32.1 (own_z ho32.1) (by rw [ho32.2]; rfl)).trans (show F6 (me) (3 : Int) = F (me) (3 : Int) from hM10 _ _ o_me (own_z o_me) (by rw [t_me]; rfl))))
          have q130 := tz_b (F116 (sc) (15 : Int))
          have q131 := lz_b (F116 (sc) (14 : Int))
          have q132 : F116 (pg) (9 : Int) = F68 (pg) (9 : Int) := (show F116 (pg) (9 : Int) = F68 (pg) (9 : Int) from hM118 _ _ ho95.1 (own_z ho95.1) (by rw [ho95.2]; rfl))
          have q133 : F116 (r69) (0 : Int) = F68 (r69) (0 : Int) := (show F116 (r69) (0 : Int) = F68 (r69) (0 : Int) from hM118 _ _ b73.1 (own_z b73.1) (by rw [b73.2]; rfl))
          have q134 : F116 (me) (3 : Int) = F (me) (3 : Int) := ((show F116 (me) (3 : Int) = F68 (me) (3 : Int) from hM118 _ _ ho92.1 (own_z ho92.1) (by rw [ho92.2]; rfl)).trans ((show F68 (me) (3 : Int) = F6 (me) (3 : Int) from hM72 _ _ ho32.1 (own_z ho32.1) (by rw [ho32.2]; rfl)).trans (show F6 (me) (3 : Int) = F (me) (3 : Int) from hM10 _ _ o_me (own_z o_me) (by rw [t_me]; rfl))))
          have q135 : F116 (r69) (3 : Int) = F68 (r69) (3 : Int) := (show F116 (r69) (3 : Int) = F68 (r69) (3 : Int) from hM118 _ _ b73.1 (own_z b73.1) (by rw [b73.2]; rfl))
          exact Or.inl ⟨m67, tg67, ln67, F116, (r69), rfl, rfl, hX96, hC117, hM122, ⟨b73.1, b73.2⟩, by omega, by omega, by omega, by omega, by omega, by omega, by omega, by omega, (WK_m w123 (by omega)), by omega, by omega, by omega, c124, c100, trivial⟩
        · have _q := h126
          have t136 : tz (F116 (sc) (15 : Int)) = 1 := tz_p (by omega)
          refine jx_ld (pc_q := 83) (l_q := L101) (st_q := [rv (me)]) rfl (jl_rvn g102) ?_
          refine jx_ar (pc_q := 84) (st_q := [.int (i32 (4)), rv (me)]) rfl rfl rfl rfl ?_
          refine jx_ld (pc_q := 85) (l_q := L101) (st_q := [.int (i32 (F (sc) (16 : Int))), .int (i32 (4)), rv (me)]) rfl (jl_iloadn g105) ?_
          have q137 : F116 (sc) (7 : Int) = F (sc) (7 : Int) := ((show F116 (sc) (7 : Int) = F68 (sc) (7 : Int) from hM118 _ _ ho94.1 (own_z ho94.1) (by rw [ho94.2]; rfl)).trans ((show F68 (sc) (7 : Int) = F6 (sc) (7 : Int) from hM72 _ _ ho33.1 (own_z ho33.1) (by rw [ho33.2]; rfl)).trans (show F6 (sc) (7 : Int) = F (sc) (7 : Int) from hM10 _ _ o_sc (own_z o_sc) (by rw [t_sc]; rfl))))
          refine cx_vi (c := 8) (a := me) (st := []) (as := [.int (i32 (4)), .int (i32 (F (sc) (16 : Int)))]) rfl rfl rfl ho92.1 ho92.2 (by decide) rfl ⟨rfl, rfl, (Nat.le_of_ble_eq_true rfl)⟩ rfl (k_LParser_fail (dd := d) (R := R) (m := m67) (tg := tg67) (ln := ln67) (F := F116) (me := me) (kd := 4) (pl := F (sc) (16 : Int)) (hd := by omega) (hC := hC117) (o_me := ho92.1) (t_me := ho92.2) (h_kd := by omega) (h_pl := by omega) (sc := sc) (pg := pg) (o_sc := ho94.1) (t_sc := ho94.2) (e_sc := (((show F116 (me) (1 : Int) = F68 (me) (1 : Int) from hM118 _ _ ho92.1 (own_z ho92.1) (by rw [ho92.2]; rfl)).trans ((show F68 (me) (1 : Int) = F6 (me) (1 : Int) from hM72 _ _ ho32.1 (own_z ho32.1) (by rw [ho32.2]; rfl)).trans (show F6 (me) (1 : Int) = F (me) (1 : Int) from hM10 _ _ o_me (own_z o_me) (by rw [t_me]; rfl)))).trans e_sc)) (o_pg := ho95.1) (t_pg := ho95.2) (e_pg := (((show F116 (me) (0 : Int) = F68 (me) (0 : Int) from hM118 _ _ ho92.1 (own_z ho92.1) (by rw [ho92.2]; rfl)).trans ((show F68 (me) (0 : Int) = F6 (me) (0 : Int) from hM72 _ _ ho32.1 (own_z ho32.1) (by rw [ho32.2]; rfl)).trans (show F6 (me) (0 : Int) = F (me) (0 : Int) from hM10 _ _ o_me (own_z o_me) (by rw [t_me]; rfl)))).trans e_pg)) (p_0 := by omega) (p_1 := by omega) (c_NP := c124)) (fun o V_q hq => ?_)
          obtain ⟨m138, tg138, ln138, F139, rfl, rfl, hx140, hC141, hM142, p143, c144, c145, -⟩ | ⟨m146, tg146, ln146, F146, x146, rfl, rfl, hx146, hC146, hM146, ho146, ht146, p147, p148, p149, p150, c151, c152, -⟩ := hq
          rotate_left
          ·
            have c153 : NM m m146 tg146 := NM_t c100 hx146 c152
            have lm154 := hx146.1
            refine Or.inr (Or.inr (Or.inr ⟨_, _, rfl, cx_exc (c := 15) ho146 ht146 (by decide), rfl, ?_⟩))
            have q155 : F116 (sc) (7 : Int) = F (sc) (7 : Int) := ((show F116 (sc) (7 : Int) = F68 (sc) (7 : Int) from hM118 _ _ ho94.1 (own_z ho94.1) (by rw [ho94.2]; rfl)).trans ((show F68 (sc) (7 : Int) = F6 (sc) (7 : Int) from hM72 _ _ ho33.1 (own_z ho33.1) (by rw [ho33.2]; rfl)).trans (show F6 (sc) (7 : Int) = F (sc) (7 : Int) from hM10 _ _ o_sc (own_z o_sc) (by rw [t_sc]; rfl))))
            exact Or.inr ⟨m146, tg146, ln146, F146, x146, rfl, rfl, Ex_t hX96 hx146, hC146, Fq_t (ln := ln) (ln1 := ln67) hM122 hX96 hM146 (by decide) (Or.inl rfl), (And.intro ho146 ht146).1, (And.intro ho146 ht146).2, by omega, by omega, by omega, by omega, c151, c153, trivial⟩
          exact p143.elim
      · have _q := h57
        refine jx_ld (pc_q := 51) (l_q := L49) (st_q := [rv (me)]) rfl (jl_rvn g50) ?_
        refine jx_ar (pc_q := 52) (st_q := [.int (i32 (4)), rv (me)]) rfl rfl rfl rfl ?_
        refine jx_ld (pc_q := 53) (l_q := L49) (st_q := [.int (i32 (F (sc) (16 : Int))), .int (i32 (4)), rv (me)]) rfl (jl_iloadn g53) ?_
        have q156 : F6 (sc) (8 : Int) = F (sc) (8 : Int) := (show F6 (sc) (8 : Int) = F (sc) (8 : Int) from hM10 _ _ o_sc (own_z o_sc) (by rw [t_sc]; rfl))
        have q157 : F6 (sc) (7 : Int) = F (sc) (7 : Int) := (show F6 (sc) (7 : Int) = F (sc) (7 : Int) from hM10 _ _ o_sc (own_z o_sc) (by rw [t_sc]; rfl))
        refine cx_vi (c := 8) (a := me) (st := []) (as := [.int (i32 (4)), .int (i32 (F (sc) (16 : Int)))]) rfl rfl rfl ho32.1 ho32.2 (by decide) rfl ⟨rfl, rfl, (Nat.le_of_ble_eq_true rfl)⟩ rfl (k_LParser_fail (dd := d) (R := R) (m := m5) (tg := tg5) (ln := ln5) (F := F6) (me := me) (kd := 4) (pl := F (sc) (16 : Int)) (hd := by omega) (hC := hC9) (o_me := ho32.1) (t_me := ho32.2) (h_kd := by omega) (h_pl := by omega) (sc := sc) (pg := pg) (o_sc := ho33.1) (t_sc := ho33.2) (e_sc := ((show F6 (me) (1 : Int) = F (me) (1 : Int) from hM10 _ _ o_me (own_z o_me) (by rw [t_me]; rfl)).trans e_sc)) (o_pg := ho34.1) (t_pg := ho34.2) (e_pg := ((show F6 (me) (0 : Int) = F (me) (0 : Int) from hM10 _ _ o_me (own_z o_me) (by rw [t_me]; rfl)).trans e_pg)) (p_0 := by omega) (p_1 := by omega) (c_NP := c19)) (fun o V_q hq => ?_)
        obtain ⟨m158, tg158, ln158, F159, rfl, rfl, hx160, hC161, hM162, p163, c164, c165, -⟩ | ⟨m166, tg166, ln166, F166, x166, rfl, rfl, hx166, hC166, hM166, ho166, ht166, p167, p168, p169, p170, c171, c172, -⟩ := hq
        rotate_left
        ·
          have c173 : NM m m166 tg166 := NM_t c36 hx166 c172
          have lm174 := hx166.1
          refine Or.inr (Or.inr (Or.inr ⟨_, _, rfl, cx_exc (c := 15) ho166 ht166 (by decide), rfl, ?_⟩))
          have q175 : F6 (sc) (8 : Int) = F (sc) (8 : Int) := (show F6 (sc) (8 : Int) = F (sc) (8 : Int) from hM10 _ _ o_sc (own_z o_sc) (by rw [t_sc]; rfl))
          have q176 : F6 (sc) (7 : Int) = F (sc) (7 : Int) := (show F6 (sc) (7 : Int) = F (sc) (7 : Int) from hM10 _ _ o_sc (own_z o_sc) (by rw [t_sc]; rfl))
          exact Or.inr ⟨m166, tg166, ln166, F166, x166, rfl, rfl, Ex_t hX35 hx166, hC166, Fq_t (ln := ln) (ln1 := ln5) hM30 hX35 hM166 (by decide) (Or.inl rfl), (And.intro ho166 ht166).1, (And.intro ho166 ht166).2, by omega, by omega, by omega, by omega, c171, c173, trivial⟩
        exact p163.elim
  · have _q := h48
    refine jx_ld (pc_q := 22) (l_q := L42) (st_q := [rv (r7)]) rfl (jl_rvn g45) ?_
    refine cx_gi (pc_q := 25) (c := 6) (q := 0) (v := F6 (r7) (0 : Int)) rfl rfl (by decide) (by decide) (Or.inl rfl) rfl b11.1 b11.2 rfl ?_
    refine jx_ar (pc_q := 27) (st_q := [.int (i32 (6)), .int (i32 (F6 (r7) (0 : Int)))]) rfl rfl rfl rfl ?_
    refine jx_icmp_ne (pc_q := 30) (tg := 34) rfl rfl rfl (by omega) (by omega) (by decide) (by decide) (fun h177 => ?_) (fun h177 => ?_)
    · have _q := h177
      refine jx_ar (pc_q := 35) (st_q := [.int (i32 (0))]) rfl rfl rfl rfl ?_
      refine jx_ld (pc_q := 37) (l_q := jSto1 L42 4 (.int (i32 (0)))) (st_q := []) rfl rfl ?_
      obtain ⟨L178, eL178⟩ : ∃ q : jL, q = jSto1 L42 4 (.int (i32 (0))) := ⟨_, rfl⟩
      rw [← eL178]
      have g179 : jGet L178 0 = some (rv (me)) := eL178 ▸ jg_nr (by decide) g43
      have g180 : jGet L178 1 = some (.int (i32 (sz))) := eL178 ▸ jg_ne (by decide) g44 rfl
      have g181 : jGet L178 2 = some (rv (r7)) := eL178 ▸ jg_nr (by decide) g45
      have g182 : jGet L178 3 = some (.int (i32 (F (sc) (16 : Int)))) := eL178 ▸ jg_ne (by decide) g46 rfl
      have g183 : jGet L178 4 = some (.int (i32 (0))) := eL178 ▸ jg_eq
      clear eL178
      refine jx_ld (pc_q := 39) (l_q := L178) (st_q := [.int (i32 (0))]) rfl (jl_iload g183) ?_
      refine jx_if_eq (pc_q := 42) (tg := 50) rfl rfl rfl (by decide) (by decide) (fun h184 => ?_) (fun h184 => ?_)
      · have _q := h184
        refine jx_ld (pc_q := 51) (l_q := L178) (st_q := [rv (me)]) rfl (jl_rvn g179) ?_
        refine jx_ar (pc_q := 52) (st_q := [.int (i32 (4)), rv (me)]) rfl rfl rfl rfl ?_
        refine jx_ld (pc_q := 53) (l_q := L178) (st_q := [.int (i32 (F (sc) (16 : Int))), .int (i32 (4)), rv (me)]) rfl (jl_iloadn g182) ?_
        have q185 : F6 (sc) (8 : Int) = F (sc) (8 : Int) := (show F6 (sc) (8 : Int) = F (sc) (8 : Int) from hM10 _ _ o_sc (own_z o_sc) (by rw [t_sc]; rfl))
        have q186 : F6 (sc) (7 : Int) = F (sc) (7 : Int) := (show F6 (sc) (7 : Int) = F (sc) (7 : Int) from hM10 _ _ o_sc (own_z o_sc) (by rw [t_sc]; rfl))
        refine cx_vi (c := 8) (a := me) (st := []) (as := [.int (i32 (4)), .int (i32 (F (sc) (16 : Int)))]) rfl rfl rfl ho32.1 ho32.2 (by decide) rfl ⟨rfl, rfl, (Nat.le_of_ble_eq_true rfl)⟩ rfl (k_LParser_fail (dd := d) (R := R) (m := m5) (tg := tg5) (ln := ln5) (F := F6) (me := me) (kd := 4) (pl := F (sc) (16 : Int)) (hd := by omega) (hC := hC9) (o_me := ho32.1) (t_me := ho32.2) (h_kd := by omega) (h_pl := by omega) (sc := sc) (pg := pg) (o_sc := ho33.1) (t_sc := ho33.2) (e_sc := ((show F6 (me) (1 : Int) = F (me) (1 : Int) from hM10 _ _ o_me (own_z o_me) (by rw [t_me]; rfl)).trans e_sc)) (o_pg := ho34.1) (t_pg := ho34.2) (e_pg := ((show F6 (me) (0 : Int) = F (me) (0 : Int) from hM10 _ _ o_me (own_z o_me) (by rw [t_me]; rfl)).trans e_pg)) (p_0 := by omega) (p_1 := by omega) (c_NP := c19)) (fun o V_q hq => ?_)
        obtain ⟨m187, tg187, ln187, F188, rfl, rfl, hx189, hC190, hM191, p192, c193, c194, -⟩ | ⟨m195, tg195, ln195, F195, x195, rfl, rfl, hx195, hC195, hM195, ho195, ht195, p196, p197, p198, p199, c200, c201, -⟩ := hq
        rotate_left
        ·
          have c202 : NM m m195 tg195 := NM_t c36 hx195 c201
          have lm203 := hx195.1
          refine Or.inr (Or.inr (Or.inr ⟨_, _, rfl, cx_exc (c := 15) ho195 ht195 (by decide), rfl, ?_⟩))
          have q204 : F6 (sc) (8 : Int) = F (sc) (8 : Int) := (show F6 (sc) (8 : Int) = F (sc) (8 : Int) from hM10 _ _ o_sc (own_z o_sc) (by rw [t_sc]; rfl))
          have q205 : F6 (sc) (7 : Int) = F (sc) (7 : Int) := (show F6 (sc) (7 : Int) = F (sc) (7 : Int) from hM10 _ _ o_sc (own_z o_sc) (by rw [t_sc]; rfl))
          exact Or.inr ⟨m195, tg195, ln195, F195, x195, rfl, rfl, Ex_t hX35 hx195, hC195, Fq_t (ln := ln) (ln1 := ln5) hM30 hX35 hM195 (by decide) (Or.inl rfl), (And.intro ho195 ht195).1, (And.intro ho195 ht195).2, by omega, by omega, by omega, by omega, c200, c202, trivial⟩
        exact p192.elim
      · have _q := h184
        exact absurd h184 (by omega)
    · have _q := h177
      refine jx_ar (pc_q := 31) (st_q := [.int (i32 (1))]) rfl rfl rfl rfl ?_
      refine jx_go (tg := 35) rfl rfl ?_
      refine jx_ld (pc_q := 37) (l_q := jSto1 L42 4 (.int (i32 (1)))) (st_q := []) rfl rfl ?_
      obtain ⟨L206, eL206⟩ : ∃ q : jL, q = jSto1 L42 4 (.int (i32 (1))) := ⟨_, rfl⟩
      rw [← eL206]
      have g207 : jGet L206 0 = some (rv (me)) := eL206 ▸ jg_nr (by decide) g43
      have g208 : jGet L206 1 = some (.int (i32 (sz))) := eL206 ▸ jg_ne (by decide) g44 rfl
      have g209 : jGet L206 2 = some (rv (r7)) := eL206 ▸ jg_nr (by decide) g45
      have g210 : jGet L206 3 = some (.int (i32 (F (sc) (16 : Int)))) := eL206 ▸ jg_ne (by decide) g46 rfl
      have g211 : jGet L206 4 = some (.int (i32 (1))) := eL206 ▸ jg_eq
      clear eL206
      refine jx_ld (pc_q := 39) (l_q := L206) (st_q := [.int (i32 (1))]) rfl (jl_iload g211) ?_
      refine jx_if_eq (pc_q := 42) (tg := 50) rfl rfl rfl (by decide) (by decide) (fun h212 => ?_) (fun h212 => ?_)
      · have _q := h212
        exact absurd h212 (by omega)
      · have _q := h212
        refine jx_ld (pc_q := 43) (l_q := L206) (st_q := [rv (r7)]) rfl (jl_rvn g209) ?_
        refine cx_gi (pc_q := 46) (c := 6) (q := 3) (v := F6 (r7) (3 : Int)) rfl rfl (by decide) (by decide) (Or.inl rfl) rfl b11.1 b11.2 rfl ?_
        have b213 : (-2147483648 : Int) ≤ F6 (r7) (3 : Int) ∧ F6 (r7) (3 : Int) ≤ 2147483647 := by have z := HC_i (c := 6) (q := 3) hC9 b11.1 b11.2 (by decide) rfl; rw [show F6 (r7) ((3 : Nat) : Int) = F6 (r7) (3 : Int) from rfl] at z; exact z
        refine jx_ld (pc_q := 47) (l_q := L206) (st_q := [.int (i32 (sz)), .int (i32 (F6 (r7) (3 : Int)))]) rfl (jl_iloadn g208) ?_
        refine jx_icmp_eq (pc_q := 50) (tg := 56) rfl rfl rfl (by omega) (by omega) (by omega) (by omega) (fun h214 => ?_) (fun h214 => ?_)
        · have _q := h214
          refine jx_ld (pc_q := 57) (l_q := L206) (st_q := [rv (me)]) rfl (jl_rvn g207) ?_
          refine jx_ld (pc_q := 58) (l_q := L206) (st_q := [rv (r7), rv (me)]) rfl (jl_rvn g209) ?_
          have q215 : F6 (sc) (8 : Int) = F (sc) (8 : Int) := (show F6 (sc) (8 : Int) = F (sc) (8 : Int) from hM10 _ _ o_sc (own_z o_sc) (by rw [t_sc]; rfl))
          have q216 : F6 (sc) (15 : Int) = F (sc) (15 : Int) := (show F6 (sc) (15 : Int) = F (sc) (15 : Int) from hM10 _ _ o_sc (own_z o_sc) (by rw [t_sc]; rfl))
          have q217 : tz (F6 (sc) (15 : Int)) = tz (F (sc) (15 : Int)) := by rw [q216]
          have q218 := tz_b (F (sc) (15 : Int))
          have q219 : F6 (sc) (7 : Int) = F (sc) (7 : Int) := (show F6 (sc) (7 : Int) = F (sc) (7 : Int) from hM10 _ _ o_sc (own_z o_sc) (by rw [t_sc]; rfl))
          have q220 : F6 (sc) (14 : Int) = F (sc) (14 : Int) := (show F6 (sc) (14 : Int) = F (sc) (14 : Int) from hM10 _ _ o_sc (own_z o_sc) (by rw [t_sc]; rfl))
          have q221 : lz (F6 (sc) (14 : Int)) = lz (F (sc) (14 : Int)) := by rw [q220]
          have q222 := lz_b (F (sc) (14 : Int))
          have q223 : F6 (pg) (9 : Int) = F (pg) (9 : Int) := (show F6 (pg) (9 : Int) = F (pg) (9 : Int) from hM10 _ _ o_pg (own_z o_pg) (by rw [t_pg]; rfl))
          refine cx_vi (c := 8) (a := me) (st := []) (as := [rv (r7)]) rfl rfl rfl ho32.1 ho32.2 (by decide) rfl ⟨rfl, rfl, (Nat.le_of_ble_eq_true rfl)⟩ rfl (k_LParser_newPart (dd := d) (R := R) (m := m5) (tg := tg5) (ln := ln5) (F := F6) (me := me) (nm := r7) (hd := by omega) (hC := hC9) (o_me := ho32.1) (t_me := ho32.2) (o_nm := b11.1) (t_nm := b11.2) (sc := sc) (pg := pg) (o_sc := ho33.1) (t_sc := ho33.2) (e_sc := ((show F6 (me) (1 : Int) = F (me) (1 : Int) from hM10 _ _ o_me (own_z o_me) (by rw [t_me]; rfl)).trans e_sc)) (o_pg := ho34.1) (t_pg := ho34.2) (e_pg := ((show F6 (me) (0 : Int) = F (me) (0 : Int) from hM10 _ _ o_me (own_z o_me) (by rw [t_me]; rfl)).trans e_pg)) (p_0 := by omega) (p_1 := by omega) (p_2 := by omega) (c_NP := c19)) (fun o V_q hq => ?_)
          obtain ⟨m224, tg224, ln224, F225, r226, rfl, rfl, hx227, hC228, hM229, b230, p231, p232, p233, p234, p235, p236, p237, p238, p239, p240, p241, p242, p243, c244, c245, -⟩ := hq
          have hM246 : Fq 0 [(10, 0), (10, 1), (10, 2), (10, 9), (11, 8), (11, 12), (11, 13), (11, 14), (11, 15), (11, 16), (11, 17), (11, 18)] m tg F F225 := Fq_t (ln := ln) (ln1 := ln5) hM30 hX35 hM229 (by decide) (Or.inl rfl)
          have lm247 := hx227.1
          have lt248 : r7 < 64 + (m5 : Int) := b11.1.2.1
          have ho249 : own m224 (me) ∧ tg224 (me) = 9 := Ex_o hx227 ⟨ho32.1, ho32.2⟩
          have ho250 : own m224 (r7) ∧ tg224 (r7) = 7 := Ex_o hx227 ⟨b11.1, b11.2⟩
          have ho251 : own m224 (sc) ∧ tg224 (sc) = 11 := Ex_o hx227 ⟨ho33.1, ho33.2⟩
          have ho252 : own m224 (pg) ∧ tg224 (pg) = 10 := Ex_o hx227 ⟨ho34.1, ho34.2⟩
          have hX253 := Ex_t hX35 hx227
          have q254 := p239.1
          have q255 := p239.2.1
          have q256 := p239.2.2.1
          have c257 : NM m m224 tg224 := NM_t c36 hx227 c245
          refine Or.inr (Or.inl ⟨_, rfl, ?_⟩)
          refine jx_ld (pc_q := 63) (l_q := jSto1 L206 5 (rv (r226))) (st_q := []) rfl (js_rv (by decide)) ?_
          obtain ⟨L258, eL258⟩ : ∃ q : jL, q = jSto1 L206 5 (rv (r226)) := ⟨_, rfl⟩
          rw [← eL258]
          have g259 : jGet L258 0 = some (rv (me)) := eL258 ▸ jg_nr (by decide) g207
          have g260 : jGet L258 1 = some (.int (i32 (sz))) := eL258 ▸ jg_ne (by decide) g208 rfl
          have g261 : jGet L258 2 = some (rv (r7)) := eL258 ▸ jg_nr (by decide) g209
          have g262 : jGet L258 3 = some (.int (i32 (F (sc) (16 : Int)))) := eL258 ▸ jg_ne (by decide) g210 rfl
          have g263 : jGet L258 4 = some (.int (i32 (1))) := eL258 ▸ jg_ne (by decide) g211 rfl
          have g264 : jGet L258 5 = some (rv (r226)) := eL258 ▸ jg_eq
          clear eL258
          refine jx_ld (pc_q := 64) (l_q := L258) (st_q := [rv (me)]) rfl (jl_rvn g259) ?_
          refine cx_gr (pc_q := 67) (c := 8) (q := 1) (v := sc) rfl rfl (by decide) (by decide) rfl rfl ho249.1 ho249.2 (((show F225 (me) (1 : Int) = F6 (me) (1 : Int) from hM229 _ _ ho32.1 (own_z ho32.1) (by rw [ho32.2]; rfl)).trans (show F6 (me) (1 : Int) = F (me) (1 : Int) from hM10 _ _ o_me (own_z o_me) (by rw [t_me]; rfl))).trans e_sc) ?_
          have q265 : F225 (sc) (8 : Int) = F (sc) (8 : Int) := ((show F225 (sc) (8 : Int) = F6 (sc) (8 : Int) from hM229 _ _ ho33.1 (own_z ho33.1) (by rw [ho33.2]; rfl)).trans (show F6 (sc) (8 : Int) = F (sc) (8 : Int) from hM10 _ _ o_sc (own_z o_sc) (by rw [t_sc]; rfl)))
          have q266 : F225 (sc) (15 : Int) = F (sc) (15 : Int) := ((show F225 (sc) (15 : Int) = F6 (sc) (15 : Int) from hM229 _ _ ho33.1 (own_z ho33.1) (by rw [ho33.2]; rfl)).trans (show F6 (sc) (15 : Int) = F (sc) (15 : Int) from hM10 _ _ o_sc (own_z o_sc) (by rw [t_sc]; rfl)))
          have q267 : tz (F225 (sc) (15 : Int)) = tz (F (sc) (15 : Int)) := by rw [q266]
          have q268 := tz_b (F (sc) (15 : Int))
          have q269 : F225 (sc) (7 : Int) = F (sc) (7 : Int) := ((show F225 (sc) (7 : Int) = F6 (sc) (7 : Int) from hM229 _ _ ho33.1 (own_z ho33.1) (by rw [ho33.2]; rfl)).trans (show F6 (sc) (7 : Int) = F (sc) (7 : Int) from hM10 _ _ o_sc (own_z o_sc) (by rw [t_sc]; rfl)))
          have q270 : F225 (sc) (14 : Int) = F (sc) (14 : Int) := ((show F225 (sc) (14 : Int) = F6 (sc) (14 : Int) from hM229 _ _ ho33.1 (own_z ho33.1) (by rw [ho33.2]; rfl)).trans (show F6 (sc) (14 : Int) = F (sc) (14 : Int) from hM10 _ _ o_sc (own_z o_sc) (by rw [t_sc]; rfl)))
          have q271 : lz (F225 (sc) (14 : Int)) = lz (F (sc) (14 : Int)) := by rw [q270]
          have q272 := lz_b (F (sc) (14 : Int))
          refine cx_vi (c := 10) (a := sc) (st := []) (as := []) rfl rfl rfl ho251.1 ho251.2 (by decide) rfl ⟨rfl, rfl, (Nat.le_of_ble_eq_true rfl)⟩ rfl (k_LScanner_next (dd := d) (R := R) (m := m224) (tg := tg224) (ln := ln224) (F := F225) (me := sc) (hd := by omega) (hC := hC228) (o_me := ho251.1) (t_me := ho251.2) (p_0 := by omega) (p_1 := by omega)) (fun o V_q hq => ?_)
          obtain ⟨F273, rfl, rfl, hC274, hM275, p276, p277, p278, -⟩ := hq
          have hM279 : Fq 0 [(10, 0), (10, 1), (10, 2), (10, 9), (11, 8), (11, 12), (11, 13), (11, 14), (11, 15), (11, 16), (11, 17), (11, 18)] m tg F F273 := Fq_t (ln := ln) (ln1 := ln224) hM246 hX253 hM275 (by decide) (Or.inl rfl)
          have w280 : WK F273 r226 (1) := WK_q p239 hC228 b230.1 b230.2 hM275 rfl
          have c281 : NP m224 tg224 F273 := NP_q hC228 c244 hM275 rfl rfl
          refine Or.inl ⟨rfl, ?_⟩
          refine jx_ld (pc_q := 71) (l_q := L258) (st_q := [rv (me)]) rfl (jl_rvn g259) ?_
          refine cx_gr (pc_q := 74) (c := 8) (q := 1) (v := sc) rfl rfl (by decide) (by decide) rfl rfl ho249.1 ho249.2 (((show F273 (me) (1 : Int) = F225 (me) (1 : Int) from hM275 _ _ ho249.1 (own_z ho249.1) (by rw [ho249.2]; rfl)).trans ((show F225 (me) (1 : Int) = F6 (me) (1 : Int) from hM229 _ _ ho32.1 (own_z ho32.1) (by rw [ho32.2]; rfl)).trans (show F6 (me) (1 : Int) = F (me) (1 : Int) from hM10 _ _ o_me (own_z o_me) (by rw [t_me]; rfl)))).trans e_sc) ?_
          refine cx_gi (pc_q := 77) (c := 10) (q := 15) (v := F273 (sc) (15 : Int)) rfl rfl (by decide) (by decide) (Or.inl rfl) rfl ho251.1 ho251.2 rfl ?_
          have b282 : (-2147483648 : Int) ≤ F273 (sc) (15 : Int) ∧ F273 (sc) (15 : Int) ≤ 2147483647 := by have z := HC_i (c := 10) (q := 15) hC274 ho251.1 ho251.2 (by decide) rfl; rw [show F273 (sc) ((15 : Nat) : Int) = F273 (sc) (15 : Int) from rfl] at z; exact z
          refine jx_ar (pc_q := 79) (st_q := [.int (i32 (56)), .int (i32 (F273 (sc) (15 : Int)))]) rfl rfl rfl rfl ?_
          refine jx_icmp_ne (pc_q := 82) (tg := 88) rfl rfl rfl (by omega) (by omega) (by decide) (by decide) (fun h283 => ?_) (fun h283 => ?_)
          · have _q := h283
            refine jx_ld (pc_q := 90) (l_q := L258) (st_q := [rv (r226)]) rfl (jl_rv g264) ?_
            refine jx_rt (v := some (rv (r226))) rfl rfl rfl rfl rfl jr_are ?_
            have q284 : F273 (sc) (7 : Int) = F (sc) (7 : Int) := ((show F273 (sc) (7 : Int) = F225 (sc) (7 : Int) from hM275 _ _ ho251.1 (own_z ho251.1) (by rw [ho251.2]; rfl)).trans ((show F225 (sc) (7 : Int) = F6 (sc) (7 : Int) from hM229 _ _ ho33.1 (own_z ho33.1) (by rw [ho33.2]; rfl)).trans (show F6 (sc) (7 : Int) = F (sc) (7 : Int) from hM10 _ _ o_sc (own_z o_sc) (by rw [t_sc]; rfl))))
            have q285 : F273 (pg) (9 : Int) = F225 (pg) (9 : Int) := (show F273 (pg) (9 : Int) = F225 (pg) (9 : Int) from hM275 _ _ ho252.1 (own_z ho252.1) (by rw [ho252.2]; rfl))
            have q286 : F273 (me) (3 : Int) = F (me) (3 : Int) := ((show F273 (me) (3 : Int) = F225 (me) (3 : Int) from hM275 _ _ ho249.1 (own_z ho249.1) (by rw [ho249.2]; rfl)).trans ((show F225 (me) (3 : Int) = F6 (me) (3 : Int) from hM229 _ _ ho32.1 (own_z ho32.1) (by rw [ho32.2]; rfl)).trans (show F6 (me) (3 : Int) = F (me) (3 : Int) from hM10 _ _ o_me (own_z o_me) (by rw [t_me]; rfl))))
            have q287 := tz_b (F273 (sc) (15 : Int))
            have q288 := lz_b (F273 (sc) (14 : Int))
            have q289 : F273 (pg) (9 : Int) = F225 (pg) (9 : Int) := (show F273 (pg) (9 : Int) = F225 (pg) (9 : Int) from hM275 _ _ ho252.1 (own_z ho252.1) (by rw [ho252.2]; rfl))
            have q290 : F273 (r226) (0 : Int) = F225 (r226) (0 : Int) := (show F273 (r226) (0 : Int) = F225 (r226) (0 : Int) from hM275 _ _ b230.1 (own_z b230.1) (by rw [b230.2]; rfl))
            have q291 : F273 (me) (3 : Int) = F (me) (3 : Int) := ((show F273 (me) (3 : Int) = F225 (me) (3 : Int) from hM275 _ _ ho249.1 (own_z ho249.1) (by rw [ho249.2]; rfl)).trans ((show F225 (me) (3 : Int) = F6 (me) (3 : Int) from hM229 _ _ ho32.1 (own_z ho32.1) (by rw [ho32.2]; rfl)).trans (show F6 (me) (3 : Int) = F (me) (3 : Int) from hM10 _ _ o_me (own_z o_me) (by rw [t_me]; rfl))))
            have q292 : F273 (r226) (3 : Int) = F225 (r226) (3 : Int) := (show F273 (r226) (3 : Int) = F225 (r226) (3 : Int) from hM275 _ _ b230.1 (own_z b230.1) (by rw [b230.2]; rfl))
            exact Or.inl ⟨m224, tg224, ln224, F273, (r226), rfl, rfl, hX253, hC274, hM279, ⟨b230.1, b230.2⟩, by omega, by omega, by omega, by omega, by omega, by omega, by omega, by omega, (WK_m w280 (by omega)), by omega, by omega, by omega, c281, c257, trivial⟩
          · have _q := h283
            have t293 : tz (F273 (sc) (15 : Int)) = 1 := tz_p (by omega)
            refine jx_ld (pc_q := 83) (l_q := L258) (st_q := [rv (me)]) rfl (jl_rvn g259) ?_
            refine jx_ar (pc_q := 84) (st_q := [.int (i32 (4)), rv (me)]) rfl rfl rfl rfl ?_
            refine jx_ld (pc_q := 85) (l_q := L258) (st_q := [.int (i32 (F (sc) (16 : Int))), .int (i32 (4)), rv (me)]) rfl (jl_iloadn g262) ?_
            have q294 : F273 (sc) (7 : Int) = F (sc) (7 : Int) := ((show F273 (sc) (7 : Int) = F225 (sc) (7 : Int) from hM275 _ _ ho251.1 (own_z ho251.1) (by rw [ho251.2]; rfl)).trans ((show F225 (sc) (7 : Int) = F6 (sc) (7 : Int) from hM229 _ _ ho33.1 (own_z ho33.1) (by rw [ho33.2]; rfl)).trans (show F6 (sc) (7 : Int) = F (sc) (7 : Int) from hM10 _ _ o_sc (own_z o_sc) (by rw [t_sc]; rfl))))
            refine cx_vi (c := 8) (a := me) (st := []) (as := [.int (i32 (4)), .int (i32 (F (sc) (16 : Int)))]) rfl rfl rfl ho249.1 ho249.2 (by decide) rfl ⟨rfl, rfl, (Nat.le_of_ble_eq_true rfl)⟩ rfl (k_LParser_fail (dd := d) (R := R) (m := m224) (tg := tg224) (ln := ln224) (F := F273) (me := me) (kd := 4) (pl := F (sc) (16 : Int)) (hd := by omega) (hC := hC274) (o_me := ho249.1) (t_me := ho249.2) (h_kd := by omega) (h_pl := by omega) (sc := sc) (pg := pg) (o_sc := ho251.1) (t_sc := ho251.2) (e_sc := (((show F273 (me) (1 : Int) = F225 (me) (1 : Int) from hM275 _ _ ho249.1 (own_z ho249.1) (by rw [ho249.2]; rfl)).trans ((show F225 (me) (1 : Int) = F6 (me) (1 : Int) from hM229 _ _ ho32.1 (own_z ho32.1) (by rw [ho32.2]; rfl)).trans (show F6 (me) (1 : Int) = F (me) (1 : Int) from hM10 _ _ o_me (own_z o_me) (by rw [t_me]; rfl)))).trans e_sc)) (o_pg := ho252.1) (t_pg := ho252.2) (e_pg := (((show F273 (me) (0 : Int) = F225 (me) (0 : Int) from hM275 _ _ ho249.1 (own_z ho249.1) (by rw [ho249.2]; rfl)).trans ((show F225 (me) (0 : Int) = F6 (me) (0 : Int) from hM229 _ _ ho32.1 (own_z ho32.1) (by rw [ho32.2]; rfl)).trans (show F6 (me) (0 : Int) = F (me) (0 : Int) from hM10 _ _ o_me (own_z o_me) (by rw [t_me]; rfl)))).trans e_pg)) (p_0 := by omega) (p_1 := by omega) (c_NP := c281)) (fun o V_q hq => ?_)
            obtain ⟨m295, tg295, ln295, F296, rfl, rfl, hx297, hC298, hM299, p300, c301, c302, -⟩ | ⟨m303, tg303, ln303, F303, x303, rfl, rfl, hx303, hC303, hM303, ho303, ht303, p304, p305, p306, p307, c308, c309, -⟩ := hq
            rotate_left
            ·
              have c310 : NM m m303 tg303 := NM_t c257 hx303 c309
              have lm311 := hx303.1
              refine Or.inr (Or.inr (Or.inr ⟨_, _, rfl, cx_exc (c := 15) ho303 ht303 (by decide), rfl, ?_⟩))
              have q312 : F273 (sc) (7 : Int) = F (sc) (7 : Int) := ((show F273 (sc) (7 : Int) = F225 (sc) (7 : Int) from hM275 _ _ ho251.1 (own_z ho251.1) (by rw [ho251.2]; rfl)).trans ((show F225 (sc) (7 : Int) = F6 (sc) (7 : Int) from hM229 _ _ ho33.1 (own_z ho33.1) (by rw [ho33.2]; rfl)).trans (show F6 (sc) (7 : Int) = F (sc) (7 : Int) from hM10 _ _ o_sc (own_z o_sc) (by rw [t_sc]; rfl))))
              exact Or.inr ⟨m303, tg303, ln303, F303, x303, rfl, rfl, Ex_t hX253 hx303, hC303, Fq_t (ln := ln) (ln1 := ln224) hM279 hX253 hM303 (by decide) (Or.inl rfl), (And.intro ho303 ht303).1, (And.intro ho303 ht303).2, by omega, by omega, by omega, by omega, c308, c310, trivial⟩
            exact p300.elim
        · have _q := h214
          refine jx_ld (pc_q := 51) (l_q := L206) (st_q := [rv (me)]) rfl (jl_rvn g207) ?_
          refine jx_ar (pc_q := 52) (st_q := [.int (i32 (4)), rv (me)]) rfl rfl rfl rfl ?_
          refine jx_ld (pc_q := 53) (l_q := L206) (st_q := [.int (i32 (F (sc) (16 : Int))), .int (i32 (4)), rv (me)]) rfl (jl_iloadn g210) ?_
          have q313 : F6 (sc) (8 : Int) = F (sc) (8 : Int) := (show F6 (sc) (8 : Int) = F (sc) (8 : Int) from hM10 _ _ o_sc (own_z o_sc) (by rw [t_sc]; rfl))
          have q314 : F6 (sc) (7 : Int) = F (sc) (7 : Int) := (show F6 (sc) (7 : Int) = F (sc) (7 : Int) from hM10 _ _ o_sc (own_z o_sc) (by rw [t_sc]; rfl))
          refine cx_vi (c := 8) (a := me) (st := []) (as := [.int (i32 (4)), .int (i32 (F (sc) (16 : Int)))]) rfl rfl rfl ho32.1 ho32.2 (by decide) rfl ⟨rfl, rfl, (Nat.le_of_ble_eq_true rfl)⟩ rfl (k_LParser_fail (dd := d) (R := R) (m := m5) (tg := tg5) (ln := ln5) (F := F6) (me := me) (kd := 4) (pl := F (sc) (16 : Int)) (hd := by omega) (hC := hC9) (o_me := ho32.1) (t_me := ho32.2) (h_kd := by omega) (h_pl := by omega) (sc := sc) (pg := pg) (o_sc := ho33.1) (t_sc := ho33.2) (e_sc := ((show F6 (me) (1 : Int) = F (me) (1 : Int) from hM10 _ _ o_me (own_z o_me) (by rw [t_me]; rfl)).trans e_sc)) (o_pg := ho34.1) (t_pg := ho34.2) (e_pg := ((show F6 (me) (0 : Int) = F (me) (0 : Int) from hM10 _ _ o_me (own_z o_me) (by rw [t_me]; rfl)).trans e_pg)) (p_0 := by omega) (p_1 := by omega) (c_NP := c19)) (fun o V_q hq => ?_)
          obtain ⟨m315, tg315, ln315, F316, rfl, rfl, hx317, hC318, hM319, p320, c321, c322, -⟩ | ⟨m323, tg323, ln323, F323, x323, rfl, rfl, hx323, hC323, hM323, ho323, ht323, p324, p325, p326, p327, c328, c329, -⟩ := hq
          rotate_left
          ·
            have c330 : NM m m323 tg323 := NM_t c36 hx323 c329
            have lm331 := hx323.1
            refine Or.inr (Or.inr (Or.inr ⟨_, _, rfl, cx_exc (c := 15) ho323 ht323 (by decide), rfl, ?_⟩))
            have q332 : F6 (sc) (8 : Int) = F (sc) (8 : Int) := (show F6 (sc) (8 : Int) = F (sc) (8 : Int) from hM10 _ _ o_sc (own_z o_sc) (by rw [t_sc]; rfl))
            have q333 : F6 (sc) (7 : Int) = F (sc) (7 : Int) := (show F6 (sc) (7 : Int) = F (sc) (7 : Int) from hM10 _ _ o_sc (own_z o_sc) (by rw [t_sc]; rfl))
            exact Or.inr ⟨m323, tg323, ln323, F323, x323, rfl, rfl, Ex_t hX35 hx323, hC323, Fq_t (ln := ln) (ln1 := ln5) hM30 hX35 hM323 (by decide) (Or.inl rfl), (And.intro ho323 ht323).1, (And.intro ho323 ht323).2, by omega, by omega, by omega, by omega, c328, c330, trivial⟩
          exact p320.elim
