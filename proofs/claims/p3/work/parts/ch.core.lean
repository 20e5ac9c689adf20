set_option maxRecDepth 20000 in
set_option maxHeartbeats 4000000 in
theorem k_LMachine_coreAt {X : jX} {dd : Nat} {R : Nat → jC} {m : Nat} {tg ln : Int → Int} {F : Int → Int → Int} {me a0 : Int} (hd : 1 ≤ dd) (hC : HC 0 m tg ln F) (o_me : own m me) (t_me : tg me = 6) (h_a0 : (-2147483648 : Int) ≤ a0 ∧ a0 ≤ 2147483647) : wk X dd 143 [rv me, .int (i32 a0)] (cV R m tg ln F) (fun o V_q => ∃ (r : Int), V_q = cV R m tg ln F ∧ o = .inl (some (rv r)) ∧ (r = 0 ∨ (own m r ∧ tg r = 3)) ∧ True) := by
  obtain ⟨d, rfl⟩ : ∃ d, dd = d + 1 := ⟨dd - 1, by omega⟩
  refine wk_of (e := jm143) rfl (by rw [jS_r, jS_i, jS_0]; exact Nat.le_of_ble_eq_true rfl) ?_
  rw [la_r, la_i, la_0]
  show wj X d jm143 (0, [(0, rv (me)), (1, .int (i32 (a0)))], [], cV R m tg ln F) _
  obtain ⟨L0, eL0⟩ : ∃ q : jL, q = [(0, rv (me)), (1, .int (i32 (a0)))] := ⟨_, rfl⟩
  rw [← eL0]
  have g1 : jGet L0 0 = some (rv (me)) := eL0 ▸ (rfl : jGet [(0, rv (me)), (1, .int (i32 (a0)))] 0 = some (rv (me)))
  have g2 : jGet L0 1 = some (.int (i32 (a0))) := eL0 ▸ (rfl : jGet [(0, rv (me)), (1, .int (i32 (a0)))] 1 = some (.int (i32 (a0))))
  clear eL0
  refine jx_ld (pc_q := 1) (l_q := L0) (st_q := [.int (i32 (a0))]) rfl (jl_iloadn g2) ?_
  refine jx_if_lt (pc_q := 4) (tg := 22) rfl rfl rfl (by omega) (by omega) (fun h3 => ?_) (fun h3 => ?_)
  · have _q := h3
    refine jx_ar (pc_q := 23) (st_q := .null :: []) rfl rfl rfl rfl ?_
    rw [← rv_0]
    refine jx_rt (v := some (rv (0))) rfl rfl rfl rfl rfl jr_are ?_
    exact ⟨(0), rfl, rfl, (Or.inl rfl), trivial⟩
  · have _q := h3
    refine jx_ld (pc_q := 5) (l_q := L0) (st_q := [.int (i32 (a0))]) rfl (jl_iloadn g2) ?_
    refine jx_ld (pc_q := 6) (l_q := L0) (st_q := [rv (me), .int (i32 (a0))]) rfl (jl_rvn g1) ?_
    refine cx_gr (pc_q := 9) (c := 5) (q := 1) (v := F (me) (1 : Int)) rfl rfl (by decide) (by decide) rfl rfl o_me t_me rfl ?_
    have y4 : own m (F (me) (1 : Int)) ∧ tg (F (me) (1 : Int)) = 27 ∧ ((6 : Int) ≠ 0 → ln (F (me) (1 : Int)) = 6) := by have z := HC_n (c := 5) (q := 1) hC o_me t_me (own_z o_me) (by decide) rfl; rw [show F (me) ((1 : Nat) : Int) = F (me) (1 : Int) from rfl] at z; exact ⟨z.1, z.2.1, z.2.2.1⟩
    have ly4 : ln (F (me) (1 : Int)) = 6 := y4.2.2 (by decide)
    have b5 := HC_l hC y4.1 y4.2.1 (by decide)
    refine cx_len (pc_q := 10) rfl rfl y4.1 (by rw [y4.2.1]; decide) (by omega) ?_
    refine jx_icmp_ge (pc_q := 13) (tg := 22) rfl rfl rfl (by omega) (by omega) (by omega) (by omega) (fun h6 => ?_) (fun h6 => ?_)
    · have _q := h6
      refine jx_ar (pc_q := 23) (st_q := .null :: []) rfl rfl rfl rfl ?_
      rw [← rv_0]
      refine jx_rt (v := some (rv (0))) rfl rfl rfl rfl rfl jr_are ?_
      exact ⟨(0), rfl, rfl, (Or.inl rfl), trivial⟩
    · have _q := h6
      refine jx_ld (pc_q := 14) (l_q := L0) (st_q := [rv (me)]) rfl (jl_rvn g1) ?_
      refine cx_gr (pc_q := 17) (c := 5) (q := 1) (v := F (me) (1 : Int)) rfl rfl (by decide) (by decide) rfl rfl o_me t_me rfl ?_
      refine jx_ld (pc_q := 18) (l_q := L0) (st_q := [.int (i32 (a0)), rv (F (me) (1 : Int))]) rfl (jl_iloadn g2) ?_
      refine cx_aal (pc_q := 19) (z := a0) rfl rfl y4.1 (by rw [y4.2.1]; decide) (by omega) (by omega) (by omega) ?_
      have y7 : F (F (me) (1 : Int)) (a0) = 0 ∨ (own m (F (F (me) (1 : Int)) (a0)) ∧ tg (F (F (me) (1 : Int)) (a0)) = 3) := by have z := HC_er (j := a0) hC y4.1 y4.2.1 (by decide) (by omega); exact z
      refine jx_go (tg := 23) rfl rfl ?_
      refine jx_rt (v := some (rv (F (F (me) (1 : Int)) (a0)))) rfl rfl rfl rfl rfl jr_are ?_
      exact ⟨(F (F (me) (1 : Int)) (a0)), rfl, rfl, y7, trivial⟩
set_option maxRecDepth 20000 in
set_option maxHeartbeats 4000000 in
theorem k_LMachine_linkAt {X : jX} {dd : Nat} {R : Nat → jC} {m : Nat} {tg ln : Int → Int} {F : Int → Int → Int} {me a0 : Int} (hd : 1 ≤ dd) (hC : HC 0 m tg ln F) (o_me : own m me) (t_me : tg me = 6) (h_a0 : (-2147483648 : Int) ≤ a0 ∧ a0 ≤ 2147483647) : wk X dd 144 [rv me, .int (i32 a0)] (cV R m tg ln F) (fun o V_q => ∃ (r : Int), V_q = cV R m tg ln F ∧ o = .inl (some (rv r)) ∧ (r = 0 ∨ (own m r ∧ tg r = 5)) ∧ True) := by
  obtain ⟨d, rfl⟩ : ∃ d, dd = d + 1 := ⟨dd - 1, by omega⟩
  refine wk_of (e := jm144) rfl (by rw [jS_r, jS_i, jS_0]; exact Nat.le_of_ble_eq_true rfl) ?_
  rw [la_r, la_i, la_0]
  show wj X d jm144 (0, [(0, rv (me)), (1, .int (i32 (a0)))], [], cV R m tg ln F) _
  obtain ⟨L0, eL0⟩ : ∃ q : jL, q = [(0, rv (me)), (1, .int (i32 (a0)))] := ⟨_, rfl⟩
  rw [← eL0]
  have g1 : jGet L0 0 = some (rv (me)) := eL0 ▸ (rfl : jGet [(0, rv (me)), (1, .int (i32 (a0)))] 0 = some (rv (me)))
  have g2 : jGet L0 1 = some (.int (i32 (a0))) := eL0 ▸ (rfl : jGet [(0, rv (me)), (1, .int (i32 (a0)))] 1 = some (.int (i32 (a0))))
  clear eL0
  refine jx_ld (pc_q := 1) (l_q := L0) (st_q := [.int (i32 (a0))]) rfl (jl_iloadn g2) ?_
  refine jx_if_lt (pc_q := 4) (tg := 39) rfl rfl rfl (by omega) (by omega) (fun h3 => ?_) (fun h3 => ?_)
  · have _q := h3
    refine jx_ar (pc_q := 40) (st_q := .null :: []) rfl rfl rfl rfl ?_
    rw [← rv_0]
    refine jx_rt (v := some (rv (0))) rfl rfl rfl rfl rfl jr_are ?_
    exact ⟨(0), rfl, rfl, (Or.inl rfl), trivial⟩
  · have _q := h3
    refine jx_ld (pc_q := 5) (l_q := L0) (st_q := [.int (i32 (a0))]) rfl (jl_iloadn g2) ?_
    refine jx_ld (pc_q := 6) (l_q := L0) (st_q := [rv (me), .int (i32 (a0))]) rfl (jl_rvn g1) ?_
    refine cx_gr (pc_q := 9) (c := 5) (q := 0) (v := F (me) (0 : Int)) rfl rfl (by decide) (by decide) rfl rfl o_me t_me rfl ?_
    have y4 : own m (F (me) (0 : Int)) ∧ tg (F (me) (0 : Int)) = 10 ∧ ((0 : Int) ≠ 0 → ln (F (me) (0 : Int)) = 0) := by have z := HC_n (c := 5) (q := 0) hC o_me t_me (own_z o_me) (by decide) rfl; rw [show F (me) ((0 : Nat) : Int) = F (me) (0 : Int) from rfl] at z; exact ⟨z.1, z.2.1, z.2.2.1⟩
    refine cx_gi (pc_q := 12) (c := 9) (q := 7) (v := F (F (me) (0 : Int)) (7 : Int)) rfl rfl (by decide) (by decide) (Or.inl rfl) rfl y4.1 y4.2.1 rfl ?_
    have b5 : (0 : Int) ≤ F (F (me) (0 : Int)) (7 : Int) ∧ F (F (me) (0 : Int)) (7 : Int) ≤ 12 := by have z := HC_i (c := 9) (q := 7) hC y4.1 y4.2.1 (by decide) rfl; rw [show F (F (me) (0 : Int)) ((7 : Nat) : Int) = F (F (me) (0 : Int)) (7 : Int) from rfl] at z; exact z
    refine jx_icmp_ge (pc_q := 15) (tg := 39) rfl rfl rfl (by omega) (by omega) (by omega) (by omega) (fun h6 => ?_) (fun h6 => ?_)
    · have _q := h6
      refine jx_ar (pc_q := 40) (st_q := .null :: []) rfl rfl rfl rfl ?_
      rw [← rv_0]
      refine jx_rt (v := some (rv (0))) rfl rfl rfl rfl rfl jr_are ?_
      exact ⟨(0), rfl, rfl, (Or.inl rfl), trivial⟩
    · have _q := h6
      refine jx_ld (pc_q := 16) (l_q := L0) (st_q := [.int (i32 (a0))]) rfl (jl_iloadn g2) ?_
      refine jx_ld (pc_q := 17) (l_q := L0) (st_q := [rv (me), .int (i32 (a0))]) rfl (jl_rvn g1) ?_
      refine cx_gr (pc_q := 20) (c := 5) (q := 0) (v := F (me) (0 : Int)) rfl rfl (by decide) (by decide) rfl rfl o_me t_me rfl ?_
      refine cx_gr (pc_q := 23) (c := 9) (q := 6) (v := F (F (me) (0 : Int)) (6 : Int)) rfl rfl (by decide) (by decide) rfl rfl y4.1 y4.2.1 rfl ?_
      have y7 : own m (F (F (me) (0 : Int)) (6 : Int)) ∧ tg (F (F (me) (0 : Int)) (6 : Int)) = 26 ∧ ((12 : Int) ≠ 0 → ln (F (F (me) (0 : Int)) (6 : Int)) = 12) := by have z := HC_n (c := 9) (q := 6) hC y4.1 y4.2.1 (own_z y4.1) (by decide) rfl; rw [show F (F (me) (0 : Int)) ((6 : Nat) : Int) = F (F (me) (0 : Int)) (6 : Int) from rfl] at z; exact ⟨z.1, z.2.1, z.2.2.1⟩
      have ly7 : ln (F (F (me) (0 : Int)) (6 : Int)) = 12 := y7.2.2 (by decide)
      have b8 := HC_l hC y7.1 y7.2.1 (by decide)
      refine cx_len (pc_q := 24) rfl rfl y7.1 (by rw [y7.2.1]; decide) (by omega) ?_
      refine jx_icmp_ge (pc_q := 27) (tg := 39) rfl rfl rfl (by omega) (by omega) (by omega) (by omega) (fun h9 => ?_) (fun h9 => ?_)
      · have _q := h9
        refine jx_ar (pc_q := 40) (st_q := .null :: []) rfl rfl rfl rfl ?_
        rw [← rv_0]
        refine jx_rt (v := some (rv (0))) rfl rfl rfl rfl rfl jr_are ?_
        exact ⟨(0), rfl, rfl, (Or.inl rfl), trivial⟩
      · have _q := h9
        refine jx_ld (pc_q := 28) (l_q := L0) (st_q := [rv (me)]) rfl (jl_rvn g1) ?_
        refine cx_gr (pc_q := 31) (c := 5) (q := 0) (v := F (me) (0 : Int)) rfl rfl (by decide) (by decide) rfl rfl o_me t_me rfl ?_
        refine cx_gr (pc_q := 34) (c := 9) (q := 6) (v := F (F (me) (0 : Int)) (6 : Int)) rfl rfl (by decide) (by decide) rfl rfl y4.1 y4.2.1 rfl ?_
        refine jx_ld (pc_q := 35) (l_q := L0) (st_q := [.int (i32 (a0)), rv (F (F (me) (0 : Int)) (6 : Int))]) rfl (jl_iloadn g2) ?_
        refine cx_aal (pc_q := 36) (z := a0) rfl rfl y7.1 (by rw [y7.2.1]; decide) (by omega) (by omega) (by omega) ?_
        have y10 : F (F (F (me) (0 : Int)) (6 : Int)) (a0) = 0 ∨ (own m (F (F (F (me) (0 : Int)) (6 : Int)) (a0)) ∧ tg (F (F (F (me) (0 : Int)) (6 : Int)) (a0)) = 5) := by have z := HC_er (j := a0) hC y7.1 y7.2.1 (by decide) (by omega); exact z
        refine jx_go (tg := 40) rfl rfl ?_
        refine jx_rt (v := some (rv (F (F (F (me) (0 : Int)) (6 : Int)) (a0)))) rfl rfl rfl rfl rfl jr_are ?_
        exact ⟨(F (F (F (me) (0 : Int)) (6 : Int)) (a0)), rfl, rfl, y10, trivial⟩
set_option maxRecDepth 20000 in
set_option maxHeartbeats 4000000 in
theorem k_LMachine_hasInput {X : jX} {dd : Nat} {R : Nat → jC} {m : Nat} {tg ln : Int → Int} {F : Int → Int → Int} {me : Int} (hd : 1 ≤ dd) (hC : HC 0 m tg ln F) (o_me : own m me) (t_me : tg me = 6) : wk X dd 145 [rv me] (cV R m tg ln F) (fun o V_q => ∃ (r : Int), V_q = cV R m tg ln F ∧ o = .inl (some (.int (i32 r))) ∧ (0 ≤ r ∧ r ≤ 1) ∧ True) := by
  obtain ⟨d, rfl⟩ : ∃ d, dd = d + 1 := ⟨dd - 1, by omega⟩
  refine wk_of (e := jm145) rfl (by rw [jS_r, jS_0]; exact Nat.le_of_ble_eq_true rfl) ?_
  rw [la_r, la_0]
  show wj X d jm145 (0, [(0, rv (me))], [], cV R m tg ln F) _
  obtain ⟨L0, eL0⟩ : ∃ q : jL, q = [(0, rv (me))] := ⟨_, rfl⟩
  rw [← eL0]
  have g1 : jGet L0 0 = some (rv (me)) := eL0 ▸ (rfl : jGet [(0, rv (me))] 0 = some (rv (me)))
  clear eL0
  refine jx_ld (pc_q := 1) (l_q := L0) (st_q := [rv (me)]) rfl (jl_rvn g1) ?_
  refine cx_gi (pc_q := 4) (c := 5) (q := 4) (v := F (me) (4 : Int)) rfl rfl (by decide) (by decide) (Or.inl rfl) rfl o_me t_me rfl ?_
  have b2 : (-2147483648 : Int) ≤ F (me) (4 : Int) ∧ F (me) (4 : Int) ≤ 2147483647 := by have z := HC_i (c := 5) (q := 4) hC o_me t_me (by decide) rfl; rw [show F (me) ((4 : Nat) : Int) = F (me) (4 : Int) from rfl] at z; exact z
  refine jx_ld (pc_q := 5) (l_q := L0) (st_q := [rv (me), .int (i32 (F (me) (4 : Int)))]) rfl (jl_rvn g1) ?_
  refine cx_gi (pc_q := 8) (c := 5) (q := 3) (v := F (me) (3 : Int)) rfl rfl (by decide) (by decide) (Or.inl rfl) rfl o_me t_me rfl ?_
  have b3 : (0 : Int) ≤ F (me) (3 : Int) ∧ F (me) (3 : Int) ≤ 200 := by have z := HC_i (c := 5) (q := 3) hC o_me t_me (by decide) rfl; rw [show F (me) ((3 : Nat) : Int) = F (me) (3 : Int) from rfl] at z; exact z
  refine jx_icmp_ge (pc_q := 11) (tg := 15) rfl rfl rfl (by omega) (by omega) (by omega) (by omega) (fun h4 => ?_) (fun h4 => ?_)
  · have _q := h4
    refine jx_ar (pc_q := 16) (st_q := [.int (i32 (0))]) rfl rfl rfl rfl ?_
    refine jx_rt (v := some (.int (i32 (0)))) rfl rfl rfl rfl rfl (by first | rfl | exact jRet_b (by omega)) ?_
    exact ⟨(0), rfl, rfl, by omega, trivial⟩
  · have _q := h4
    refine jx_ar (pc_q := 12) (st_q := [.int (i32 (1))]) rfl rfl rfl rfl ?_
    refine jx_go (tg := 16) rfl rfl ?_
    refine jx_rt (v := some (.int (i32 (1)))) rfl rfl rfl rfl rfl (by first | rfl | exact jRet_b (by omega)) ?_
    exact ⟨(1), rfl, rfl, by omega, trivial⟩
set_option maxRecDepth 20000 in
set_option maxHeartbeats 4000000 in
theorem k_LMachine_takeInput {X : jX} {dd : Nat} {R : Nat → jC} {m : Nat} {tg ln : Int → Int} {F : Int → Int → Int} {me : Int} (hd : 1 ≤ dd) (hC : HC 0 m tg ln F) (o_me : own m me) (t_me : tg me = 6) : wk X dd 146 [rv me] (cV R m tg ln F) (fun o V_q => ∃ (F_q : Int → Int → Int) (r : Int), V_q = cV R m tg ln F_q ∧ o = .inl (some (.int (i32 r))) ∧ HC 0 m tg ln F_q ∧ Fq 0 [(6, 4)] m tg F F_q ∧ (-2147483648 ≤ r ∧ r ≤ 2147483647) ∧ True) := by
  obtain ⟨d, rfl⟩ : ∃ d, dd = d + 1 := ⟨dd - 1, by omega⟩
  refine wk_of (e := jm146) rfl (by rw [jS_r, jS_0]; exact Nat.le_of_ble_eq_true rfl) ?_
  rw [la_r, la_0]
  show wj X d jm146 (0, [(0, rv (me))], [], cV R m tg ln F) _
  have hM0 : Fq 0 [(6, 4)] m tg F F := Fq_r
  obtain ⟨L0, eL0⟩ : ∃ q : jL, q = [(0, rv (me))] := ⟨_, rfl⟩
  rw [← eL0]
  have g1 : jGet L0 0 = some (rv (me)) := eL0 ▸ (rfl : jGet [(0, rv (me))] 0 = some (rv (me)))
  clear eL0
  refine jx_ld (pc_q := 1) (l_q := L0) (st_q := [rv (me)]) rfl (jl_rvn g1) ?_
  refine cx_gi (pc_q := 4) (c := 5) (q := 4) (v := F (me) (4 : Int)) rfl rfl (by decide) (by decide) (Or.inl rfl) rfl o_me t_me rfl ?_
  have b2 : (-2147483648 : Int) ≤ F (me) (4 : Int) ∧ F (me) (4 : Int) ≤ 2147483647 := by have z := HC_i (c := 5) (q := 4) hC o_me t_me (by decide) rfl; rw [show F (me) ((4 : Nat) : Int) = F (me) (4 : Int) from rfl] at z; exact z
  refine jx_ld (pc_q := 5) (l_q := jSto1 L0 1 (.int (i32 (F (me) (4 : Int))))) (st_q := []) rfl rfl ?_
  obtain ⟨L3, eL3⟩ : ∃ q : jL, q = jSto1 L0 1 (.int (i32 (F (me) (4 : Int)))) := ⟨_, rfl⟩
  rw [← eL3]
  have g4 : jGet L3 0 = some (rv (me)) := eL3 ▸ jg_nr (by decide) g1
  have g5 : jGet L3 1 = some (.int (i32 (F (me) (4 : Int)))) := eL3 ▸ jg_eq
  clear eL3
  refine jx_ld (pc_q := 6) (l_q := L3) (st_q := [rv (me)]) rfl (jl_rvn g4) ?_
  refine jx_ar (pc_q := 7) (st_q := [rv (me), rv (me)]) rfl rfl ja_dup rfl ?_
  refine cx_gi (pc_q := 10) (c := 5) (q := 4) (v := F (me) (4 : Int)) rfl rfl (by decide) (by decide) (Or.inl rfl) rfl o_me t_me rfl ?_
  refine jx_ar (pc_q := 11) (st_q := [.int (i32 (1)), .int (i32 (F (me) (4 : Int))), rv (me)]) rfl rfl rfl rfl ?_
  refine jx_add (pc_q := 12) rfl rfl ?_
  obtain ⟨z6, ez6⟩ : ∃ q, q = (i32 ((F (me) (4 : Int) + 1))).toInt := ⟨_, rfl⟩
  have bz6 : (-2147483648 : Int) ≤ z6 ∧ z6 ≤ 2147483647 := ez6 ▸ i32_rg _
  rw [show i32 ((F (me) (4 : Int) + 1)) = i32 z6 by rw [ez6, i32_of]]
  clear ez6
  refine cx_pi (pc_q := 15) (c := 5) (q := 4) (qi := (4 : Int)) (z := z6) rfl rfl (by decide) (by decide) rfl rfl rfl (by decide) rfl o_me t_me rfl ?_
  obtain ⟨F7, eF7⟩ : ∃ q, q = uF F (me) (4 : Int) (z6) := ⟨_, rfl⟩
  rw [← eF7]
  have hC8 : HC 0 m tg ln F7 := by rw [eF7]; exact HC_fi (c := 5) (q := 4) hC t_me (by decide) rfl (by omega) (by omega) ⟨fun w => absurd w (by decide), fun w => absurd w (by decide)⟩
  have hM9 : Fq 0 [(6, 4)] m tg F F7 := by rw [eF7]; exact Fq_p hM0 t_me (fun _ => rfl) rfl
  refine jx_ld (pc_q := 16) (l_q := L3) (st_q := [.int (i32 (F (me) (4 : Int)))]) rfl (jl_iloadn g5) ?_
  refine jx_if_lt (pc_q := 19) (tg := 37) rfl rfl rfl (by omega) (by omega) (fun h10 => ?_) (fun h10 => ?_)
  · have _q := h10
    refine jx_ar (pc_q := 38) (st_q := [.int (i32 (0))]) rfl rfl rfl rfl ?_
    refine jx_rt (v := some (.int (i32 (0)))) rfl rfl rfl rfl rfl rfl ?_
    exact ⟨F7, (0), rfl, rfl, hC8, hM9, by omega, trivial⟩
  · have _q := h10
    refine jx_ld (pc_q := 20) (l_q := L3) (st_q := [.int (i32 (F (me) (4 : Int)))]) rfl (jl_iloadn g5) ?_
    refine jx_ld (pc_q := 21) (l_q := L3) (st_q := [rv (me), .int (i32 (F (me) (4 : Int)))]) rfl (jl_rvn g4) ?_
    refine cx_gr (pc_q := 24) (c := 5) (q := 2) (v := F (me) (2 : Int)) rfl rfl (by decide) (by decide) rfl rfl o_me t_me (show F7 (me) (2 : Int) = F (me) (2 : Int) from by rw [eF7]; exact uF_j (by decide)) ?_
    have y11 : own m (F (me) (2 : Int)) ∧ tg (F (me) (2 : Int)) = 21 ∧ ((200 : Int) ≠ 0 → ln (F (me) (2 : Int)) = 200) := by have z := HC_n (c := 5) (q := 2) hC8 o_me t_me (own_z o_me) (by decide) rfl; rw [show F7 (me) ((2 : Nat) : Int) = F (me) (2 : Int) from (show F7 (me) (2 : Int) = F (me) (2 : Int) from by rw [eF7]; exact uF_j (by decide))] at z; exact ⟨z.1, z.2.1, z.2.2.1⟩
    have ly11 : ln (F (me) (2 : Int)) = 200 := y11.2.2 (by decide)
    have b12 := HC_l hC8 y11.1 y11.2.1 (by decide)
    refine cx_len (pc_q := 25) rfl rfl y11.1 (by rw [y11.2.1]; decide) (by omega) ?_
    refine jx_icmp_ge (pc_q := 28) (tg := 37) rfl rfl rfl (by omega) (by omega) (by omega) (by omega) (fun h13 => ?_) (fun h13 => ?_)
    · have _q := h13
      refine jx_ar (pc_q := 38) (st_q := [.int (i32 (0))]) rfl rfl rfl rfl ?_
      refine jx_rt (v := some (.int (i32 (0)))) rfl rfl rfl rfl rfl rfl ?_
      exact ⟨F7, (0), rfl, rfl, hC8, hM9, by omega, trivial⟩
    · have _q := h13
      refine jx_ld (pc_q := 29) (l_q := L3) (st_q := [rv (me)]) rfl (jl_rvn g4) ?_
      refine cx_gr (pc_q := 32) (c := 5) (q := 2) (v := F (me) (2 : Int)) rfl rfl (by decide) (by decide) rfl rfl o_me t_me (show F7 (me) (2 : Int) = F (me) (2 : Int) from by rw [eF7]; exact uF_j (by decide)) ?_
      refine jx_ld (pc_q := 33) (l_q := L3) (st_q := [.int (i32 (F (me) (4 : Int))), rv (F (me) (2 : Int))]) rfl (jl_iloadn g5) ?_
      refine cx_ial (pc_q := 34) (z := F (me) (4 : Int)) rfl rfl y11.1 y11.2.1 (by omega) (by omega) (by omega) ?_
      rw [show F7 (F (me) (2 : Int)) (F (me) (4 : Int)) = F (F (me) (2 : Int)) (F (me) (4 : Int)) from (show F7 (F (me) (2 : Int)) (F (me) (4 : Int)) = F (F (me) (2 : Int)) (F (me) (4 : Int)) from by rw [eF7]; exact uF_a (fun w => by have q1 := y11.2.1; have q2 := t_me; rw [w, q2] at q1; exact absurd q1 (by decide)))]
      have b14 : (-2147483648 : Int) ≤ F (F (me) (2 : Int)) (F (me) (4 : Int)) ∧ F (F (me) (2 : Int)) (F (me) (4 : Int)) ≤ 2147483647 := by have z := HC_ei (j := F (me) (4 : Int)) hC8 y11.1 (by rw [y11.2.1]; decide) (by omega); rw [show F7 (F (me) (2 : Int)) (F (me) (4 : Int)) = F (F (me) (2 : Int)) (F (me) (4 : Int)) from (show F7 (F (me) (2 : Int)) (F (me) (4 : Int)) = F (F (me) (2 : Int)) (F (me) (4 : Int)) from by rw [eF7]; exact uF_a (fun w => by have q1 := y11.2.1; have q2 := t_me; rw [w, q2] at q1; exact absurd q1 (by decide)))] at z; exact z
      refine jx_go (tg := 38) rfl rfl ?_
      refine jx_rt (v := some (.int (i32 (F (F (me) (2 : Int)) (F (me) (4 : Int)))))) rfl rfl rfl rfl rfl rfl ?_
      exact ⟨F7, (F (F (me) (2 : Int)) (F (me) (4 : Int))), rfl, rfl, hC8, hM9, by omega, trivial⟩
set_option maxRecDepth 20000 in
set_option maxHeartbeats 4000000 in
theorem k_LMachine_show {X : jX} {dd : Nat} {R : Nat → jC} {m : Nat} {tg ln : Int → Int} {F : Int → Int → Int} {kk : Int} {me v : Int} (hd : 1 ≤ dd) (hC : HC 0 m tg ln F) (o_me : own m me) (t_me : tg me = 6) (h_v : (-2147483648 : Int) ≤ v ∧ v ≤ 2147483647) (p_0 : kk ≤ 2147483646) (c_SB : SB m tg F (kk)) : wk X dd 148 [rv me, .int (i32 v)] (cV R m tg ln F) (fun o V_q => ∃ (F_q : Int → Int → Int), V_q = cV R m tg ln F_q ∧ o = .inl none ∧ HC 0 m tg ln F_q ∧ Fq 0 [(6, 6), (21, -5)] m tg F F_q ∧ (SB m tg F_q (kk + 1)) ∧ True) := by
  obtain ⟨d, rfl⟩ : ∃ d, dd = d + 1 := ⟨dd - 1, by omega⟩
  refine wk_of (e := jm148) rfl (by rw [jS_r, jS_i, jS_0]; exact Nat.le_of_ble_eq_true rfl) ?_
  rw [la_r, la_i, la_0]
  show wj X d jm148 (0, [(0, rv (me)), (1, .int (i32 (v)))], [], cV R m tg ln F) _
  have hM0 : Fq 0 [(6, 6), (21, -5)] m tg F F := Fq_r
  obtain ⟨L0, eL0⟩ : ∃ q : jL, q = [(0, rv (me)), (1, .int (i32 (v)))] := ⟨_, rfl⟩
  rw [← eL0]
  have g1 : jGet L0 0 = some (rv (me)) := eL0 ▸ (rfl : jGet [(0, rv (me)), (1, .int (i32 (v)))] 0 = some (rv (me)))
  have g2 : jGet L0 1 = some (.int (i32 (v))) := eL0 ▸ (rfl : jGet [(0, rv (me)), (1, .int (i32 (v)))] 1 = some (.int (i32 (v))))
  clear eL0
  refine jx_ld (pc_q := 1) (l_q := L0) (st_q := [rv (me)]) rfl (jl_rvn g1) ?_
  refine cx_gi (pc_q := 4) (c := 5) (q := 6) (v := F (me) (6 : Int)) rfl rfl (by decide) (by decide) (Or.inl rfl) rfl o_me t_me rfl ?_
  have b3 : (0 : Int) ≤ F (me) (6 : Int) ∧ F (me) (6 : Int) ≤ 2147483647 := by have z := HC_i (c := 5) (q := 6) hC o_me t_me (by decide) rfl; rw [show F (me) ((6 : Nat) : Int) = F (me) (6 : Int) from rfl] at z; exact z
  refine jx_ld (pc_q := 5) (l_q := L0) (st_q := [rv (me), .int (i32 (F (me) (6 : Int)))]) rfl (jl_rvn g1) ?_
  refine cx_gr (pc_q := 8) (c := 5) (q := 5) (v := F (me) (5 : Int)) rfl rfl (by decide) (by decide) rfl rfl o_me t_me rfl ?_
  have y4 : own m (F (me) (5 : Int)) ∧ tg (F (me) (5 : Int)) = 21 ∧ ((1000 : Int) ≠ 0 → ln (F (me) (5 : Int)) = 1000) := by have z := HC_n (c := 5) (q := 5) hC o_me t_me (own_z o_me) (by decide) rfl; rw [show F (me) ((5 : Nat) : Int) = F (me) (5 : Int) from rfl] at z; exact ⟨z.1, z.2.1, z.2.2.1⟩
  have ly4 : ln (F (me) (5 : Int)) = 1000 := y4.2.2 (by decide)
  have b5 := HC_l hC y4.1 y4.2.1 (by decide)
  refine cx_len (pc_q := 9) rfl rfl y4.1 (by rw [y4.2.1]; decide) (by omega) ?_
  refine jx_icmp_ge (pc_q := 12) (tg := 22) rfl rfl rfl (by omega) (by omega) (by omega) (by omega) (fun h6 => ?_) (fun h6 => ?_)
  · have _q := h6
    refine jx_ld (pc_q := 23) (l_q := L0) (st_q := [rv (me)]) rfl (jl_rvn g1) ?_
    refine jx_ar (pc_q := 24) (st_q := [rv (me), rv (me)]) rfl rfl ja_dup rfl ?_
    refine cx_gi (pc_q := 27) (c := 5) (q := 6) (v := F (me) (6 : Int)) rfl rfl (by decide) (by decide) (Or.inl rfl) rfl o_me t_me rfl ?_
    refine jx_ar (pc_q := 28) (st_q := [.int (i32 (1)), .int (i32 (F (me) (6 : Int))), rv (me)]) rfl rfl rfl rfl ?_
    have := c_SB _ o_me t_me
    refine jx_add (pc_q := 29) rfl rfl ?_
    refine cx_pi (pc_q := 32) (c := 5) (q := 6) (qi := (6 : Int)) (z := (F (me) (6 : Int) + 1)) rfl rfl (by decide) (by decide) rfl rfl rfl (by decide) rfl o_me t_me rfl ?_
    obtain ⟨F7, eF7⟩ : ∃ q, q = uF F (me) (6 : Int) ((F (me) (6 : Int) + 1)) := ⟨_, rfl⟩
    rw [← eF7]
    have hC8 : HC 0 m tg ln F7 := by rw [eF7]; exact HC_fi (c := 5) (q := 6) hC t_me (by decide) rfl (by omega) (by omega) ⟨fun w => absurd w (by decide), fun w => absurd w (by decide)⟩
    have hM9 : Fq 0 [(6, 6), (21, -5)] m tg F F7 := by rw [eF7]; exact Fq_p hM0 t_me (fun _ => rfl) rfl
    have c10 : SB m tg F7 (kk + 1) := by rw [eF7]; exact SB_p c_SB (by have z := c_SB _ o_me t_me; omega)
    refine jx_rt (v := none) rfl rfl rfl rfl rfl rfl ?_
    exact ⟨F7, rfl, rfl, hC8, hM9, SB_m c10 (by omega), trivial⟩
  · have _q := h6
    refine jx_ld (pc_q := 13) (l_q := L0) (st_q := [rv (me)]) rfl (jl_rvn g1) ?_
    refine cx_gr (pc_q := 16) (c := 5) (q := 5) (v := F (me) (5 : Int)) rfl rfl (by decide) (by decide) rfl rfl o_me t_me rfl ?_
    refine jx_ld (pc_q := 17) (l_q := L0) (st_q := [rv (me), rv (F (me) (5 : Int))]) rfl (jl_rvn g1) ?_
    refine cx_gi (pc_q := 20) (c := 5) (q := 6) (v := F (me) (6 : Int)) rfl rfl (by decide) (by decide) (Or.inl rfl) rfl o_me t_me rfl ?_
    refine jx_ld (pc_q := 21) (l_q := L0) (st_q := [.int (i32 (v)), .int (i32 (F (me) (6 : Int))), rv (F (me) (5 : Int))]) rfl (jl_iloadn g2) ?_
    refine cx_ias (pc_q := 22) (z := F (me) (6 : Int)) (y := v) rfl rfl y4.1 y4.2.1 (by omega) (by omega) (by omega) ?_
    obtain ⟨F11, eF11⟩ : ∃ q, q = uF F (F (me) (5 : Int)) (F (me) (6 : Int)) (v) := ⟨_, rfl⟩
    rw [← eF11]
    have hC12 : HC 0 m tg ln F11 := by rw [eF11]; exact HC_pi hC y4.1 y4.2.1 (by decide) (by omega) (by rw [(show F (F (me) (5 : Int)) (-1) = 0 by have z := HC_n (c := 5) (q := 5) hC o_me t_me (own_z o_me) (by decide) rfl; rw [show F (me) ((5 : Nat) : Int) = F (me) (5 : Int) from rfl] at z; exact z.2.2.2 (by decide))]; exact ⟨(by show (-2147483648 : Int) ≤ _; omega), (by show _ ≤ (2147483647 : Int); omega)⟩)
    have hM13 : Fq 0 [(6, 6), (21, -5)] m tg F F11 := by rw [eF11]; exact Fq_p hM0 y4.2.1 (fun _ => rfl) (inL_a rfl (by omega) rfl)
    have c14 : SB m tg F11 (kk) := by rw [eF11]; exact SB_u c_SB y4.2.1 (by omega)
    refine jx_ld (pc_q := 23) (l_q := L0) (st_q := [rv (me)]) rfl (jl_rvn g1) ?_
    refine jx_ar (pc_q := 24) (st_q := [rv (me), rv (me)]) rfl rfl ja_dup rfl ?_
    refine cx_gi (pc_q := 27) (c := 5) (q := 6) (v := F (me) (6 : Int)) rfl rfl (by decide) (by decide) (Or.inl rfl) rfl o_me t_me (show F11 (me) (6 : Int) = F (me) (6 : Int) from by rw [eF11]; exact uF_a (fun w => by have q1 := t_me; have q2 := y4.2.1; rw [w, q2] at q1; exact absurd q1 (by decide))) ?_
    refine jx_ar (pc_q := 28) (st_q := [.int (i32 (1)), .int (i32 (F (me) (6 : Int))), rv (me)]) rfl rfl rfl rfl ?_
    have := c14 _ o_me t_me
    refine jx_add (pc_q := 29) rfl rfl ?_
    refine cx_pi (pc_q := 32) (c := 5) (q := 6) (qi := (6 : Int)) (z := (F (me) (6 : Int) + 1)) rfl rfl (by decide) (by decide) rfl rfl rfl (by decide) rfl o_me t_me rfl ?_
    obtain ⟨F15, eF15⟩ : ∃ q, q = uF F11 (me) (6 : Int) ((F (me) (6 : Int) + 1)) := ⟨_, rfl⟩
    rw [← eF15]
    have hC16 : HC 0 m tg ln F15 := by rw [eF15]; exact HC_fi (c := 5) (q := 6) hC12 t_me (by decide) rfl (by omega) (by omega) ⟨fun w => absurd w (by decide), fun w => absurd w (by decide)⟩
    have hM17 : Fq 0 [(6, 6), (21, -5)] m tg F F15 := by rw [eF15]; exact Fq_p hM13 t_me (fun _ => rfl) rfl
    have c18 : SB m tg F15 (kk + 1) := by rw [eF15]; exact SB_p c14 (by have z := c14 _ o_me t_me; rw [show F11 (me) (6 : Int) = F (me) (6 : Int) from (show F11 (me) (6 : Int) = F (me) (6 : Int) from by rw [eF11]; exact uF_a (fun w => by have q1 := t_me; have q2 := y4.2.1; rw [w, q2] at q1; exact absurd q1 (by decide)))] at z; omega)
    refine jx_rt (v := none) rfl rfl rfl rfl rfl rfl ?_
    exact ⟨F15, rfl, rfl, hC16, hM17, SB_m c18 (by omega), trivial⟩
set_option maxRecDepth 20000 in
set_option maxHeartbeats 4000000 in
theorem k_LCore_clearRegisters {X : jX} {dd : Nat} {R : Nat → jC} {m : Nat} {tg ln : Int → Int} {F : Int → Int → Int} {me : Int} (hd : 1 ≤ dd) (hC : HC 0 m tg ln F) (o_me : own m me) (t_me : tg me = 3) : wk X dd 82 [rv me] (cV R m tg ln F) (fun o V_q => ∃ (F_q : Int → Int → Int), V_q = cV R m tg ln F_q ∧ o = .inl none ∧ HC 0 m tg ln F_q ∧ Fq 0 [(3, 5), (3, 6), (3, 7), (3, 8), (3, 9), (3, 10), (3, 19)] m tg F F_q ∧ True) := by
  obtain ⟨d, rfl⟩ : ∃ d, dd = d + 1 := ⟨dd - 1, by omega⟩
  refine wk_of (e := jm82) rfl (by rw [jS_r, jS_0]; exact Nat.le_of_ble_eq_true rfl) ?_
  rw [la_r, la_0]
  show wj X d jm82 (0, [(0, rv (me))], [], cV R m tg ln F) _
  have hM0 : Fq 0 [(3, 5), (3, 6), (3, 7), (3, 8), (3, 9), (3, 10), (3, 19)] m tg F F := Fq_r
  obtain ⟨L0, eL0⟩ : ∃ q : jL, q = [(0, rv (me))] := ⟨_, rfl⟩
  rw [← eL0]
  have g1 : jGet L0 0 = some (rv (me)) := eL0 ▸ (rfl : jGet [(0, rv (me))] 0 = some (rv (me)))
  clear eL0
  refine jx_ld (pc_q := 1) (l_q := L0) (st_q := [rv (me)]) rfl (jl_rvn g1) ?_
  refine jx_ar (pc_q := 2) (st_q := [.int (i32 (0)), rv (me)]) rfl rfl rfl rfl ?_
  refine cx_pi (pc_q := 5) (c := 2) (q := 5) (qi := (5 : Int)) (z := 0) rfl rfl (by decide) (by decide) rfl rfl rfl (by decide) rfl o_me t_me rfl ?_
  obtain ⟨F2, eF2⟩ : ∃ q, q = uF F (me) (5 : Int) (0) := ⟨_, rfl⟩
  rw [← eF2]
  have hC3 : HC 0 m tg ln F2 := by rw [eF2]; exact HC_fi (c := 2) (q := 5) hC t_me (by decide) rfl (by omega) (by omega) ⟨fun w => absurd w (by decide), fun _ => ⟨fun w => absurd w (by decide), fun w => absurd w (by decide)⟩⟩
  have hM4 : Fq 0 [(3, 5), (3, 6), (3, 7), (3, 8), (3, 9), (3, 10), (3, 19)] m tg F F2 := by rw [eF2]; exact Fq_p hM0 t_me (fun _ => rfl) rfl
  refine jx_ld (pc_q := 6) (l_q := L0) (st_q := [rv (me)]) rfl (jl_rvn g1) ?_
  refine jx_ar (pc_q := 7) (st_q := [.int (i32 (0)), rv (me)]) rfl rfl rfl rfl ?_
  refine cx_pi (pc_q := 10) (c := 2) (q := 6) (qi := (6 : Int)) (z := 0) rfl rfl (by decide) (by decide) rfl rfl rfl (by decide) rfl o_me t_me rfl ?_
  obtain ⟨F5, eF5⟩ : ∃ q, q = uF F2 (me) (6 : Int) (0) := ⟨_, rfl⟩
  rw [← eF5]
  have hC6 : HC 0 m tg ln F5 := by rw [eF5]; exact HC_fi (c := 2) (q := 6) hC3 t_me (by decide) rfl (by omega) (by omega) ⟨fun w => absurd w (by decide), fun _ => ⟨fun w => absurd w (by decide), fun w => absurd w (by decide)⟩⟩
  have hM7 : Fq 0 [(3, 5), (3, 6), (3, 7), (3, 8), (3, 9), (3, 10), (3, 19)] m tg F F5 := by rw [eF5]; exact Fq_p hM4 t_me (fun _ => rfl) rfl
  refine jx_ld (pc_q := 11) (l_q := L0) (st_q := [rv (me)]) rfl (jl_rvn g1) ?_
  refine jx_ar (pc_q := 12) (st_q := [.int (i32 (0)), rv (me)]) rfl rfl rfl rfl ?_
  refine cx_pi (pc_q := 15) (c := 2) (q := 7) (qi := (7 : Int)) (z := 0) rfl rfl (by decide) (by decide) rfl rfl rfl (by decide) rfl o_me t_me rfl ?_
  obtain ⟨F8, eF8⟩ : ∃ q, q = uF F5 (me) (7 : Int) (0) := ⟨_, rfl⟩
  rw [← eF8]
  have hC9 : HC 0 m tg ln F8 := by rw [eF8]; exact HC_fi (c := 2) (q := 7) hC6 t_me (by decide) rfl (by omega) (by omega) ⟨fun w => absurd w (by decide), fun _ => ⟨fun w => absurd w (by decide), fun w => absurd w (by decide)⟩⟩
  have hM10 : Fq 0 [(3, 5), (3, 6), (3, 7), (3, 8), (3, 9), (3, 10), (3, 19)] m tg F F8 := by rw [eF8]; exact Fq_p hM7 t_me (fun _ => rfl) rfl
  refine jx_ld (pc_q := 16) (l_q := L0) (st_q := [rv (me)]) rfl (jl_rvn g1) ?_
  refine jx_ar (pc_q := 17) (st_q := [.int (i32 (0)), rv (me)]) rfl rfl rfl rfl ?_
  refine cx_pi (pc_q := 20) (c := 2) (q := 8) (qi := (8 : Int)) (z := 0) rfl rfl (by decide) (by decide) rfl rfl rfl (by decide) rfl o_me t_me rfl ?_
  obtain ⟨F11, eF11⟩ : ∃ q, q = uF F8 (me) (8 : Int) (0) := ⟨_, rfl⟩
  rw [← eF11]
  have hC12 : HC 0 m tg ln F11 := by rw [eF11]; exact HC_fi (c := 2) (q := 8) hC9 t_me (by decide) rfl (by omega) (by omega) ⟨fun w => absurd w (by decide), fun _ => ⟨fun w => absurd w (by decide), fun w => absurd w (by decide)⟩⟩
  have hM13 : Fq 0 [(3, 5), (3, 6), (3, 7), (3, 8), (3, 9), (3, 10), (3, 19)] m tg F F11 := by rw [eF11]; exact Fq_p hM10 t_me (fun _ => rfl) rfl
  refine jx_ld (pc_q := 21) (l_q := L0) (st_q := [rv (me)]) rfl (jl_rvn g1) ?_
  refine jx_ar (pc_q := 22) (st_q := [.int (i32 (0)), rv (me)]) rfl rfl rfl rfl ?_
  refine cx_pi (pc_q := 25) (c := 2) (q := 9) (qi := (9 : Int)) (z := 0) rfl rfl (by decide) (by decide) rfl rfl rfl (by decide) rfl o_me t_me rfl ?_
  obtain ⟨F14, eF14⟩ : ∃ q, q = uF F11 (me) (9 : Int) (0) := ⟨_, rfl⟩
  rw [← eF14]
  have hC15 : HC 0 m tg ln F14 := by rw [eF14]; exact HC_fi (c := 2) (q := 9) hC12 t_me (by decide) rfl (by omega) (by omega) ⟨fun w => absurd w (by decide), fun _ => ⟨fun w => absurd w (by decide), fun w => absurd w (by decide)⟩⟩
  have hM16 : Fq 0 [(3, 5), (3, 6), (3, 7), (3, 8), (3, 9), (3, 10), (3, 19)] m tg F F14 := by rw [eF14]; exact Fq_p hM13 t_me (fun _ => rfl) rfl
  refine jx_ld (pc_q := 26) (l_q := L0) (st_q := [rv (me)]) rfl (jl_rvn g1) ?_
  refine jx_ar (pc_q := 27) (st_q := [.int (i32 (0)), rv (me)]) rfl rfl rfl rfl ?_
  refine cx_pi (pc_q := 30) (c := 2) (q := 10) (qi := (10 : Int)) (z := 0) rfl rfl (by decide) (by decide) rfl rfl rfl (by decide) rfl o_me t_me rfl ?_
  obtain ⟨F17, eF17⟩ : ∃ q, q = uF F14 (me) (10 : Int) (0) := ⟨_, rfl⟩
  rw [← eF17]
  have hC18 : HC 0 m tg ln F17 := by rw [eF17]; exact HC_fi (c := 2) (q := 10) hC15 t_me (by decide) rfl (by omega) (by omega) ⟨fun w => absurd w (by decide), fun _ => ⟨fun w => absurd w (by decide), fun w => absurd w (by decide)⟩⟩
  have hM19 : Fq 0 [(3, 5), (3, 6), (3, 7), (3, 8), (3, 9), (3, 10), (3, 19)] m tg F F17 := by rw [eF17]; exact Fq_p hM16 t_me (fun _ => rfl) rfl
  refine jx_ld (pc_q := 31) (l_q := L0) (st_q := [rv (me)]) rfl (jl_rvn g1) ?_
  refine jx_ar (pc_q := 32) (st_q := [.int (i32 (0)), rv (me)]) rfl rfl rfl rfl ?_
  refine cx_pi (pc_q := 35) (c := 2) (q := 19) (qi := (19 : Int)) (z := 0) rfl rfl (by decide) (by decide) rfl rfl rfl (by decide) rfl o_me t_me rfl ?_
  obtain ⟨F20, eF20⟩ : ∃ q, q = uF F17 (me) (19 : Int) (0) := ⟨_, rfl⟩
  rw [← eF20]
  have hC21 : HC 0 m tg ln F20 := by rw [eF20]; exact HC_fi (c := 2) (q := 19) hC18 t_me (by decide) rfl (by omega) (by omega) ⟨fun w => absurd w (by decide), fun _ => ⟨fun w => absurd w (by decide), fun w => absurd w (by decide)⟩⟩
  have hM22 : Fq 0 [(3, 5), (3, 6), (3, 7), (3, 8), (3, 9), (3, 10), (3, 19)] m tg F F20 := by rw [eF20]; exact Fq_p hM19 t_me (fun _ => rfl) rfl
  refine jx_rt (v := none) rfl rfl rfl rfl rfl rfl ?_
  exact ⟨F20, rfl, rfl, hC21, hM22, trivial⟩
set_option maxRecDepth 20000 in
set_option maxHeartbeats 4000000 in
theorem k_LCore_register {X : jX} {dd : Nat} {R : Nat → jC} {m : Nat} {tg ln : Int → Int} {F : Int → Int → Int} {me a0 : Int} (hd : 1 ≤ dd) (hC : HC 0 m tg ln F) (o_me : own m me) (t_me : tg me = 3) (h_a0 : (-2147483648 : Int) ≤ a0 ∧ a0 ≤ 2147483647) : wk X dd 83 [rv me, .int (i32 a0)] (cV R m tg ln F) (fun o V_q => ∃ (r : Int), V_q = cV R m tg ln F ∧ o = .inl (some (.int (i32 r))) ∧ (-2147483648 ≤ r ∧ r ≤ 2147483647) ∧ True) := by
  obtain ⟨d, rfl⟩ : ∃ d, dd = d + 1 := ⟨dd - 1, by omega⟩
  refine wk_of (e := jm83) rfl (by rw [jS_r, jS_i, jS_0]; exact Nat.le_of_ble_eq_true rfl) ?_
  rw [la_r, la_i, la_0]
  show wj X d jm83 (0, [(0, rv (me)), (1, .int (i32 (a0)))], [], cV R m tg ln F) _
  obtain ⟨L0, eL0⟩ : ∃ q : jL, q = [(0, rv (me)), (1, .int (i32 (a0)))] := ⟨_, rfl⟩
  rw [← eL0]
  have g1 : jGet L0 0 = some (rv (me)) := eL0 ▸ (rfl : jGet [(0, rv (me)), (1, .int (i32 (a0)))] 0 = some (rv (me)))
  have g2 : jGet L0 1 = some (.int (i32 (a0))) := eL0 ▸ (rfl : jGet [(0, rv (me)), (1, .int (i32 (a0)))] 1 = some (.int (i32 (a0))))
  clear eL0
  refine jx_ld (pc_q := 1) (l_q := L0) (st_q := [.int (i32 (a0))]) rfl (jl_iloadn g2) ?_
  by_cases h3 : a0 = 0
  · refine jx_swe (tg := 40) h3 rfl rfl rfl rfl ?_
    refine jx_ld (pc_q := 41) (l_q := L0) (st_q := [rv (me)]) rfl (jl_rvn g1) ?_
    refine cx_gi (pc_q := 44) (c := 2) (q := 5) (v := F (me) (5 : Int)) rfl rfl (by decide) (by decide) (Or.inl rfl) rfl o_me t_me rfl ?_
    have b4 : (-2147483648 : Int) ≤ F (me) (5 : Int) ∧ F (me) (5 : Int) ≤ 2147483647 := by have z := HC_i (c := 2) (q := 5) hC o_me t_me (by decide) rfl; rw [show F (me) ((5 : Nat) : Int) = F (me) (5 : Int) from rfl] at z; exact z
    refine jx_rt (v := some (.int (i32 (F (me) (5 : Int))))) rfl rfl rfl rfl rfl rfl ?_
    exact ⟨(F (me) (5 : Int)), rfl, rfl, by omega, trivial⟩
  by_cases h5 : a0 = 1
  · refine jx_swe (tg := 45) h5 rfl rfl rfl rfl ?_
    refine jx_ld (pc_q := 46) (l_q := L0) (st_q := [rv (me)]) rfl (jl_rvn g1) ?_
    refine cx_gi (pc_q := 49) (c := 2) (q := 6) (v := F (me) (6 : Int)) rfl rfl (by decide) (by decide) (Or.inl rfl) rfl o_me t_me rfl ?_
    have b6 : (-2147483648 : Int) ≤ F (me) (6 : Int) ∧ F (me) (6 : Int) ≤ 2147483647 := by have z := HC_i (c := 2) (q := 6) hC o_me t_me (by decide) rfl; rw [show F (me) ((6 : Nat) : Int) = F (me) (6 : Int) from rfl] at z; exact z
    refine jx_rt (v := some (.int (i32 (F (me) (6 : Int))))) rfl rfl rfl rfl rfl rfl ?_
    exact ⟨(F (me) (6 : Int)), rfl, rfl, by omega, trivial⟩
  by_cases h7 : a0 = 2
  · refine jx_swe (tg := 50) h7 rfl rfl rfl rfl ?_
    refine jx_ld (pc_q := 51) (l_q := L0) (st_q := [rv (me)]) rfl (jl_rvn g1) ?_
    refine cx_gi (pc_q := 54) (c := 2) (q := 7) (v := F (me) (7 : Int)) rfl rfl (by decide) (by decide) (Or.inl rfl) rfl o_me t_me rfl ?_
    have b8 : (-2147483648 : Int) ≤ F (me) (7 : Int) ∧ F (me) (7 : Int) ≤ 2147483647 := by have z := HC_i (c := 2) (q := 7) hC o_me t_me (by decide) rfl; rw [show F (me) ((7 : Nat) : Int) = F (me) (7 : Int) from rfl] at z; exact z
    refine jx_rt (v := some (.int (i32 (F (me) (7 : Int))))) rfl rfl rfl rfl rfl rfl ?_
    exact ⟨(F (me) (7 : Int)), rfl, rfl, by omega, trivial⟩
  by_cases h9 : a0 = 3
  · refine jx_swe (tg := 55) h9 rfl rfl rfl rfl ?_
    refine jx_ld (pc_q := 56) (l_q := L0) (st_q := [rv (me)]) rfl (jl_rvn g1) ?_
    refine cx_gi (pc_q := 59) (c := 2) (q := 8) (v := F (me) (8 : Int)) rfl rfl (by decide) (by decide) (Or.inl rfl) rfl o_me t_me rfl ?_
    have b10 : (-2147483648 : Int) ≤ F (me) (8 : Int) ∧ F (me) (8 : Int) ≤ 2147483647 := by have z := HC_i (c := 2) (q := 8) hC o_me t_me (by decide) rfl; rw [show F (me) ((8 : Nat) : Int) = F (me) (8 : Int) from rfl] at z; exact z
    refine jx_rt (v := some (.int (i32 (F (me) (8 : Int))))) rfl rfl rfl rfl rfl rfl ?_
    exact ⟨(F (me) (8 : Int)), rfl, rfl, by omega, trivial⟩
  by_cases h11 : a0 = 4
  · refine jx_swe (tg := 60) h11 rfl rfl rfl rfl ?_
    refine jx_ld (pc_q := 61) (l_q := L0) (st_q := [rv (me)]) rfl (jl_rvn g1) ?_
    refine cx_gi (pc_q := 64) (c := 2) (q := 9) (v := F (me) (9 : Int)) rfl rfl (by decide) (by decide) (Or.inl rfl) rfl o_me t_me rfl ?_
    have b12 : (-2147483648 : Int) ≤ F (me) (9 : Int) ∧ F (me) (9 : Int) ≤ 2147483647 := by have z := HC_i (c := 2) (q := 9) hC o_me t_me (by decide) rfl; rw [show F (me) ((9 : Nat) : Int) = F (me) (9 : Int) from rfl] at z; exact z
    refine jx_rt (v := some (.int (i32 (F (me) (9 : Int))))) rfl rfl rfl rfl rfl rfl ?_
    exact ⟨(F (me) (9 : Int)), rfl, rfl, by omega, trivial⟩
  by_cases h13 : a0 = 5
  · refine jx_swe (tg := 65) h13 rfl rfl rfl rfl ?_
    refine jx_ld (pc_q := 66) (l_q := L0) (st_q := [rv (me)]) rfl (jl_rvn g1) ?_
    refine cx_gi (pc_q := 69) (c := 2) (q := 10) (v := F (me) (10 : Int)) rfl rfl (by decide) (by decide) (Or.inl rfl) rfl o_me t_me rfl ?_
    have b14 : (-2147483648 : Int) ≤ F (me) (10 : Int) ∧ F (me) (10 : Int) ≤ 2147483647 := by have z := HC_i (c := 2) (q := 10) hC o_me t_me (by decide) rfl; rw [show F (me) ((10 : Nat) : Int) = F (me) (10 : Int) from rfl] at z; exact z
    refine jx_rt (v := some (.int (i32 (F (me) (10 : Int))))) rfl rfl rfl rfl rfl rfl ?_
    exact ⟨(F (me) (10 : Int)), rfl, rfl, by omega, trivial⟩
  refine jx_swt (tg := 70) (by omega) (by omega) rfl (by omega) rfl ?_
  refine jx_ld (pc_q := 71) (l_q := L0) (st_q := [rv (me)]) rfl (jl_rvn g1) ?_
  refine cx_gi (pc_q := 74) (c := 2) (q := 19) (v := F (me) (19 : Int)) rfl rfl (by decide) (by decide) (Or.inl rfl) rfl o_me t_me rfl ?_
  have b15 : (-2147483648 : Int) ≤ F (me) (19 : Int) ∧ F (me) (19 : Int) ≤ 2147483647 := by have z := HC_i (c := 2) (q := 19) hC o_me t_me (by decide) rfl; rw [show F (me) ((19 : Nat) : Int) = F (me) (19 : Int) from rfl] at z; exact z
  refine jx_rt (v := some (.int (i32 (F (me) (19 : Int))))) rfl rfl rfl rfl rfl rfl ?_
  exact ⟨(F (me) (19 : Int)), rfl, rfl, by omega, trivial⟩
set_option maxRecDepth 20000 in
set_option maxHeartbeats 4000000 in
theorem k_LCore_peek {X : jX} {dd : Nat} {R : Nat → jC} {m : Nat} {tg ln : Int → Int} {F : Int → Int → Int} {me a0 : Int} (hd : 1 ≤ dd) (hC : HC 0 m tg ln F) (o_me : own m me) (t_me : tg me = 3) (h_a0 : (-2147483648 : Int) ≤ a0 ∧ a0 ≤ 2147483647) : wk X dd 86 [rv me, .int (i32 a0)] (cV R m tg ln F) (fun o V_q => ∃ (r : Int), V_q = cV R m tg ln F ∧ o = .inl (some (.int (i32 r))) ∧ (-2147483648 ≤ r ∧ r ≤ 2147483647) ∧ True) := by
  obtain ⟨d, rfl⟩ : ∃ d, dd = d + 1 := ⟨dd - 1, by omega⟩
  refine wk_of (e := jm86) rfl (by rw [jS_r, jS_i, jS_0]; exact Nat.le_of_ble_eq_true rfl) ?_
  rw [la_r, la_i, la_0]
  show wj X d jm86 (0, [(0, rv (me)), (1, .int (i32 (a0)))], [], cV R m tg ln F) _
  obtain ⟨L0, eL0⟩ : ∃ q : jL, q = [(0, rv (me)), (1, .int (i32 (a0)))] := ⟨_, rfl⟩
  rw [← eL0]
  have g1 : jGet L0 0 = some (rv (me)) := eL0 ▸ (rfl : jGet [(0, rv (me)), (1, .int (i32 (a0)))] 0 = some (rv (me)))
  have g2 : jGet L0 1 = some (.int (i32 (a0))) := eL0 ▸ (rfl : jGet [(0, rv (me)), (1, .int (i32 (a0)))] 1 = some (.int (i32 (a0))))
  clear eL0
  refine jx_ld (pc_q := 1) (l_q := L0) (st_q := [.int (i32 (a0))]) rfl (jl_iloadn g2) ?_
  refine jx_if_lt (pc_q := 4) (tg := 22) rfl rfl rfl (by omega) (by omega) (fun h3 => ?_) (fun h3 => ?_)
  · have _q := h3
    refine jx_ar (pc_q := 23) (st_q := [.int (i32 (0))]) rfl rfl rfl rfl ?_
    refine jx_rt (v := some (.int (i32 (0)))) rfl rfl rfl rfl rfl rfl ?_
    exact ⟨(0), rfl, rfl, by omega, trivial⟩
  · have _q := h3
    refine jx_ld (pc_q := 5) (l_q := L0) (st_q := [.int (i32 (a0))]) rfl (jl_iloadn g2) ?_
    refine jx_ld (pc_q := 6) (l_q := L0) (st_q := [rv (me), .int (i32 (a0))]) rfl (jl_rvn g1) ?_
    refine cx_gr (pc_q := 9) (c := 2) (q := 4) (v := F (me) (4 : Int)) rfl rfl (by decide) (by decide) rfl rfl o_me t_me rfl ?_
    have y4 : own m (F (me) (4 : Int)) ∧ tg (F (me) (4 : Int)) = 21 ∧ ((0 : Int) ≠ 0 → ln (F (me) (4 : Int)) = 0) := by have z := HC_n (c := 2) (q := 4) hC o_me t_me (own_z o_me) (by decide) rfl; rw [show F (me) ((4 : Nat) : Int) = F (me) (4 : Int) from rfl] at z; exact ⟨z.1, z.2.1, z.2.2.1⟩
    have b5 := HC_l hC y4.1 y4.2.1 (by decide)
    refine cx_len (pc_q := 10) rfl rfl y4.1 (by rw [y4.2.1]; decide) (by omega) ?_
    refine jx_icmp_ge (pc_q := 13) (tg := 22) rfl rfl rfl (by omega) (by omega) (by omega) (by omega) (fun h6 => ?_) (fun h6 => ?_)
    · have _q := h6
      refine jx_ar (pc_q := 23) (st_q := [.int (i32 (0))]) rfl rfl rfl rfl ?_
      refine jx_rt (v := some (.int (i32 (0)))) rfl rfl rfl rfl rfl rfl ?_
      exact ⟨(0), rfl, rfl, by omega, trivial⟩
    · have _q := h6
      refine jx_ld (pc_q := 14) (l_q := L0) (st_q := [rv (me)]) rfl (jl_rvn g1) ?_
      refine cx_gr (pc_q := 17) (c := 2) (q := 4) (v := F (me) (4 : Int)) rfl rfl (by decide) (by decide) rfl rfl o_me t_me rfl ?_
      refine jx_ld (pc_q := 18) (l_q := L0) (st_q := [.int (i32 (a0)), rv (F (me) (4 : Int))]) rfl (jl_iloadn g2) ?_
      refine cx_ial (pc_q := 19) (z := a0) rfl rfl y4.1 y4.2.1 (by omega) (by omega) (by omega) ?_
      have b7 : (-2147483648 : Int) ≤ F (F (me) (4 : Int)) (a0) ∧ F (F (me) (4 : Int)) (a0) ≤ 2147483647 := by have z := HC_ei (j := a0) hC y4.1 (by rw [y4.2.1]; decide) (by omega); exact z
      refine jx_go (tg := 23) rfl rfl ?_
      refine jx_rt (v := some (.int (i32 (F (F (me) (4 : Int)) (a0))))) rfl rfl rfl rfl rfl rfl ?_
      exact ⟨(F (F (me) (4 : Int)) (a0)), rfl, rfl, by omega, trivial⟩
set_option maxRecDepth 20000 in
set_option maxHeartbeats 4000000 in
theorem k_LCore_poke {X : jX} {dd : Nat} {R : Nat → jC} {m : Nat} {tg ln : Int → Int} {F : Int → Int → Int} {me a0 a1 : Int} (hd : 1 ≤ dd) (hC : HC 0 m tg ln F) (o_me : own m me) (t_me : tg me = 3) (h_a0 : (-2147483648 : Int) ≤ a0 ∧ a0 ≤ 2147483647) (h_a1 : (-2147483648 : Int) ≤ a1 ∧ a1 ≤ 2147483647) : wk X dd 87 [rv me, .int (i32 a0), .int (i32 a1)] (cV R m tg ln F) (fun o V_q => ∃ (F_q : Int → Int → Int), V_q = cV R m tg ln F_q ∧ o = .inl none ∧ HC 0 m tg ln F_q ∧ Fq 0 [(21, -5)] m tg F F_q ∧ True) := by
  obtain ⟨d, rfl⟩ : ∃ d, dd = d + 1 := ⟨dd - 1, by omega⟩
  refine wk_of (e := jm87) rfl (by rw [jS_r, jS_i, jS_i, jS_0]; exact Nat.le_of_ble_eq_true rfl) ?_
  rw [la_r, la_i, la_i, la_0]
  show wj X d jm87 (0, [(0, rv (me)), (1, .int (i32 (a0))), (2, .int (i32 (a1)))], [], cV R m tg ln F) _
  have hM0 : Fq 0 [(21, -5)] m tg F F := Fq_r
  obtain ⟨L0, eL0⟩ : ∃ q : jL, q = [(0, rv (me)), (1, .int (i32 (a0))), (2, .int (i32 (a1)))] := ⟨_, rfl⟩
  rw [← eL0]
  have g1 : jGet L0 0 = some (rv (me)) := eL0 ▸ (rfl : jGet [(0, rv (me)), (1, .int (i32 (a0))), (2, .int (i32 (a1)))] 0 = some (rv (me)))
  have g2 : jGet L0 1 = some (.int (i32 (a0))) := eL0 ▸ (rfl : jGet [(0, rv (me)), (1, .int (i32 (a0))), (2, .int (i32 (a1)))] 1 = some (.int (i32 (a0))))
  have g3 : jGet L0 2 = some (.int (i32 (a1))) := eL0 ▸ (rfl : jGet [(0, rv (me)), (1, .int (i32 (a0))), (2, .int (i32 (a1)))] 2 = some (.int (i32 (a1))))
  clear eL0
  refine jx_ld (pc_q := 1) (l_q := L0) (st_q := [.int (i32 (a0))]) rfl (jl_iloadn g2) ?_
  refine jx_if_lt (pc_q := 4) (tg := 20) rfl rfl rfl (by omega) (by omega) (fun h4 => ?_) (fun h4 => ?_)
  · have _q := h4
    refine jx_rt (v := none) rfl rfl rfl rfl rfl rfl ?_
    exact ⟨F, rfl, rfl, hC, hM0, trivial⟩
  · have _q := h4
    refine jx_ld (pc_q := 5) (l_q := L0) (st_q := [.int (i32 (a0))]) rfl (jl_iloadn g2) ?_
    refine jx_ld (pc_q := 6) (l_q := L0) (st_q := [rv (me), .int (i32 (a0))]) rfl (jl_rvn g1) ?_
    refine cx_gr (pc_q := 9) (c := 2) (q := 4) (v := F (me) (4 : Int)) rfl rfl (by decide) (by decide) rfl rfl o_me t_me rfl ?_
    have y5 : own m (F (me) (4 : Int)) ∧ tg (F (me) (4 : Int)) = 21 ∧ ((0 : Int) ≠ 0 → ln (F (me) (4 : Int)) = 0) := by have z := HC_n (c := 2) (q := 4) hC o_me t_me (own_z o_me) (by decide) rfl; rw [show F (me) ((4 : Nat) : Int) = F (me) (4 : Int) from rfl] at z; exact ⟨z.1, z.2.1, z.2.2.1⟩
    have b6 := HC_l hC y5.1 y5.2.1 (by decide)
    refine cx_len (pc_q := 10) rfl rfl y5.1 (by rw [y5.2.1]; decide) (by omega) ?_
    refine jx_icmp_ge (pc_q := 13) (tg := 20) rfl rfl rfl (by omega) (by omega) (by omega) (by omega) (fun h7 => ?_) (fun h7 => ?_)
    · have _q := h7
      refine jx_rt (v := none) rfl rfl rfl rfl rfl rfl ?_
      exact ⟨F, rfl, rfl, hC, hM0, trivial⟩
    · have _q := h7
      refine jx_ld (pc_q := 14) (l_q := L0) (st_q := [rv (me)]) rfl (jl_rvn g1) ?_
      refine cx_gr (pc_q := 17) (c := 2) (q := 4) (v := F (me) (4 : Int)) rfl rfl (by decide) (by decide) rfl rfl o_me t_me rfl ?_
      refine jx_ld (pc_q := 18) (l_q := L0) (st_q := [.int (i32 (a0)), rv (F (me) (4 : Int))]) rfl (jl_iloadn g2) ?_
      refine jx_ld (pc_q := 19) (l_q := L0) (st_q := [.int (i32 (a1)), .int (i32 (a0)), rv (F (me) (4 : Int))]) rfl (jl_iloadn g3) ?_
      refine cx_ias (pc_q := 20) (z := a0) (y := a1) rfl rfl y5.1 y5.2.1 (by omega) (by omega) (by omega) ?_
      obtain ⟨F8, eF8⟩ : ∃ q, q = uF F (F (me) (4 : Int)) (a0) (a1) := ⟨_, rfl⟩
      rw [← eF8]
      have hC9 : HC 0 m tg ln F8 := by rw [eF8]; exact HC_pi hC y5.1 y5.2.1 (by decide) (by omega) (by rw [(show F (F (me) (4 : Int)) (-1) = 0 by have z := HC_n (c := 2) (q := 4) hC o_me t_me (own_z o_me) (by decide) rfl; rw [show F (me) ((4 : Nat) : Int) = F (me) (4 : Int) from rfl] at z; exact z.2.2.2 (by decide))]; exact ⟨(by show (-2147483648 : Int) ≤ _; omega), (by show _ ≤ (2147483647 : Int); omega)⟩)
      have hM10 : Fq 0 [(21, -5)] m tg F F8 := by rw [eF8]; exact Fq_p hM0 y5.2.1 (fun _ => rfl) (inL_a rfl (by omega) rfl)
      refine jx_rt (v := none) rfl rfl rfl rfl rfl rfl ?_
      exact ⟨F8, rfl, rfl, hC9, hM10, trivial⟩
set_option maxRecDepth 20000 in
set_option maxHeartbeats 4000000 in
theorem k_LCore_push {X : jX} {dd : Nat} {R : Nat → jC} {m : Nat} {tg ln : Int → Int} {F : Int → Int → Int} {me a0 : Int} (hd : 1 ≤ dd) (hC : HC 0 m tg ln F) (o_me : own m me) (t_me : tg me = 3) (h_a0 : (-2147483648 : Int) ≤ a0 ∧ a0 ≤ 2147483647) : wk X dd 88 [rv me, .int (i32 a0)] (cV R m tg ln F) (fun o V_q => ∃ (F_q : Int → Int → Int), V_q = cV R m tg ln F_q ∧ o = .inl none ∧ HC 0 m tg ln F_q ∧ Fq 0 [(3, 5), (3, 6), (3, 7)] m tg F F_q ∧ True) := by
  obtain ⟨d, rfl⟩ : ∃ d, dd = d + 1 := ⟨dd - 1, by omega⟩
  refine wk_of (e := jm88) rfl (by rw [jS_r, jS_i, jS_0]; exact Nat.le_of_ble_eq_true rfl) ?_
  rw [la_r, la_i, la_0]
  show wj X d jm88 (0, [(0, rv (me)), (1, .int (i32 (a0)))], [], cV R m tg ln F) _
  have hM0 : Fq 0 [(3, 5), (3, 6), (3, 7)] m tg F F := Fq_r
  obtain ⟨L0, eL0⟩ : ∃ q : jL, q = [(0, rv (me)), (1, .int (i32 (a0)))] := ⟨_, rfl⟩
  rw [← eL0]
  have g1 : jGet L0 0 = some (rv (me)) := eL0 ▸ (rfl : jGet [(0, rv (me)), (1, .int (i32 (a0)))] 0 = some (rv (me)))
  have g2 : jGet L0 1 = some (.int (i32 (a0))) := eL0 ▸ (rfl : jGet [(0, rv (me)), (1, .int (i32 (a0)))] 1 = some (.int (i32 (a0))))
  clear eL0
  refine jx_ld (pc_q := 1) (l_q := L0) (st_q := [rv (me)]) rfl (jl_rvn g1) ?_
  refine jx_ld (pc_q := 2) (l_q := L0) (st_q := [rv (me), rv (me)]) rfl (jl_rvn g1) ?_
  refine cx_gi (pc_q := 5) (c := 2) (q := 6) (v := F (me) (6 : Int)) rfl rfl (by decide) (by decide) (Or.inl rfl) rfl o_me t_me rfl ?_
  have b3 : (-2147483648 : Int) ≤ F (me) (6 : Int) ∧ F (me) (6 : Int) ≤ 2147483647 := by have z := HC_i (c := 2) (q := 6) hC o_me t_me (by decide) rfl; rw [show F (me) ((6 : Nat) : Int) = F (me) (6 : Int) from rfl] at z; exact z
  refine cx_pi (pc_q := 8) (c := 2) (q := 7) (qi := (7 : Int)) (z := F (me) (6 : Int)) rfl rfl (by decide) (by decide) rfl rfl rfl (by decide) rfl o_me t_me rfl ?_
  obtain ⟨F4, eF4⟩ : ∃ q, q = uF F (me) (7 : Int) (F (me) (6 : Int)) := ⟨_, rfl⟩
  rw [← eF4]
  have hC5 : HC 0 m tg ln F4 := by rw [eF4]; exact HC_fi (c := 2) (q := 7) hC t_me (by decide) rfl (by omega) (by omega) ⟨fun w => absurd w (by decide), fun _ => ⟨fun w => absurd w (by decide), fun w => absurd w (by decide)⟩⟩
  have hM6 : Fq 0 [(3, 5), (3, 6), (3, 7)] m tg F F4 := by rw [eF4]; exact Fq_p hM0 t_me (fun _ => rfl) rfl
  refine jx_ld (pc_q := 9) (l_q := L0) (st_q := [rv (me)]) rfl (jl_rvn g1) ?_
  refine jx_ld (pc_q := 10) (l_q := L0) (st_q := [rv (me), rv (me)]) rfl (jl_rvn g1) ?_
  refine cx_gi (pc_q := 13) (c := 2) (q := 5) (v := F (me) (5 : Int)) rfl rfl (by decide) (by decide) (Or.inl rfl) rfl o_me t_me (show F4 (me) (5 : Int) = F (me) (5 : Int) from by rw [eF4]; exact uF_j (by decide)) ?_
  have b7 : (-2147483648 : Int) ≤ F (me) (5 : Int) ∧ F (me) (5 : Int) ≤ 2147483647 := by have z := HC_i (c := 2) (q := 5) hC5 o_me t_me (by decide) rfl; rw [show F4 (me) ((5 : Nat) : Int) = F (me) (5 : Int) from (show F4 (me) (5 : Int) = F (me) (5 : Int) from by rw [eF4]; exact uF_j (by decide))] at z; exact z
  refine cx_pi (pc_q := 16) (c := 2) (q := 6) (qi := (6 : Int)) (z := F (me) (5 : Int)) rfl rfl (by decide) (by decide) rfl rfl rfl (by decide) rfl o_me t_me rfl ?_
  obtain ⟨F8, eF8⟩ : ∃ q, q = uF F4 (me) (6 : Int) (F (me) (5 : Int)) := ⟨_, rfl⟩
  rw [← eF8]
  have hC9 : HC 0 m tg ln F8 := by rw [eF8]; exact HC_fi (c := 2) (q := 6) hC5 t_me (by decide) rfl (by omega) (by omega) ⟨fun w => absurd w (by decide), fun _ => ⟨fun w => absurd w (by decide), fun w => absurd w (by decide)⟩⟩
  have hM10 : Fq 0 [(3, 5), (3, 6), (3, 7)] m tg F F8 := by rw [eF8]; exact Fq_p hM6 t_me (fun _ => rfl) rfl
  refine jx_ld (pc_q := 17) (l_q := L0) (st_q := [rv (me)]) rfl (jl_rvn g1) ?_
  refine jx_ld (pc_q := 18) (l_q := L0) (st_q := [.int (i32 (a0)), rv (me)]) rfl (jl_iloadn g2) ?_
  refine cx_pi (pc_q := 21) (c := 2) (q := 5) (qi := (5 : Int)) (z := a0) rfl rfl (by decide) (by decide) rfl rfl rfl (by decide) rfl o_me t_me rfl ?_
  obtain ⟨F11, eF11⟩ : ∃ q, q = uF F8 (me) (5 : Int) (a0) := ⟨_, rfl⟩
  rw [← eF11]
  have hC12 : HC 0 m tg ln F11 := by rw [eF11]; exact HC_fi (c := 2) (q := 5) hC9 t_me (by decide) rfl (by omega) (by omega) ⟨fun w => absurd w (by decide), fun _ => ⟨fun w => absurd w (by decide), fun w => absurd w (by decide)⟩⟩
  have hM13 : Fq 0 [(3, 5), (3, 6), (3, 7)] m tg F F11 := by rw [eF11]; exact Fq_p hM10 t_me (fun _ => rfl) rfl
  refine jx_rt (v := none) rfl rfl rfl rfl rfl rfl ?_
  exact ⟨F11, rfl, rfl, hC12, hM13, trivial⟩
set_option maxRecDepth 20000 in
set_option maxHeartbeats 4000000 in
theorem k_LCore_drop {X : jX} {dd : Nat} {R : Nat → jC} {m : Nat} {tg ln : Int → Int} {F : Int → Int → Int} {me : Int} (hd : 1 ≤ dd) (hC : HC 0 m tg ln F) (o_me : own m me) (t_me : tg me = 3) : wk X dd 89 [rv me] (cV R m tg ln F) (fun o V_q => ∃ (F_q : Int → Int → Int), V_q = cV R m tg ln F_q ∧ o = .inl none ∧ HC 0 m tg ln F_q ∧ Fq 0 [(3, 5), (3, 6)] m tg F F_q ∧ True) := by
  obtain ⟨d, rfl⟩ : ∃ d, dd = d + 1 := ⟨dd - 1, by omega⟩
  refine wk_of (e := jm89) rfl (by rw [jS_r, jS_0]; exact Nat.le_of_ble_eq_true rfl) ?_
  rw [la_r, la_0]
  show wj X d jm89 (0, [(0, rv (me))], [], cV R m tg ln F) _
  have hM0 : Fq 0 [(3, 5), (3, 6)] m tg F F := Fq_r
  obtain ⟨L0, eL0⟩ : ∃ q : jL, q = [(0, rv (me))] := ⟨_, rfl⟩
  rw [← eL0]
  have g1 : jGet L0 0 = some (rv (me)) := eL0 ▸ (rfl : jGet [(0, rv (me))] 0 = some (rv (me)))
  clear eL0
  refine jx_ld (pc_q := 1) (l_q := L0) (st_q := [rv (me)]) rfl (jl_rvn g1) ?_
  refine jx_ld (pc_q := 2) (l_q := L0) (st_q := [rv (me), rv (me)]) rfl (jl_rvn g1) ?_
  refine cx_gi (pc_q := 5) (c := 2) (q := 6) (v := F (me) (6 : Int)) rfl rfl (by decide) (by decide) (Or.inl rfl) rfl o_me t_me rfl ?_
  have b2 : (-2147483648 : Int) ≤ F (me) (6 : Int) ∧ F (me) (6 : Int) ≤ 2147483647 := by have z := HC_i (c := 2) (q := 6) hC o_me t_me (by decide) rfl; rw [show F (me) ((6 : Nat) : Int) = F (me) (6 : Int) from rfl] at z; exact z
  refine cx_pi (pc_q := 8) (c := 2) (q := 5) (qi := (5 : Int)) (z := F (me) (6 : Int)) rfl rfl (by decide) (by decide) rfl rfl rfl (by decide) rfl o_me t_me rfl ?_
  obtain ⟨F3, eF3⟩ : ∃ q, q = uF F (me) (5 : Int) (F (me) (6 : Int)) := ⟨_, rfl⟩
  rw [← eF3]
  have hC4 : HC 0 m tg ln F3 := by rw [eF3]; exact HC_fi (c := 2) (q := 5) hC t_me (by decide) rfl (by omega) (by omega) ⟨fun w => absurd w (by decide), fun _ => ⟨fun w => absurd w (by decide), fun w => absurd w (by decide)⟩⟩
  have hM5 : Fq 0 [(3, 5), (3, 6)] m tg F F3 := by rw [eF3]; exact Fq_p hM0 t_me (fun _ => rfl) rfl
  refine jx_ld (pc_q := 9) (l_q := L0) (st_q := [rv (me)]) rfl (jl_rvn g1) ?_
  refine jx_ld (pc_q := 10) (l_q := L0) (st_q := [rv (me), rv (me)]) rfl (jl_rvn g1) ?_
  refine cx_gi (pc_q := 13) (c := 2) (q := 7) (v := F (me) (7 : Int)) rfl rfl (by decide) (by decide) (Or.inl rfl) rfl o_me t_me (show F3 (me) (7 : Int) = F (me) (7 : Int) from by rw [eF3]; exact uF_j (by decide)) ?_
  have b6 : (-2147483648 : Int) ≤ F (me) (7 : Int) ∧ F (me) (7 : Int) ≤ 2147483647 := by have z := HC_i (c := 2) (q := 7) hC4 o_me t_me (by decide) rfl; rw [show F3 (me) ((7 : Nat) : Int) = F (me) (7 : Int) from (show F3 (me) (7 : Int) = F (me) (7 : Int) from by rw [eF3]; exact uF_j (by decide))] at z; exact z
  refine cx_pi (pc_q := 16) (c := 2) (q := 6) (qi := (6 : Int)) (z := F (me) (7 : Int)) rfl rfl (by decide) (by decide) rfl rfl rfl (by decide) rfl o_me t_me rfl ?_
  obtain ⟨F7, eF7⟩ : ∃ q, q = uF F3 (me) (6 : Int) (F (me) (7 : Int)) := ⟨_, rfl⟩
  rw [← eF7]
  have hC8 : HC 0 m tg ln F7 := by rw [eF7]; exact HC_fi (c := 2) (q := 6) hC4 t_me (by decide) rfl (by omega) (by omega) ⟨fun w => absurd w (by decide), fun _ => ⟨fun w => absurd w (by decide), fun w => absurd w (by decide)⟩⟩
  have hM9 : Fq 0 [(3, 5), (3, 6)] m tg F F7 := by rw [eF7]; exact Fq_p hM5 t_me (fun _ => rfl) rfl
  refine jx_rt (v := none) rfl rfl rfl rfl rfl rfl ?_
  exact ⟨F7, rfl, rfl, hC8, hM9, trivial⟩
set_option maxRecDepth 20000 in
set_option maxHeartbeats 4000000 in
theorem k_LCore_dropTwo {X : jX} {dd : Nat} {R : Nat → jC} {m : Nat} {tg ln : Int → Int} {F : Int → Int → Int} {me : Int} (hd : 2 ≤ dd) (hC : HC 0 m tg ln F) (o_me : own m me) (t_me : tg me = 3) : wk X dd 90 [rv me] (cV R m tg ln F) (fun o V_q => ∃ (F_q : Int → Int → Int), V_q = cV R m tg ln F_q ∧ o = .inl none ∧ HC 0 m tg ln F_q ∧ Fq 0 [(3, 5), (3, 6)] m tg F F_q ∧ True) := by
  obtain ⟨d, rfl⟩ : ∃ d, dd = d + 1 := ⟨dd - 1, by omega⟩
  refine wk_of (e := jm90) rfl (by rw [jS_r, jS_0]; exact Nat.le_of_ble_eq_true rfl) ?_
  rw [la_r, la_0]
  show wj X d jm90 (0, [(0, rv (me))], [], cV R m tg ln F) _
  have hM0 : Fq 0 [(3, 5), (3, 6)] m tg F F := Fq_r
  obtain ⟨L0, eL0⟩ : ∃ q : jL, q = [(0, rv (me))] := ⟨_, rfl⟩
  rw [← eL0]
  have g1 : jGet L0 0 = some (rv (me)) := eL0 ▸ (rfl : jGet [(0, rv (me))] 0 = some (rv (me)))
  clear eL0
  refine jx_ld (pc_q := 1) (l_q := L0) (st_q := [rv (me)]) rfl (jl_rvn g1) ?_
  refine cx_vi (c := 2) (a := me) (st := []) (as := []) rfl rfl rfl o_me t_me (by decide) rfl ⟨rfl, rfl, (Nat.le_of_ble_eq_true rfl)⟩ rfl (k_LCore_drop (dd := d) (R := R) (m := m) (tg := tg) (ln := ln) (F := F) (me := me) (hd := by omega) (hC := hC) (o_me := o_me) (t_me := t_me)) (fun o V_q hq => ?_)
  obtain ⟨F2, rfl, rfl, hC3, hM4, -⟩ := hq
  have hM5 : Fq 0 [(3, 5), (3, 6)] m tg F F2 := Fq_t (ln := ln) (ln1 := ln) hM0 Ex_r hM4 (by decide) (Or.inl rfl)
  refine Or.inl ⟨rfl, ?_⟩
  refine jx_ld (pc_q := 5) (l_q := L0) (st_q := [rv (me)]) rfl (jl_rvn g1) ?_
  refine cx_vi (c := 2) (a := me) (st := []) (as := []) rfl rfl rfl o_me t_me (by decide) rfl ⟨rfl, rfl, (Nat.le_of_ble_eq_true rfl)⟩ rfl (k_LCore_drop (dd := d) (R := R) (m := m) (tg := tg) (ln := ln) (F := F2) (me := me) (hd := by omega) (hC := hC3) (o_me := o_me) (t_me := t_me)) (fun o V_q hq => ?_)
  obtain ⟨F6, rfl, rfl, hC7, hM8, -⟩ := hq
  have hM9 : Fq 0 [(3, 5), (3, 6)] m tg F F6 := Fq_t (ln := ln) (ln1 := ln) hM5 Ex_r hM8 (by decide) (Or.inl rfl)
  refine Or.inl ⟨rfl, ?_⟩
  refine jx_rt (v := none) rfl rfl rfl rfl rfl rfl ?_
  exact ⟨F6, rfl, rfl, hC7, hM9, trivial⟩
set_option maxRecDepth 20000 in
set_option maxHeartbeats 4000000 in
theorem k_LCore_replaceTwo {X : jX} {dd : Nat} {R : Nat → jC} {m : Nat} {tg ln : Int → Int} {F : Int → Int → Int} {me a0 : Int} (hd : 3 ≤ dd) (hC : HC 0 m tg ln F) (o_me : own m me) (t_me : tg me = 3) (h_a0 : (-2147483648 : Int) ≤ a0 ∧ a0 ≤ 2147483647) : wk X dd 91 [rv me, .int (i32 a0)] (cV R m tg ln F) (fun o V_q => ∃ (F_q : Int → Int → Int), V_q = cV R m tg ln F_q ∧ o = .inl none ∧ HC 0 m tg ln F_q ∧ Fq 0 [(3, 5), (3, 6), (3, 7)] m tg F F_q ∧ True) := by
  obtain ⟨d, rfl⟩ : ∃ d, dd = d + 1 := ⟨dd - 1, by omega⟩
  refine wk_of (e := jm91) rfl (by rw [jS_r, jS_i, jS_0]; exact Nat.le_of_ble_eq_true rfl) ?_
  rw [la_r, la_i, la_0]
  show wj X d jm91 (0, [(0, rv (me)), (1, .int (i32 (a0)))], [], cV R m tg ln F) _
  have hM0 : Fq 0 [(3, 5), (3, 6), (3, 7)] m tg F F := Fq_r
  obtain ⟨L0, eL0⟩ : ∃ q : jL, q = [(0, rv (me)), (1, .int (i32 (a0)))] := ⟨_, rfl⟩
  rw [← eL0]
  have g1 : jGet L0 0 = some (rv (me)) := eL0 ▸ (rfl : jGet [(0, rv (me)), (1, .int (i32 (a0)))] 0 = some (rv (me)))
  have g2 : jGet L0 1 = some (.int (i32 (a0))) := eL0 ▸ (rfl : jGet [(0, rv (me)), (1, .int (i32 (a0)))] 1 = some (.int (i32 (a0))))
  clear eL0
  refine jx_ld (pc_q := 1) (l_q := L0) (st_q := [rv (me)]) rfl (jl_rvn g1) ?_
  refine cx_vi (c := 2) (a := me) (st := []) (as := []) rfl rfl rfl o_me t_me (by decide) rfl ⟨rfl, rfl, (Nat.le_of_ble_eq_true rfl)⟩ rfl (k_LCore_dropTwo (dd := d) (R := R) (m := m) (tg := tg) (ln := ln) (F := F) (me := me) (hd := by omega) (hC := hC) (o_me := o_me) (t_me := t_me)) (fun o V_q hq => ?_)
  obtain ⟨F3, rfl, rfl, hC4, hM5, -⟩ := hq
  have hM6 : Fq 0 [(3, 5), (3, 6), (3, 7)] m tg F F3 := Fq_t (ln := ln) (ln1 := ln) hM0 Ex_r hM5 (by decide) (Or.inl rfl)
  refine Or.inl ⟨rfl, ?_⟩
  refine jx_ld (pc_q := 5) (l_q := L0) (st_q := [rv (me)]) rfl (jl_rvn g1) ?_
  refine jx_ld (pc_q := 6) (l_q := L0) (st_q := [.int (i32 (a0)), rv (me)]) rfl (jl_iloadn g2) ?_
  refine cx_vi (c := 2) (a := me) (st := []) (as := [.int (i32 (a0))]) rfl rfl rfl o_me t_me (by decide) rfl ⟨rfl, rfl, (Nat.le_of_ble_eq_true rfl)⟩ rfl (k_LCore_push (dd := d) (R := R) (m := m) (tg := tg) (ln := ln) (F := F3) (me := me) (a0 := a0) (hd := by omega) (hC := hC4) (o_me := o_me) (t_me := t_me) (h_a0 := by omega)) (fun o V_q hq => ?_)
  obtain ⟨F7, rfl, rfl, hC8, hM9, -⟩ := hq
  have hM10 : Fq 0 [(3, 5), (3, 6), (3, 7)] m tg F F7 := Fq_t (ln := ln) (ln1 := ln) hM6 Ex_r hM9 (by decide) (Or.inl rfl)
  refine Or.inl ⟨rfl, ?_⟩
  refine jx_rt (v := none) rfl rfl rfl rfl rfl rfl ?_
  exact ⟨F7, rfl, rfl, hC8, hM10, trivial⟩
set_option maxRecDepth 20000 in
set_option maxHeartbeats 4000000 in
theorem k_LCore_self {X : jX} {dd : Nat} {R : Nat → jC} {m : Nat} {tg ln : Int → Int} {F : Int → Int → Int} {me : Int} (hd : 1 ≤ dd) (hC : HC 0 m tg ln F) (o_me : own m me) (t_me : tg me = 3) : wk X dd 92 [rv me] (cV R m tg ln F) (fun o V_q => ∃ (r : Int), V_q = cV R m tg ln F ∧ o = .inl (some (.int (i32 r))) ∧ (-2147483648 ≤ r ∧ r ≤ 2147483647) ∧ True) := by
  obtain ⟨d, rfl⟩ : ∃ d, dd = d + 1 := ⟨dd - 1, by omega⟩
  refine wk_of (e := jm92) rfl (by rw [jS_r, jS_0]; exact Nat.le_of_ble_eq_true rfl) ?_
  rw [la_r, la_0]
  show wj X d jm92 (0, [(0, rv (me))], [], cV R m tg ln F) _
  obtain ⟨L0, eL0⟩ : ∃ q : jL, q = [(0, rv (me))] := ⟨_, rfl⟩
  rw [← eL0]
  have g1 : jGet L0 0 = some (rv (me)) := eL0 ▸ (rfl : jGet [(0, rv (me))] 0 = some (rv (me)))
  clear eL0
  refine jx_ar (pc_q := 1) (st_q := [.int (i32 (2))]) rfl rfl rfl rfl ?_
  refine jx_ld (pc_q := 2) (l_q := L0) (st_q := [rv (me), .int (i32 (2))]) rfl (jl_rvn g1) ?_
  refine cx_gi (pc_q := 5) (c := 2) (q := 9) (v := F (me) (9 : Int)) rfl rfl (by decide) (by decide) (Or.inl rfl) rfl o_me t_me rfl ?_
  have b2 : (-2147483648 : Int) ≤ F (me) (9 : Int) ∧ F (me) (9 : Int) ≤ 2147483647 := by have z := HC_i (c := 2) (q := 9) hC o_me t_me (by decide) rfl; rw [show F (me) ((9 : Nat) : Int) = F (me) (9 : Int) from rfl] at z; exact z
  refine jx_mul (pc_q := 6) rfl rfl ?_
  obtain ⟨z3, ez3⟩ : ∃ q, q = (i32 ((2 * F (me) (9 : Int)))).toInt := ⟨_, rfl⟩
  have bz3 : (-2147483648 : Int) ≤ z3 ∧ z3 ≤ 2147483647 := ez3 ▸ i32_rg _
  rw [show i32 ((2 * F (me) (9 : Int))) = i32 z3 by rw [ez3, i32_of]]
  clear ez3
  refine jx_ld (pc_q := 7) (l_q := L0) (st_q := [rv (me), .int (i32 (z3))]) rfl (jl_rvn g1) ?_
  refine cx_gi (pc_q := 10) (c := 2) (q := 12) (v := F (me) (12 : Int)) rfl rfl (by decide) (by decide) (Or.inl rfl) rfl o_me t_me rfl ?_
  have b4 : (-2147483648 : Int) ≤ F (me) (12 : Int) ∧ F (me) (12 : Int) ≤ 2147483647 := by have z := HC_i (c := 2) (q := 12) hC o_me t_me (by decide) rfl; rw [show F (me) ((12 : Nat) : Int) = F (me) (12 : Int) from rfl] at z; exact z
  refine jx_add (pc_q := 11) rfl rfl ?_
  obtain ⟨z5, ez5⟩ : ∃ q, q = (i32 ((z3 + F (me) (12 : Int)))).toInt := ⟨_, rfl⟩
  have bz5 : (-2147483648 : Int) ≤ z5 ∧ z5 ≤ 2147483647 := ez5 ▸ i32_rg _
  rw [show i32 ((z3 + F (me) (12 : Int))) = i32 z5 by rw [ez5, i32_of]]
  clear ez5
  refine jx_rt (v := some (.int (i32 (z5)))) rfl rfl rfl rfl rfl rfl ?_
  exact ⟨(z5), rfl, rfl, by omega, trivial⟩
set_option maxRecDepth 20000 in
set_option maxHeartbeats 4000000 in
theorem k_LCore_insert {X : jX} {dd : Nat} {R : Nat → jC} {m : Nat} {tg ln : Int → Int} {F : Int → Int → Int} {me a0 a1 : Int} (hd : 1 ≤ dd) (hC : HC 0 m tg ln F) (o_me : own m me) (t_me : tg me = 3) (h_a0 : (-2147483648 : Int) ≤ a0 ∧ a0 ≤ 2147483647) (h_a1 : (-2147483648 : Int) ≤ a1 ∧ a1 ≤ 2147483647) : wk X dd 93 [rv me, .int (i32 a0), .int (i32 a1)] (cV R m tg ln F) (fun o V_q => ∃ (F_q : Int → Int → Int), V_q = cV R m tg ln F_q ∧ o = .inl none ∧ HC 0 m tg ln F_q ∧ Fq 0 [(3, 16), (3, 17), (21, -5)] m tg F F_q ∧ True) := by
  obtain ⟨d, rfl⟩ : ∃ d, dd = d + 1 := ⟨dd - 1, by omega⟩
  refine wk_of (e := jm93) rfl (by rw [jS_r, jS_i, jS_i, jS_0]; exact Nat.le_of_ble_eq_true rfl) ?_
  rw [la_r, la_i, la_i, la_0]
  show wj X d jm93 (0, [(0, rv (me)), (1, .int (i32 (a0))), (2, .int (i32 (a1)))], [], cV R m tg ln F) _
  have hM0 : Fq 0 [(3, 16), (3, 17), (21, -5)] m tg F F := Fq_r
  obtain ⟨L0, eL0⟩ : ∃ q : jL, q = [(0, rv (me)), (1, .int (i32 (a0))), (2, .int (i32 (a1)))] := ⟨_, rfl⟩
  rw [← eL0]
  have g1 : jGet L0 0 = some (rv (me)) := eL0 ▸ (rfl : jGet [(0, rv (me)), (1, .int (i32 (a0))), (2, .int (i32 (a1)))] 0 = some (rv (me)))
  have g2 : jGet L0 1 = some (.int (i32 (a0))) := eL0 ▸ (rfl : jGet [(0, rv (me)), (1, .int (i32 (a0))), (2, .int (i32 (a1)))] 1 = some (.int (i32 (a0))))
  have g3 : jGet L0 2 = some (.int (i32 (a1))) := eL0 ▸ (rfl : jGet [(0, rv (me)), (1, .int (i32 (a0))), (2, .int (i32 (a1)))] 2 = some (.int (i32 (a1))))
  clear eL0
  refine jx_ld (pc_q := 1) (l_q := L0) (st_q := [.int (i32 (a0))]) rfl (jl_iloadn g2) ?_
  refine jx_if_lt (pc_q := 4) (tg := 24) rfl rfl rfl (by omega) (by omega) (fun h4 => ?_) (fun h4 => ?_)
  · have _q := h4
    refine jx_rt (v := none) rfl rfl rfl rfl rfl rfl ?_
    exact ⟨F, rfl, rfl, hC, hM0, trivial⟩
  · have _q := h4
    refine jx_ld (pc_q := 5) (l_q := L0) (st_q := [.int (i32 (a0))]) rfl (jl_iloadn g2) ?_
    refine jx_ld (pc_q := 6) (l_q := L0) (st_q := [rv (me), .int (i32 (a0))]) rfl (jl_rvn g1) ?_
    refine cx_gi (pc_q := 9) (c := 2) (q := 16) (v := F (me) (16 : Int)) rfl rfl (by decide) (by decide) (Or.inl rfl) rfl o_me t_me rfl ?_
    have b5 : (-2147483648 : Int) ≤ F (me) (16 : Int) ∧ F (me) (16 : Int) ≤ 2147483647 := by have z := HC_i (c := 2) (q := 16) hC o_me t_me (by decide) rfl; rw [show F (me) ((16 : Nat) : Int) = F (me) (16 : Int) from rfl] at z; exact z
    have x6 := (hC.2.2.2.2.2 (me) o_me (own_z o_me)).2 t_me
    refine jx_icmp_gt (pc_q := 12) (tg := 24) rfl rfl rfl (by omega) (by omega) (by omega) (by omega) (fun h7 => ?_) (fun h7 => ?_)
    · have _q := h7
      refine jx_rt (v := none) rfl rfl rfl rfl rfl rfl ?_
      exact ⟨F, rfl, rfl, hC, hM0, trivial⟩
    · have _q := h7
      refine jx_ld (pc_q := 13) (l_q := L0) (st_q := [rv (me)]) rfl (jl_rvn g1) ?_
      refine cx_gi (pc_q := 16) (c := 2) (q := 16) (v := F (me) (16 : Int)) rfl rfl (by decide) (by decide) (Or.inl rfl) rfl o_me t_me rfl ?_
      have x8 := (hC.2.2.2.2.2 (me) o_me (own_z o_me)).2 t_me
      refine jx_ld (pc_q := 17) (l_q := L0) (st_q := [rv (me), .int (i32 (F (me) (16 : Int)))]) rfl (jl_rvn g1) ?_
      refine cx_gr (pc_q := 20) (c := 2) (q := 15) (v := F (me) (15 : Int)) rfl rfl (by decide) (by decide) rfl rfl o_me t_me rfl ?_
      have y9 : own m (F (me) (15 : Int)) ∧ tg (F (me) (15 : Int)) = 21 ∧ ((0 : Int) ≠ 0 → ln (F (me) (15 : Int)) = 0) := by have z := HC_n (c := 2) (q := 15) hC o_me t_me (own_z o_me) (by decide) rfl; rw [show F (me) ((15 : Nat) : Int) = F (me) (15 : Int) from rfl] at z; exact ⟨z.1, z.2.1, z.2.2.1⟩
      have b10 := HC_l hC y9.1 y9.2.1 (by decide)
      refine cx_len (pc_q := 21) rfl rfl y9.1 (by rw [y9.2.1]; decide) (by omega) ?_
      refine jx_icmp_lt (pc_q := 24) (tg := 25) rfl rfl rfl (by omega) (by omega) (by omega) (by omega) (fun h11 => ?_) (fun h11 => ?_)
      · have _q := h11
        refine jx_ld (pc_q := 26) (l_q := L0) (st_q := [rv (me)]) rfl (jl_rvn g1) ?_
        refine cx_gr (pc_q := 29) (c := 2) (q := 15) (v := F (me) (15 : Int)) rfl rfl (by decide) (by decide) rfl rfl o_me t_me rfl ?_
        refine jx_ld (pc_q := 30) (l_q := L0) (st_q := [.int (i32 (a0)), rv (F (me) (15 : Int))]) rfl (jl_iloadn g2) ?_
        refine jx_ld (pc_q := 31) (l_q := L0) (st_q := [rv (me), .int (i32 (a0)), rv (F (me) (15 : Int))]) rfl (jl_rvn g1) ?_
        refine cx_gr (pc_q := 34) (c := 2) (q := 15) (v := F (me) (15 : Int)) rfl rfl (by decide) (by decide) rfl rfl o_me t_me rfl ?_
        refine jx_ld (pc_q := 35) (l_q := L0) (st_q := [.int (i32 (a0)), rv (F (me) (15 : Int)), .int (i32 (a0)), rv (F (me) (15 : Int))]) rfl (jl_iloadn g2) ?_
        refine jx_ar (pc_q := 36) (st_q := [.int (i32 (1)), .int (i32 (a0)), rv (F (me) (15 : Int)), .int (i32 (a0)), rv (F (me) (15 : Int))]) rfl rfl rfl rfl ?_
        refine jx_add (pc_q := 37) rfl rfl ?_
        refine jx_ld (pc_q := 38) (l_q := L0) (st_q := [rv (me), .int (i32 ((a0 + 1))), rv (F (me) (15 : Int)), .int (i32 (a0)), rv (F (me) (15 : Int))]) rfl (jl_rvn g1) ?_
        refine cx_gi (pc_q := 41) (c := 2) (q := 16) (v := F (me) (16 : Int)) rfl rfl (by decide) (by decide) (Or.inl rfl) rfl o_me t_me rfl ?_
        have x12 := (hC.2.2.2.2.2 (me) o_me (own_z o_me)).2 t_me
        refine jx_ld (pc_q := 42) (l_q := L0) (st_q := [.int (i32 (a0)), .int (i32 (F (me) (16 : Int))), .int (i32 ((a0 + 1))), rv (F (me) (15 : Int)), .int (i32 (a0)), rv (F (me) (15 : Int))]) rfl (jl_iloadn g2) ?_
        refine jx_sub (pc_q := 43) rfl rfl ?_
        refine cx_cpy (pc_q := 46) (st := []) (x := a0) (y := (a0 + 1)) (z := (F (me) (16 : Int) - a0)) rfl rfl hC y9.1 y9.2.1 (show F (F (me) (15 : Int)) (-1) = 0 by have z := HC_n (c := 2) (q := 15) hC o_me t_me (own_z o_me) (by decide) rfl; rw [show F (me) ((15 : Nat) : Int) = F (me) (15 : Int) from rfl] at z; exact z.2.2.2 (by decide)) (by omega) (by omega) (by omega) (by omega) (by omega) (by omega) (Nat.le_of_ble_eq_true rfl) rfl (fun F13 hC14 hE15 => ?_)
        have hM16 : Fq 0 [(3, 16), (3, 17), (21, -5)] m tg F F13 := Fq_w hM0 hE15 y9.2.1 (fun _ => rfl) rfl rfl
        refine jx_ld (pc_q := 47) (l_q := L0) (st_q := [rv (me)]) rfl (jl_rvn g1) ?_
        refine cx_gr (pc_q := 50) (c := 2) (q := 15) (v := F (me) (15 : Int)) rfl rfl (by decide) (by decide) rfl rfl o_me t_me (show F13 (me) (15 : Int) = F (me) (15 : Int) from hE15.2 _ _ (fun w => by have q1 := t_me; have q2 := y9.2.1; rw [w, q2] at q1; exact absurd q1 (by decide))) ?_
        refine jx_ld (pc_q := 51) (l_q := L0) (st_q := [.int (i32 (a0)), rv (F (me) (15 : Int))]) rfl (jl_iloadn g2) ?_
        refine jx_ld (pc_q := 52) (l_q := L0) (st_q := [.int (i32 (a1)), .int (i32 (a0)), rv (F (me) (15 : Int))]) rfl (jl_iloadn g3) ?_
        refine cx_ias (pc_q := 53) (z := a0) (y := a1) rfl rfl y9.1 y9.2.1 (by omega) (by omega) (by omega) ?_
        obtain ⟨F17, eF17⟩ : ∃ q, q = uF F13 (F (me) (15 : Int)) (a0) (a1) := ⟨_, rfl⟩
        rw [← eF17]
        have hC18 : HC 0 m tg ln F17 := by rw [eF17]; exact HC_pi hC14 y9.1 y9.2.1 (by decide) (by omega) (by rw [(show F13 (F (me) (15 : Int)) (-1) = 0 by have z := HC_n (c := 2) (q := 15) hC14 o_me t_me (own_z o_me) (by decide) rfl; rw [show F13 (me) ((15 : Nat) : Int) = F (me) (15 : Int) from (show F13 (me) (15 : Int) = F (me) (15 : Int) from hE15.2 _ _ (fun w => by have q1 := t_me; have q2 := y9.2.1; rw [w, q2] at q1; exact absurd q1 (by decide)))] at z; exact z.2.2.2 (by decide))]; exact ⟨(by show (-2147483648 : Int) ≤ _; omega), (by show _ ≤ (2147483647 : Int); omega)⟩)
        have hM19 : Fq 0 [(3, 16), (3, 17), (21, -5)] m tg F F17 := by rw [eF17]; exact Fq_p hM16 y9.2.1 (fun _ => rfl) (inL_a rfl (by omega) rfl)
        refine jx_ld (pc_q := 54) (l_q := L0) (st_q := [rv (me)]) rfl (jl_rvn g1) ?_
        refine jx_ar (pc_q := 55) (st_q := [rv (me), rv (me)]) rfl rfl ja_dup rfl ?_
        refine cx_gi (pc_q := 58) (c := 2) (q := 16) (v := F (me) (16 : Int)) rfl rfl (by decide) (by decide) (Or.inl rfl) rfl o_me t_me ((show F17 (me) (16 : Int) = F13 (me) (16 : Int) from by rw [eF17]; exact uF_a (fun w => by have q1 := t_me; have q2 := y9.2.1; rw [w, q2] at q1; exact absurd q1 (by decide))).trans (show F13 (me) (16 : Int) = F (me) (16 : Int) from hE15.2 _ _ (fun w => by have q1 := t_me; have q2 := y9.2.1; rw [w, q2] at q1; exact absurd q1 (by decide)))) ?_
        have x20 := (hC18.2.2.2.2.2 (me) o_me (own_z o_me)).2 t_me
        rw [show F17 (me) (15 : Int) = F (me) (15 : Int) from ((show F17 (me) (15 : Int) = F13 (me) (15 : Int) from by rw [eF17]; exact uF_a (fun w => by have q1 := t_me; have q2 := y9.2.1; rw [w, q2] at q1; exact absurd q1 (by decide))).trans (show F13 (me) (15 : Int) = F (me) (15 : Int) from hE15.2 _ _ (fun w => by have q1 := t_me; have q2 := y9.2.1; rw [w, q2] at q1; exact absurd q1 (by decide))))] at x20
        rw [show F17 (me) (16 : Int) = F (me) (16 : Int) from ((show F17 (me) (16 : Int) = F13 (me) (16 : Int) from by rw [eF17]; exact uF_a (fun w => by have q1 := t_me; have q2 := y9.2.1; rw [w, q2] at q1; exact absurd q1 (by decide))).trans (show F13 (me) (16 : Int) = F (me) (16 : Int) from hE15.2 _ _ (fun w => by have q1 := t_me; have q2 := y9.2.1; rw [w, q2] at q1; exact absurd q1 (by decide))))] at x20
        refine jx_ar (pc_q := 59) (st_q := [.int (i32 (1)), .int (i32 (F (me) (16 : Int))), rv (me)]) rfl rfl rfl rfl ?_
        refine jx_add (pc_q := 60) rfl rfl ?_
        refine cx_pi (pc_q := 63) (c := 2) (q := 16) (qi := (16 : Int)) (z := (F (me) (16 : Int) + 1)) rfl rfl (by decide) (by decide) rfl rfl rfl (by decide) rfl o_me t_me rfl ?_
        obtain ⟨F21, eF21⟩ : ∃ q, q = uF F17 (me) (16 : Int) ((F (me) (16 : Int) + 1)) := ⟨_, rfl⟩
        rw [← eF21]
        have hC22 : HC 0 m tg ln F21 := by rw [eF21]; exact HC_fi (c := 2) (q := 16) hC18 t_me (by decide) rfl (by omega) (by omega) ⟨fun w => absurd w (by decide), fun _ => ⟨fun w => absurd w (by decide), fun _ => Or.inr (by have z5 := (hC18.2.2.2.2.2 _ o_me (own_z o_me)).2 t_me; rw [show F17 (me) 15 = F (me) (15 : Int) from ((show F17 (me) (15 : Int) = F13 (me) (15 : Int) from by rw [eF17]; exact uF_a (fun w => by have q1 := t_me; have q2 := y9.2.1; rw [w, q2] at q1; exact absurd q1 (by decide))).trans (show F13 (me) (15 : Int) = F (me) (15 : Int) from hE15.2 _ _ (fun w => by have q1 := t_me; have q2 := y9.2.1; rw [w, q2] at q1; exact absurd q1 (by decide))))] at z5 ⊢; exact ⟨by omega, by omega⟩)⟩⟩
        have hM23 : Fq 0 [(3, 16), (3, 17), (21, -5)] m tg F F21 := by rw [eF21]; exact Fq_p hM19 t_me (fun _ => rfl) rfl
        refine jx_ld (pc_q := 64) (l_q := L0) (st_q := [.int (i32 (a1))]) rfl (jl_iloadn g3) ?_
        refine jx_ar (pc_q := 65) (st_q := [.int (i32 (1)), .int (i32 (a1))]) rfl rfl rfl rfl ?_
        refine jx_and (pc_q := 66) rfl rfl ?_
        obtain ⟨z24, ez24⟩ : ∃ q, q = (i32 (a1) &&& i32 (1)).toInt := ⟨_, rfl⟩
        rw [← ez24]
        have bz24 : (-2147483648 : Int) ≤ z24 ∧ z24 ≤ 2147483647 := ez24 ▸ i32_rg _
        have cz24 : 0 ≤ z24 ∧ z24 ≤ 1 := ez24 ▸ and_le (by decide) (by decide)
        clear ez24
        refine jx_ar (pc_q := 67) (st_q := [.int (i32 (1)), .int (i32 (z24))]) rfl rfl rfl rfl ?_
        refine jx_icmp_eq (pc_q := 70) (tg := 80) rfl rfl rfl (by omega) (by omega) (by decide) (by decide) (fun h25 => ?_) (fun h25 => ?_)
        · have _q := h25
          refine jx_rt (v := none) rfl rfl rfl rfl rfl rfl ?_
          exact ⟨F21, rfl, rfl, hC22, hM23, trivial⟩
        · have _q := h25
          refine jx_ld (pc_q := 71) (l_q := L0) (st_q := [rv (me)]) rfl (jl_rvn g1) ?_
          refine jx_ar (pc_q := 72) (st_q := [rv (me), rv (me)]) rfl rfl ja_dup rfl ?_
          refine cx_gi (pc_q := 75) (c := 2) (q := 17) (v := F (me) (17 : Int)) rfl rfl (by decide) (by decide) (Or.inl rfl) rfl o_me t_me ((show F21 (me) (17 : Int) = F17 (me) (17 : Int) from by rw [eF21]; exact uF_j (by decide)).trans ((show F17 (me) (17 : Int) = F13 (me) (17 : Int) from by rw [eF17]; exact uF_a (fun w => by have q1 := t_me; have q2 := y9.2.1; rw [w, q2] at q1; exact absurd q1 (by decide))).trans (show F13 (me) (17 : Int) = F (me) (17 : Int) from hE15.2 _ _ (fun w => by have q1 := t_me; have q2 := y9.2.1; rw [w, q2] at q1; exact absurd q1 (by decide))))) ?_
          have b26 : (-2147483648 : Int) ≤ F (me) (17 : Int) ∧ F (me) (17 : Int) ≤ 2147483647 := by have z := HC_i (c := 2) (q := 17) hC22 o_me t_me (by decide) rfl; rw [show F21 (me) ((17 : Nat) : Int) = F (me) (17 : Int) from ((show F21 (me) (17 : Int) = F17 (me) (17 : Int) from by rw [eF21]; exact uF_j (by decide)).trans ((show F17 (me) (17 : Int) = F13 (me) (17 : Int) from by rw [eF17]; exact uF_a (fun w => by have q1 := t_me; have q2 := y9.2.1; rw [w, q2] at q1; exact absurd q1 (by decide))).trans (show F13 (me) (17 : Int) = F (me) (17 : Int) from hE15.2 _ _ (fun w => by have q1 := t_me; have q2 := y9.2.1; rw [w, q2] at q1; exact absurd q1 (by decide)))))] at z; exact z
          refine jx_ar (pc_q := 76) (st_q := [.int (i32 (1)), .int (i32 (F (me) (17 : Int))), rv (me)]) rfl rfl rfl rfl ?_
          refine jx_add (pc_q := 77) rfl rfl ?_
          obtain ⟨z27, ez27⟩ : ∃ q, q = (i32 ((F (me) (17 : Int) + 1))).toInt := ⟨_, rfl⟩
          have bz27 : (-2147483648 : Int) ≤ z27 ∧ z27 ≤ 2147483647 := ez27 ▸ i32_rg _
          rw [show i32 ((F (me) (17 : Int) + 1)) = i32 z27 by rw [ez27, i32_of]]
          clear ez27
          refine cx_pi (pc_q := 80) (c := 2) (q := 17) (qi := (17 : Int)) (z := z27) rfl rfl (by decide) (by decide) rfl rfl rfl (by decide) rfl o_me t_me rfl ?_
          obtain ⟨F28, eF28⟩ : ∃ q, q = uF F21 (me) (17 : Int) (z27) := ⟨_, rfl⟩
          rw [← eF28]
          have hC29 : HC 0 m tg ln F28 := by rw [eF28]; exact HC_fi (c := 2) (q := 17) hC22 t_me (by decide) rfl (by omega) (by omega) ⟨fun w => absurd w (by decide), fun _ => ⟨fun w => absurd w (by decide), fun w => absurd w (by decide)⟩⟩
          have hM30 : Fq 0 [(3, 16), (3, 17), (21, -5)] m tg F F28 := by rw [eF28]; exact Fq_p hM23 t_me (fun _ => rfl) rfl
          refine jx_rt (v := none) rfl rfl rfl rfl rfl rfl ?_
          exact ⟨F28, rfl, rfl, hC29, hM30, trivial⟩
      · have _q := h11
        refine jx_rt (v := none) rfl rfl rfl rfl rfl rfl ?_
        exact ⟨F, rfl, rfl, hC, hM0, trivial⟩
set_option maxRecDepth 20000 in
set_option maxHeartbeats 4000000 in
theorem k_LCore_wake {X : jX} {dd : Nat} {R : Nat → jC} {m : Nat} {tg ln : Int → Int} {F : Int → Int → Int} {me a0 : Int} (hd : 2 ≤ dd) (hC : HC 0 m tg ln F) (o_me : own m me) (t_me : tg me = 3) (h_a0 : (-2147483648 : Int) ≤ a0 ∧ a0 ≤ 2147483647) : wk X dd 94 [rv me, .int (i32 a0)] (cV R m tg ln F) (fun o V_q => ∃ (F_q : Int → Int → Int), V_q = cV R m tg ln F_q ∧ o = .inl none ∧ HC 0 m tg ln F_q ∧ Fq 0 [(3, 16), (3, 17), (21, -5)] m tg F F_q ∧ True) := by
  obtain ⟨d, rfl⟩ : ∃ d, dd = d + 1 := ⟨dd - 1, by omega⟩
  refine wk_of (e := jm94) rfl (by rw [jS_r, jS_i, jS_0]; exact Nat.le_of_ble_eq_true rfl) ?_
  rw [la_r, la_i, la_0]
  show wj X d jm94 (0, [(0, rv (me)), (1, .int (i32 (a0)))], [], cV R m tg ln F) _
  have hM0 : Fq 0 [(3, 16), (3, 17), (21, -5)] m tg F F := Fq_r
  obtain ⟨L0, eL0⟩ : ∃ q : jL, q = [(0, rv (me)), (1, .int (i32 (a0)))] := ⟨_, rfl⟩
  rw [← eL0]
  have g1 : jGet L0 0 = some (rv (me)) := eL0 ▸ (rfl : jGet [(0, rv (me)), (1, .int (i32 (a0)))] 0 = some (rv (me)))
  have g2 : jGet L0 1 = some (.int (i32 (a0))) := eL0 ▸ (rfl : jGet [(0, rv (me)), (1, .int (i32 (a0)))] 1 = some (.int (i32 (a0))))
  clear eL0
  refine jx_ld (pc_q := 1) (l_q := L0) (st_q := [rv (me)]) rfl (jl_rvn g1) ?_
  refine jx_ld (pc_q := 2) (l_q := L0) (st_q := [.int (i32 (a0)), rv (me)]) rfl (jl_iloadn g2) ?_
  refine jx_ar (pc_q := 3) (st_q := [.int (i32 (1)), .int (i32 (a0)), rv (me)]) rfl rfl rfl rfl ?_
  refine jx_and (pc_q := 4) rfl rfl ?_
  obtain ⟨z3, ez3⟩ : ∃ q, q = (i32 (a0) &&& i32 (1)).toInt := ⟨_, rfl⟩
  rw [← ez3]
  have bz3 : (-2147483648 : Int) ≤ z3 ∧ z3 ≤ 2147483647 := ez3 ▸ i32_rg _
  have cz3 : 0 ≤ z3 ∧ z3 ≤ 1 := ez3 ▸ and_le (by decide) (by decide)
  clear ez3
  refine jx_ar (pc_q := 5) (st_q := [.int (i32 (1)), .int (i32 (z3)), rv (me)]) rfl rfl rfl rfl ?_
  refine jx_icmp_ne (pc_q := 8) (tg := 15) rfl rfl rfl (by omega) (by omega) (by decide) (by decide) (fun h4 => ?_) (fun h4 => ?_)
  · have _q := h4
    refine jx_ld (pc_q := 16) (l_q := L0) (st_q := [rv (me), rv (me)]) rfl (jl_rvn g1) ?_
    refine cx_gi (pc_q := 19) (c := 2) (q := 17) (v := F (me) (17 : Int)) rfl rfl (by decide) (by decide) (Or.inl rfl) rfl o_me t_me rfl ?_
    have b5 : (-2147483648 : Int) ≤ F (me) (17 : Int) ∧ F (me) (17 : Int) ≤ 2147483647 := by have z := HC_i (c := 2) (q := 17) hC o_me t_me (by decide) rfl; rw [show F (me) ((17 : Nat) : Int) = F (me) (17 : Int) from rfl] at z; exact z
    refine jx_ld (pc_q := 20) (l_q := L0) (st_q := [.int (i32 (a0)), .int (i32 (F (me) (17 : Int))), rv (me)]) rfl (jl_iloadn g2) ?_
    refine cx_vi (c := 2) (a := me) (st := []) (as := [.int (i32 (F (me) (17 : Int))), .int (i32 (a0))]) rfl rfl rfl o_me t_me (by decide) rfl ⟨rfl, rfl, (Nat.le_of_ble_eq_true rfl)⟩ rfl (k_LCore_insert (dd := d) (R := R) (m := m) (tg := tg) (ln := ln) (F := F) (me := me) (a0 := F (me) (17 : Int)) (a1 := a0) (hd := by omega) (hC := hC) (o_me := o_me) (t_me := t_me) (h_a0 := by omega) (h_a1 := by omega)) (fun o V_q hq => ?_)
    obtain ⟨F6, rfl, rfl, hC7, hM8, -⟩ := hq
    have hM9 : Fq 0 [(3, 16), (3, 17), (21, -5)] m tg F F6 := Fq_t (ln := ln) (ln1 := ln) hM0 Ex_r hM8 (by decide) (Or.inl rfl)
    refine Or.inl ⟨rfl, ?_⟩
    refine jx_rt (v := none) rfl rfl rfl rfl rfl rfl ?_
    exact ⟨F6, rfl, rfl, hC7, hM9, trivial⟩
  · have _q := h4
    refine jx_ld (pc_q := 9) (l_q := L0) (st_q := [rv (me), rv (me)]) rfl (jl_rvn g1) ?_
    refine cx_gi (pc_q := 12) (c := 2) (q := 16) (v := F (me) (16 : Int)) rfl rfl (by decide) (by decide) (Or.inl rfl) rfl o_me t_me rfl ?_
    have b10 : (-2147483648 : Int) ≤ F (me) (16 : Int) ∧ F (me) (16 : Int) ≤ 2147483647 := by have z := HC_i (c := 2) (q := 16) hC o_me t_me (by decide) rfl; rw [show F (me) ((16 : Nat) : Int) = F (me) (16 : Int) from rfl] at z; exact z
    have x11 := (hC.2.2.2.2.2 (me) o_me (own_z o_me)).2 t_me
    refine jx_go (tg := 19) rfl rfl ?_
    refine jx_ld (pc_q := 20) (l_q := L0) (st_q := [.int (i32 (a0)), .int (i32 (F (me) (16 : Int))), rv (me)]) rfl (jl_iloadn g2) ?_
    refine cx_vi (c := 2) (a := me) (st := []) (as := [.int (i32 (F (me) (16 : Int))), .int (i32 (a0))]) rfl rfl rfl o_me t_me (by decide) rfl ⟨rfl, rfl, (Nat.le_of_ble_eq_true rfl)⟩ rfl (k_LCore_insert (dd := d) (R := R) (m := m) (tg := tg) (ln := ln) (F := F) (me := me) (a0 := F (me) (16 : Int)) (a1 := a0) (hd := by omega) (hC := hC) (o_me := o_me) (t_me := t_me) (h_a0 := by omega) (h_a1 := by omega)) (fun o V_q hq => ?_)
    obtain ⟨F12, rfl, rfl, hC13, hM14, -⟩ := hq
    have hM15 : Fq 0 [(3, 16), (3, 17), (21, -5)] m tg F F12 := Fq_t (ln := ln) (ln1 := ln) hM0 Ex_r hM14 (by decide) (Or.inl rfl)
    refine Or.inl ⟨rfl, ?_⟩
    refine jx_rt (v := none) rfl rfl rfl rfl rfl rfl ?_
    exact ⟨F12, rfl, rfl, hC13, hM15, trivial⟩
