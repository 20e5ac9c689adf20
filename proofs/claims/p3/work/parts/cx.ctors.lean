set_option maxRecDepth 20000 in
set_option maxHeartbeats 4000000 in
theorem k_LNode_init {X : jX} {dd : Nat} {R : Nat → jC} {m : Nat} {tg ln : Int → Int} {F : Int → Int → Int} {me kd l : Int} (hd : 1 ≤ dd) (hC : HC 0 m tg ln F) (o_me : own m me) (t_me : tg me = 8) (h_kd : (-2147483648 : Int) ≤ kd ∧ kd ≤ 2147483647) (h_l : (-2147483648 : Int) ≤ l ∧ l ≤ 2147483647) (z_me : ∀ i, F me i = 0) : wk X dd 158 [rv me, .int (i32 kd), .int (i32 l)] (cV R m tg ln F) (fun o V_q => ∃ (F_q : Int → Int → Int), V_q = cV R m tg ln F_q ∧ o = .inl none ∧ HC 0 m tg ln F_q ∧ Fq me [] m tg F F_q ∧ (F_q me (0 : Int) = kd) ∧ (∀ i, i ≠ 0 → i ≠ 1 → F_q me i = 0) ∧ True) := by
  obtain ⟨d, rfl⟩ : ∃ d, dd = d + 1 := ⟨dd - 1, by omega⟩
  refine wk_of (e := jm158) rfl (by rw [jS_r, jS_i, jS_i, jS_0]; exact Nat.le_of_ble_eq_true rfl) ?_
  rw [la_r, la_i, la_i, la_0]
  show wj X d jm158 (0, [(0, rv (me)), (1, .int (i32 (kd))), (2, .int (i32 (l)))], [], cV R m tg ln F) _
  have hM0 : Fq me [] m tg F F := Fq_r
  obtain ⟨L0, eL0⟩ : ∃ q : jL, q = [(0, rv (me)), (1, .int (i32 (kd))), (2, .int (i32 (l)))] := ⟨_, rfl⟩
  rw [← eL0]
  have g1 : jGet L0 0 = some (rv (me)) := eL0 ▸ (rfl : jGet [(0, rv (me)), (1, .int (i32 (kd))), (2, .int (i32 (l)))] 0 = some (rv (me)))
  have g2 : jGet L0 1 = some (.int (i32 (kd))) := eL0 ▸ (rfl : jGet [(0, rv (me)), (1, .int (i32 (kd))), (2, .int (i32 (l)))] 1 = some (.int (i32 (kd))))
  have g3 : jGet L0 2 = some (.int (i32 (l))) := eL0 ▸ (rfl : jGet [(0, rv (me)), (1, .int (i32 (kd))), (2, .int (i32 (l)))] 2 = some (.int (i32 (l))))
  clear eL0
  refine jx_ld (pc_q := 1) (l_q := L0) (st_q := [rv (me)]) rfl (jl_rvn g1) ?_
  refine cx_ob (pc_q := 4) rfl rfl o_me.1 (Nat.le_of_ble_eq_true rfl) rfl ?_
  refine jx_ld (pc_q := 5) (l_q := L0) (st_q := [rv (me)]) rfl (jl_rvn g1) ?_
  refine jx_ld (pc_q := 6) (l_q := L0) (st_q := [.int (i32 (kd)), rv (me)]) rfl (jl_iloadn g2) ?_
  refine cx_pi (pc_q := 9) (c := 7) (q := 0) (qi := (0 : Int)) (z := kd) rfl rfl (by decide) (by decide) rfl rfl rfl (by decide) rfl o_me t_me rfl ?_
  obtain ⟨F4, eF4⟩ : ∃ q, q = uF F (me) (0 : Int) (kd) := ⟨_, rfl⟩
  rw [← eF4]
  have hC5 : HC 0 m tg ln F4 := by rw [eF4]; exact HC_fi (c := 7) (q := 0) hC t_me (by decide) rfl (by omega) (by omega) ⟨fun w => absurd w (by decide), fun w => absurd w (by decide)⟩
  have hM6 : Fq me [] m tg F F4 := by rw [eF4]; exact Fq_x hM0 (Or.inl rfl)
  refine jx_ld (pc_q := 10) (l_q := L0) (st_q := [rv (me)]) rfl (jl_rvn g1) ?_
  refine jx_ld (pc_q := 11) (l_q := L0) (st_q := [.int (i32 (l)), rv (me)]) rfl (jl_iloadn g3) ?_
  refine cx_pi (pc_q := 14) (c := 7) (q := 1) (qi := (1 : Int)) (z := l) rfl rfl (by decide) (by decide) rfl rfl rfl (by decide) rfl o_me t_me rfl ?_
  obtain ⟨F7, eF7⟩ : ∃ q, q = uF F4 (me) (1 : Int) (l) := ⟨_, rfl⟩
  rw [← eF7]
  have hC8 : HC 0 m tg ln F7 := by rw [eF7]; exact HC_fi (c := 7) (q := 1) hC5 t_me (by decide) rfl (by omega) (by omega) ⟨fun w => absurd w (by decide), fun w => absurd w (by decide)⟩
  have hM9 : Fq me [] m tg F F7 := by rw [eF7]; exact Fq_x hM6 (Or.inl rfl)
  refine jx_rt (v := none) rfl rfl rfl rfl rfl rfl ?_
  have q10 : F7 (me) (0 : Int) = kd := ((show F7 (me) (0 : Int) = F4 (me) (0 : Int) from by rw [eF7]; exact uF_j (by decide)).trans (show F4 (me) (0 : Int) = kd from by rw [eF4]; exact uF_e))
  exact ⟨F7, rfl, rfl, hC8, hM9, by omega, fun i w0 w1 => by rw [eF7, uF_j w1]; rw [eF4, uF_j w0]; exact z_me i, trivial⟩
set_option maxRecDepth 20000 in
set_option maxHeartbeats 4000000 in
theorem k_LLink_init {X : jX} {dd : Nat} {R : Nat → jC} {m : Nat} {tg ln : Int → Int} {F : Int → Int → Int} {me fr to : Int} (hd : 1 ≤ dd) (hC : HC 0 m tg ln F) (o_me : own m me) (t_me : tg me = 5) (h_fr : (-2147483648 : Int) ≤ fr ∧ fr ≤ 2147483647) (h_to : (-2147483648 : Int) ≤ to ∧ to ≤ 2147483647) (z_me : ∀ i, F me i = 0) : wk X dd 134 [rv me, .int (i32 fr), .int (i32 to)] (cV R m tg ln F) (fun o V_q => ∃ (F_q : Int → Int → Int), V_q = cV R m tg ln F_q ∧ o = .inl none ∧ HC 0 m tg ln F_q ∧ Fq me [] m tg F F_q ∧ (∀ i, i ≠ 0 → i ≠ 1 → F_q me i = 0) ∧ True) := by
  obtain ⟨d, rfl⟩ : ∃ d, dd = d + 1 := ⟨dd - 1, by omega⟩
  refine wk_of (e := jm134) rfl (by rw [jS_r, jS_i, jS_i, jS_0]; exact Nat.le_of_ble_eq_true rfl) ?_
  rw [la_r, la_i, la_i, la_0]
  show wj X d jm134 (0, [(0, rv (me)), (1, .int (i32 (fr))), (2, .int (i32 (to)))], [], cV R m tg ln F) _
  have hM0 : Fq me [] m tg F F := Fq_r
  obtain ⟨L0, eL0⟩ : ∃ q : jL, q = [(0, rv (me)), (1, .int (i32 (fr))), (2, .int (i32 (to)))] := ⟨_, rfl⟩
  rw [← eL0]
  have g1 : jGet L0 0 = some (rv (me)) := eL0 ▸ (rfl : jGet [(0, rv (me)), (1, .int (i32 (fr))), (2, .int (i32 (to)))] 0 = some (rv (me)))
  have g2 : jGet L0 1 = some (.int (i32 (fr))) := eL0 ▸ (rfl : jGet [(0, rv (me)), (1, .int (i32 (fr))), (2, .int (i32 (to)))] 1 = some (.int (i32 (fr))))
  have g3 : jGet L0 2 = some (.int (i32 (to))) := eL0 ▸ (rfl : jGet [(0, rv (me)), (1, .int (i32 (fr))), (2, .int (i32 (to)))] 2 = some (.int (i32 (to))))
  clear eL0
  refine jx_ld (pc_q := 1) (l_q := L0) (st_q := [rv (me)]) rfl (jl_rvn g1) ?_
  refine cx_ob (pc_q := 4) rfl rfl o_me.1 (Nat.le_of_ble_eq_true rfl) rfl ?_
  refine jx_ld (pc_q := 5) (l_q := L0) (st_q := [rv (me)]) rfl (jl_rvn g1) ?_
  refine jx_ld (pc_q := 6) (l_q := L0) (st_q := [.int (i32 (fr)), rv (me)]) rfl (jl_iloadn g2) ?_
  refine cx_pi (pc_q := 9) (c := 4) (q := 0) (qi := (0 : Int)) (z := fr) rfl rfl (by decide) (by decide) rfl rfl rfl (by decide) rfl o_me t_me rfl ?_
  obtain ⟨F4, eF4⟩ : ∃ q, q = uF F (me) (0 : Int) (fr) := ⟨_, rfl⟩
  rw [← eF4]
  have hC5 : HC 0 m tg ln F4 := by rw [eF4]; exact HC_fi (c := 4) (q := 0) hC t_me (by decide) rfl (by omega) (by omega) ⟨fun w => absurd w (by decide), fun w => absurd w (by decide)⟩
  have hM6 : Fq me [] m tg F F4 := by rw [eF4]; exact Fq_x hM0 (Or.inl rfl)
  refine jx_ld (pc_q := 10) (l_q := L0) (st_q := [rv (me)]) rfl (jl_rvn g1) ?_
  refine jx_ld (pc_q := 11) (l_q := L0) (st_q := [.int (i32 (to)), rv (me)]) rfl (jl_iloadn g3) ?_
  refine cx_pi (pc_q := 14) (c := 4) (q := 1) (qi := (1 : Int)) (z := to) rfl rfl (by decide) (by decide) rfl rfl rfl (by decide) rfl o_me t_me rfl ?_
  obtain ⟨F7, eF7⟩ : ∃ q, q = uF F4 (me) (1 : Int) (to) := ⟨_, rfl⟩
  rw [← eF7]
  have hC8 : HC 0 m tg ln F7 := by rw [eF7]; exact HC_fi (c := 4) (q := 1) hC5 t_me (by decide) rfl (by omega) (by omega) ⟨fun w => absurd w (by decide), fun w => absurd w (by decide)⟩
  have hM9 : Fq me [] m tg F F7 := by rw [eF7]; exact Fq_x hM6 (Or.inl rfl)
  refine jx_rt (v := none) rfl rfl rfl rfl rfl rfl ?_
  exact ⟨F7, rfl, rfl, hC8, hM9, fun i w0 w1 => by rw [eF7, uF_j w1]; rw [eF4, uF_j w0]; exact z_me i, trivial⟩
set_option maxRecDepth 20000 in
set_option maxHeartbeats 4000000 in
theorem k_LName_init {X : jX} {dd : Nat} {R : Nat → jC} {m : Nat} {tg ln : Int → Int} {F : Int → Int → Int} {me kd nu sz : Int} {ky : Int64} (hd : 1 ≤ dd) (hC : HC 0 m tg ln F) (o_me : own m me) (t_me : tg me = 7) (h_kd : (-2147483648 : Int) ≤ kd ∧ kd ≤ 2147483647) (h_nu : (-2147483648 : Int) ≤ nu ∧ nu ≤ 2147483647) (h_sz : (-2147483648 : Int) ≤ sz ∧ sz ≤ 2147483647) (z_me : ∀ i, F me i = 0) : wk X dd 153 [rv me, .int (i32 kd), .long ky, .int (i32 nu), .int (i32 sz)] (cV R m tg ln F) (fun o V_q => ∃ (F_q : Int → Int → Int), V_q = cV R m tg ln F_q ∧ o = .inl none ∧ HC 0 m tg ln F_q ∧ Fq me [] m tg F F_q ∧ (F_q me (0 : Int) = kd) ∧ (∀ i, i ≠ 0 → i ≠ 1 → i ≠ 2 → i ≠ 3 → F_q me i = 0) ∧ True) := by
  obtain ⟨d, rfl⟩ : ∃ d, dd = d + 1 := ⟨dd - 1, by omega⟩
  refine wk_of (e := jm153) rfl (by rw [jS_r, jS_i, jS_l, jS_i, jS_i, jS_0]; exact Nat.le_of_ble_eq_true rfl) ?_
  rw [la_r, la_i, la_l, la_i, la_i, la_0]
  show wj X d jm153 (0, [(0, rv (me)), (1, .int (i32 (kd))), (2, .long (ky)), (4, .int (i32 (nu))), (5, .int (i32 (sz)))], [], cV R m tg ln F) _
  have hM0 : Fq me [] m tg F F := Fq_r
  obtain ⟨L0, eL0⟩ : ∃ q : jL, q = [(0, rv (me)), (1, .int (i32 (kd))), (2, .long (ky)), (4, .int (i32 (nu))), (5, .int (i32 (sz)))] := ⟨_, rfl⟩
  rw [← eL0]
  have g1 : jGet L0 0 = some (rv (me)) := eL0 ▸ (rfl : jGet [(0, rv (me)), (1, .int (i32 (kd))), (2, .long (ky)), (4, .int (i32 (nu))), (5, .int (i32 (sz)))] 0 = some (rv (me)))
  have g2 : jGet L0 1 = some (.int (i32 (kd))) := eL0 ▸ (rfl : jGet [(0, rv (me)), (1, .int (i32 (kd))), (2, .long (ky)), (4, .int (i32 (nu))), (5, .int (i32 (sz)))] 1 = some (.int (i32 (kd))))
  have g3 : jGet L0 2 = some (.long (ky)) := eL0 ▸ (rfl : jGet [(0, rv (me)), (1, .int (i32 (kd))), (2, .long (ky)), (4, .int (i32 (nu))), (5, .int (i32 (sz)))] 2 = some (.long (ky)))
  have g4 : jGet L0 4 = some (.int (i32 (nu))) := eL0 ▸ (rfl : jGet [(0, rv (me)), (1, .int (i32 (kd))), (2, .long (ky)), (4, .int (i32 (nu))), (5, .int (i32 (sz)))] 4 = some (.int (i32 (nu))))
  have g5 : jGet L0 5 = some (.int (i32 (sz))) := eL0 ▸ (rfl : jGet [(0, rv (me)), (1, .int (i32 (kd))), (2, .long (ky)), (4, .int (i32 (nu))), (5, .int (i32 (sz)))] 5 = some (.int (i32 (sz))))
  clear eL0
  refine jx_ld (pc_q := 1) (l_q := L0) (st_q := [rv (me)]) rfl (jl_rvn g1) ?_
  refine cx_ob (pc_q := 4) rfl rfl o_me.1 (Nat.le_of_ble_eq_true rfl) rfl ?_
  refine jx_ld (pc_q := 5) (l_q := L0) (st_q := [rv (me)]) rfl (jl_rvn g1) ?_
  refine jx_ld (pc_q := 6) (l_q := L0) (st_q := [.int (i32 (kd)), rv (me)]) rfl (jl_iloadn g2) ?_
  refine cx_pi (pc_q := 9) (c := 6) (q := 0) (qi := (0 : Int)) (z := kd) rfl rfl (by decide) (by decide) rfl rfl rfl (by decide) rfl o_me t_me rfl ?_
  obtain ⟨F6, eF6⟩ : ∃ q, q = uF F (me) (0 : Int) (kd) := ⟨_, rfl⟩
  rw [← eF6]
  have hC7 : HC 0 m tg ln F6 := by rw [eF6]; exact HC_fi (c := 6) (q := 0) hC t_me (by decide) rfl (by omega) (by omega) ⟨fun w => absurd w (by decide), fun w => absurd w (by decide)⟩
  have hM8 : Fq me [] m tg F F6 := by rw [eF6]; exact Fq_x hM0 (Or.inl rfl)
  refine jx_ld (pc_q := 10) (l_q := L0) (st_q := [rv (me)]) rfl (jl_rvn g1) ?_
  refine jx_ld (pc_q := 11) (l_q := L0) (st_q := [.long (ky), rv (me)]) rfl (jl_lloadn g3) ?_
  refine cx_pl (pc_q := 14) (c := 6) (q := 1) (qi := (1 : Int)) (y := ky) rfl rfl (by decide) (by decide) rfl rfl rfl (by decide) rfl o_me t_me rfl ?_
  obtain ⟨F9, eF9⟩ : ∃ q, q = uF F6 (me) (1 : Int) ((ky : Int64).toInt) := ⟨_, rfl⟩
  rw [← eF9]
  have hC10 : HC 0 m tg ln F9 := by rw [eF9]; exact HC_fl (c := 6) (q := 1) hC7 t_me (by decide) rfl ⟨fun w => absurd w (by decide), fun w => absurd w (by decide)⟩
  have hM11 : Fq me [] m tg F F9 := by rw [eF9]; exact Fq_x hM8 (Or.inl rfl)
  refine jx_ld (pc_q := 15) (l_q := L0) (st_q := [rv (me)]) rfl (jl_rvn g1) ?_
  refine jx_ld (pc_q := 17) (l_q := L0) (st_q := [.int (i32 (nu)), rv (me)]) rfl (jl_iload g4) ?_
  refine cx_pi (pc_q := 20) (c := 6) (q := 2) (qi := (2 : Int)) (z := nu) rfl rfl (by decide) (by decide) rfl rfl rfl (by decide) rfl o_me t_me rfl ?_
  obtain ⟨F12, eF12⟩ : ∃ q, q = uF F9 (me) (2 : Int) (nu) := ⟨_, rfl⟩
  rw [← eF12]
  have hC13 : HC 0 m tg ln F12 := by rw [eF12]; exact HC_fi (c := 6) (q := 2) hC10 t_me (by decide) rfl (by omega) (by omega) ⟨fun w => absurd w (by decide), fun w => absurd w (by decide)⟩
  have hM14 : Fq me [] m tg F F12 := by rw [eF12]; exact Fq_x hM11 (Or.inl rfl)
  refine jx_ld (pc_q := 21) (l_q := L0) (st_q := [rv (me)]) rfl (jl_rvn g1) ?_
  refine jx_ld (pc_q := 23) (l_q := L0) (st_q := [.int (i32 (sz)), rv (me)]) rfl (jl_iload g5) ?_
  refine cx_pi (pc_q := 26) (c := 6) (q := 3) (qi := (3 : Int)) (z := sz) rfl rfl (by decide) (by decide) rfl rfl rfl (by decide) rfl o_me t_me rfl ?_
  obtain ⟨F15, eF15⟩ : ∃ q, q = uF F12 (me) (3 : Int) (sz) := ⟨_, rfl⟩
  rw [← eF15]
  have hC16 : HC 0 m tg ln F15 := by rw [eF15]; exact HC_fi (c := 6) (q := 3) hC13 t_me (by decide) rfl (by omega) (by omega) ⟨fun w => absurd w (by decide), fun w => absurd w (by decide)⟩
  have hM17 : Fq me [] m tg F F15 := by rw [eF15]; exact Fq_x hM14 (Or.inl rfl)
  refine jx_rt (v := none) rfl rfl rfl rfl rfl rfl ?_
  have q18 : F15 (me) (0 : Int) = kd := ((show F15 (me) (0 : Int) = F12 (me) (0 : Int) from by rw [eF15]; exact uF_j (by decide)).trans ((show F12 (me) (0 : Int) = F9 (me) (0 : Int) from by rw [eF12]; exact uF_j (by decide)).trans ((show F9 (me) (0 : Int) = F6 (me) (0 : Int) from by rw [eF9]; exact uF_j (by decide)).trans (show F6 (me) (0 : Int) = kd from by rw [eF6]; exact uF_e))))
  exact ⟨F15, rfl, rfl, hC16, hM17, by omega, fun i w0 w1 w2 w3 => by rw [eF15, uF_j w3]; rw [eF12, uF_j w2]; rw [eF9, uF_j w1]; rw [eF6, uF_j w0]; exact z_me i, trivial⟩
set_option maxRecDepth 20000 in
set_option maxHeartbeats 4000000 in
theorem k_LLayout_init {X : jX} {dd : Nat} {R : Nat → jC} {m : Nat} {tg ln : Int → Int} {F : Int → Int → Int} {me : Int} (hd : 1 ≤ dd) (hC : HC 0 m tg ln F) (o_me : own m me) (t_me : tg me = 4) (z_me : ∀ i, F me i = 0) : wk X dd 122 [rv me] (cV R m tg ln F) (fun o V_q => ∃ (F_q : Int → Int → Int), V_q = cV R m tg ln F_q ∧ o = .inl none ∧ HC 0 m tg ln F_q ∧ Fq me [] m tg F F_q ∧ (∀ i, F_q me i = 0) ∧ True) := by
  obtain ⟨d, rfl⟩ : ∃ d, dd = d + 1 := ⟨dd - 1, by omega⟩
  refine wk_of (e := jm122) rfl (by rw [jS_r, jS_0]; exact Nat.le_of_ble_eq_true rfl) ?_
  rw [la_r, la_0]
  show wj X d jm122 (0, [(0, rv (me))], [], cV R m tg ln F) _
  have hM0 : Fq me [] m tg F F := Fq_r
  obtain ⟨L0, eL0⟩ : ∃ q : jL, q = [(0, rv (me))] := ⟨_, rfl⟩
  rw [← eL0]
  have g1 : jGet L0 0 = some (rv (me)) := eL0 ▸ (rfl : jGet [(0, rv (me))] 0 = some (rv (me)))
  clear eL0
  refine jx_ld (pc_q := 1) (l_q := L0) (st_q := [rv (me)]) rfl (jl_rvn g1) ?_
  refine cx_ob (pc_q := 4) rfl rfl o_me.1 (Nat.le_of_ble_eq_true rfl) rfl ?_
  refine jx_rt (v := none) rfl rfl rfl rfl rfl rfl ?_
  exact ⟨F, rfl, rfl, hC, hM0, fun i  => by exact z_me i, trivial⟩
