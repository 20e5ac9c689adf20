set_option maxRecDepth 20000 in
set_option maxHeartbeats 4000000 in
theorem k_LNode_init {X : jX} {dd : Nat} {R : Nat → jC} {m : Nat} {tg ln : Int → Int} {F : Int → Int → Int} {me kd l : Int} (hd : 1 ≤ dd) (hC : HC 0 m tg ln F) (o_me : own m me) (t_me : tg me = 8) (h_kd : (-2147483648 : Int) ≤ kd ∧ kd ≤ 2147483647) (h_l : (-2147483648 : Int) ≤ l ∧ l ≤ 2147483647) (z_me : ∀ i, F me i = 0) : wk X dd 158 [rv me, .int (i32 kd), .int (i32 l)] (cV R m tg ln F) (fun o V' => ∃ (F' : Int → Int → Int), V' = cV R m tg ln F' ∧ o = .inl none ∧ HC 0 m tg ln F' ∧ Fq me [] m tg F F' ∧ (F' me (0 : Int) = kd) ∧ (∀ i, i ≠ 0 → i ≠ 1 → F' me i = 0) ∧ True) := by
  obtain ⟨d, rfl⟩ : ∃ d, dd = d + 1 := ⟨dd - 1, by omega⟩
  refine wk_of (e := jm158) rfl (by rw [jS_r, jS_i, jS_i, jS_0]; exact Nat.le_of_ble_eq_true rfl) ?_
  rw [la_r, la_i, la_i, la_0]
  show wj X d jm158 (0, [(0, rv (me)), (1, .int (i32 (kd))), (2, .int (i32 (l)))], [], cV R m tg ln F) _
  have hM0 : Fq me [] m tg F F := Fq_r
  obtain ⟨L0, eL0⟩ : ∃ q : jL, q = [(0, rv (me)), (1, .int (i32 (kd))), (2, .int (i32 (l)))] := ⟨_, rfl⟩
  rw [← eL0]
  have g1 : jGet L0 0 = some (rv (me)) := eL0 ▸ (rfl : jGet [(0, rv (me)), (1, .int (i32 (kd))), (2, .int (i32 (l)))] 0 = some (rv (me)))
  have g2 : jGet L0 1 = some (.int (i32 (kd))) := eL0 ▸ (rfl : jGet [(0, rv (me)), (1, .int (i32 (kd))), (2, .int (i32 (l)))] 1 = some (.int (i32 (kd))))
  have g3 : jGet L0 2 = some (.int (i32 (l))) := eL0 ▸ (rfl : jGet [(0, rv (me)), (1, .int (i32 (kd))), (2, .int (i32 (l)))] 2 = some (.int (i32 (l))))
  clear eL0
  refine jx_ld (pc' := 1) (l' := L0) (st' := [rv (me)]) rfl (jl_rvn g1) ?_
  refine cx_ob (pc' := 4) rfl rfl o_me.1 (Nat.le_of_ble_eq_true rfl) rfl ?_
  refine jx_ld (pc' := 5) (l' := L0) (st' := [rv (me)]) rfl (jl_rvn g1) ?_
  refine jx_ld (pc' := 6) (l' := L0) (st' := [.int (i32 (kd)), rv (me)]) rfl (jl_iloadn g2) ?_
  refine cx_pi (pc' := 9) (c := 7) (q := 0) (qi := (0 : Int)) (z := kd) rfl rfl (by decide) (by decide) rfl rfl rfl (by decide) rfl o_me t_me rfl ?_
  obtain ⟨F4, eF4⟩ : ∃ q, q = uF F (me) (0 : Int) (kd) := ⟨_, rfl⟩
  rw [← eF4]
  have hC5 : HC 0 m tg ln F4 := by rw [eF4]; exact HC_fi (c := 7) (q := 0) hC t_me (by decide) rfl (by omega) (by omega) ⟨fun w => absurd w (by decide), fun w => absurd w (by decide)⟩
  have hM6 : Fq me [] m tg F F4 := by rw [eF4]; exact Fq_x hM0 (Or.inl rfl)
  refine jx_ld (pc' := 10) (l' := L0) (st' := [rv (me)]) rfl (jl_rvn g1) ?_
  refine jx_ld (pc' := 11) (l' := L0) (st' := [.int (i32 (l)), rv (me)]) rfl (jl_iloadn g3) ?_
  refine cx_pi (pc' := 14) (c := 7) (q := 1) (qi := (1 : Int)) (z := l) rfl rfl (by decide) (by decide) rfl rfl rfl (by decide) rfl o_me t_me rfl ?_
  obtain ⟨F7, eF7⟩ : ∃ q, q = uF F4 (me) (1 : Int) (l) := ⟨_, rfl⟩
  rw [← eF7]
  have hC8 : HC 0 m tg ln F7 := by rw [eF7]; exact HC_fi (c := 7) (q := 1) hC5 t_me (by decide) rfl (by omega) (by omega) ⟨fun w => absurd w (by decide), fun w => absurd w (by decide)⟩
  have hM9 : Fq me [] m tg F F7 := by rw [eF7]; exact Fq_x hM6 (Or.inl rfl)
  refine jx_rt (v := none) rfl rfl rfl rfl rfl rfl ?_
  have q10 : F7 (me) (0 : Int) = kd := ((show F7 (me) (0 : Int) = F4 (me) (0 : Int) from by rw [eF7]; exact uF_j (by decide)).trans (show F4 (me) (0 : Int) = kd from by rw [eF4]; exact uF_e))
  exact ⟨F7, rfl, rfl, hC8, hM9, by omega, fun i w0 w1 => by rw [eF7, uF_j w1]; rw [eF4, uF_j w0]; exact z_me i, trivial⟩
set_option maxRecDepth 20000 in
set_option maxHeartbeats 4000000 in
theorem k_LLink_init {X : jX} {dd : Nat} {R : Nat → jC} {m : Nat} {tg ln : Int → Int} {F : Int → Int → Int} {me fr to : Int} (hd : 1 ≤ dd) (hC : HC 0 m tg ln F) (o_me : own m me) (t_me : tg me = 5) (h_fr : (-2147483648 : Int) ≤ fr ∧ fr ≤ 2147483647) (h_to : (-2147483648 : Int) ≤ to ∧ to ≤ 2147483647) (z_me : ∀ i, F me i = 0) : wk X dd 134 [rv me, .int (i32 fr), .int (i32 to)] (cV R m tg ln F) (fun o V' => ∃ (F' : Int → Int → Int), V' = cV R m tg ln F' ∧ o = .inl none ∧ HC 0 m tg ln F' ∧ Fq me [] m tg F F' ∧ (∀ i, i ≠ 0 → i ≠ 1 → F' me i = 0) ∧ True) := by
  obtain ⟨d, rfl⟩ : ∃ d, dd = d + 1 := ⟨dd - 1, by omega⟩
  refine wk_of (e := jm134) rfl (by rw [jS_r, jS_i, jS_i, jS_0]; exact Nat.le_of_ble_eq_true rfl) ?_
  rw [la_r, la_i, la_i, la_0]
  show wj X d jm134 (0, [(0, rv (me)), (1, .int (i32 (fr))), (2, .int (i32 (to)))], [], cV R m tg ln F) _
  have hM0 : Fq me [] m tg F F := Fq_r
  obtain ⟨L0, eL0⟩ : ∃ q : jL, q = [(0, rv (me)), (1, .int (i32 (fr))), (2, .int (i32 (to)))] := ⟨_, rfl⟩
  rw [← eL0]
  have g1 : jGet L0 0 = some (rv (me)) := eL0 ▸ (rfl : jGet [(0, rv (me)), (1, .int (i32 (fr))), (2, .int (i32 (to)))] 0 = some (rv (me)))
  have g2 : jGet L0 1 = some (.int (i32 (fr))) := eL0 ▸ (rfl : jGet [(0, rv (me)), (1, .int (i32 (fr))), (2, .int (i32 (to)))] 1 = some (.int (i32 (fr))))
  have g3 : jGet L0 2 = some (.int (i32 (to))) := eL0 ▸ (rfl : jGet [(0, rv (me)), (1, .int (i32 (fr))), (2, .int (i32 (to)))] 2 = some (.int (i32 (to))))
  clear eL0
  refine jx_ld (pc' := 1) (l' := L0) (st' := [rv (me)]) rfl (jl_rvn g1) ?_
  refine cx_ob (pc' := 4) rfl rfl o_me.1 (Nat.le_of_ble_eq_true rfl) rfl ?_
  refine jx_ld (pc' := 5) (l' := L0) (st' := [rv (me)]) rfl (jl_rvn g1) ?_
  refine jx_ld (pc' := 6) (l' := L0) (st' := [.int (i32 (fr)), rv (me)]) rfl (jl_iloadn g2) ?_
  refine cx_pi (pc' := 9) (c := 4) (q := 0) (qi := (0 : Int)) (z := fr) rfl rfl (by decide) (by decide) rfl rfl rfl (by decide) rfl o_me t_me rfl ?_
  obtain ⟨F4, eF4⟩ : ∃ q, q = uF F (me) (0 : Int) (fr) := ⟨_, rfl⟩
  rw [← eF4]
  have hC5 : HC 0 m tg ln F4 := by rw [eF4]; exact HC_fi (c := 4) (q := 0) hC t_me (by decide) rfl (by omega) (by omega) ⟨fun w => absurd w (by decide), fun w => absurd w (by decide)⟩
  have hM6 : Fq me [] m tg F F4 := by rw [eF4]; exact Fq_x hM0 (Or.inl rfl)
  refine jx_ld (pc' := 10) (l' := L0) (st' := [rv (me)]) rfl (jl_rvn g1) ?_
  refine jx_ld (pc' := 11) (l' := L0) (st' := [.int (i32 (to)), rv (me)]) rfl (jl_iloadn g3) ?_
  refine cx_pi (pc' := 14) (c := 4) (q := 1) (qi := (1 : Int)) (z := to) rfl rfl (by decide) (by decide) rfl rfl rfl (by decide) rfl o_me t_me rfl ?_
  obtain ⟨F7, eF7⟩ : ∃ q, q = uF F4 (me) (1 : Int) (to) := ⟨_, rfl⟩
  rw [← eF7]
  have hC8 : HC 0 m tg ln F7 := by rw [eF7]; exact HC_fi (c := 4) (q := 1) hC5 t_me (by decide) rfl (by omega) (by omega) ⟨fun w => absurd w (by decide), fun w => absurd w (by decide)⟩
  have hM9 : Fq me [] m tg F F7 := by rw [eF7]; exact Fq_x hM6 (Or.inl rfl)
  refine jx_rt (v := none) rfl rfl rfl rfl rfl rfl ?_
  exact ⟨F7, rfl, rfl, hC8, hM9, fun i w0 w1 => by rw [eF7, uF_j w1]; rw [eF4, uF_j w0]; exact z_me i, trivial⟩
set_option maxRecDepth 20000 in
set_option maxHeartbeats 4000000 in
theorem k_LName_init {X : jX} {dd : Nat} {R : Nat → jC} {m : Nat} {tg ln : Int → Int} {F : Int → Int → Int} {me kd nu sz : Int} {ky : Int64} (hd : 1 ≤ dd) (hC : HC 0 m tg ln F) (o_me : own m me) (t_me : tg me = 7) (h_kd : (-2147483648 : Int) ≤ kd ∧ kd ≤ 2147483647) (h_nu : (-2147483648 : Int) ≤ nu ∧ nu ≤ 2147483647) (h_sz : (-2147483648 : Int) ≤ sz ∧ sz ≤ 2147483647) (z_me : ∀ i, F me i = 0) : wk X dd 153 [rv me, .int (i32 kd), .long ky, .int (i32 nu), .int (i32 sz)] (cV R m tg ln F) (fun o V' => ∃ (F' : Int → Int → Int), V' = cV R m tg ln F' ∧ o = .inl none ∧ HC 0 m tg ln F' ∧ Fq me [] m tg F F' ∧ (F' me (0 : Int) = kd) ∧ (∀ i, i ≠ 0 → i ≠ 1 → i ≠ 2 → i ≠ 3 → F' me i = 0) ∧ True) := by
  obtain ⟨d, rfl⟩ : ∃ d, dd = d + 1 := ⟨dd - 1, by omega⟩
  refine wk_of (e := jm153) rfl (by rw [jS_r, jS_i, jS_l, jS_i, jS_i, jS_0]; exact Nat.le_of_ble_eq_true rfl) ?_
  rw [la_r, la_i, la_l, la_i, la_i, la_0]
  show wj X d jm153 (0, [(0, rv (me)), (1, .int (i32 (kd))), (2, .long (ky)), (4, .int (i32 (nu))), (5, .int (i32 (sz)))], [], cV R m tg ln F) _
  have hM0 : Fq me [] m tg F F := Fq_r
  obtain ⟨L0, eL0⟩ : ∃ q : jL, q = [(0, rv (me)), (1, .int (i32 (kd))), (2, .long (ky)), (4, .int (i32 (nu))), (5, .int (i32 (sz)))] := ⟨_, rfl⟩
  rw [← eL0]
  have g1 : jGet L0 0 = some (rv (me)) := eL0 ▸ (rfl : jGet [(0, rv (me)), (1, .int (i32 (kd))), (2, .long (ky)), (4, .int (i32 (nu))), (5, .int (i32 (sz)))] 0 = some (rv (me)))
  have g2 : jGet L0 1 = some (.int (i32 (kd))) := eL0 ▸ (rfl : jGet [(0, rv (me)), (1, .int (i32 (kd))), (2, .long (ky)), (4, .int (i32 (nu))), (5, .int (i32 (sz)))] 1 = some (.int (i32 (kd))))
  have g3 : jGet L0 2 = some (.long (ky)) := eL0 ▸ (rfl : jGet [(0, rv (me)), (1, .int (i32 (kd))), (2, .long (ky)), (4, .int (i32 (nu))), (5, .int (i32 (sz)))] 2 = some (.long (ky)))
  have g4 : jGet L0 4 = some (.int (i32 (nu))) := eL0 ▸ (rfl : jGet [(0, rv (me)), (1, .int (i32 (kd))), (2, .long (ky)), (4, .int (i32 (nu))), (5, .int (i32 (sz)))] 4 = some (.int (i32 (nu))))
  have g5 : jGet L0 5 = some (.int (i32 (sz))) := eL0 ▸ (rfl : jGet [(0, rv (me)), (1, .int (i32 (kd))), (2, .long (ky)), (4, .int (i32 (nu))), (5, .int (i32 (sz)))] 5 = some (.int (i32 (sz))))
  clear eL0
  refine jx_ld (pc' := 1) (l' := L0) (st' := [rv (me)]) rfl (jl_rvn g1) ?_
  refine cx_ob (pc' := 4) rfl rfl o_me.1 (Nat.le_of_ble_eq_true rfl) rfl ?_
  refine jx_ld (pc' := 5) (l' := L0) (st' := [rv (me)]) rfl (jl_rvn g1) ?_
  refine jx_ld (pc' := 6) (l' := L0) (st' := [.int (i32 (kd)), rv (me)]) rfl (jl_iloadn g2) ?_
  refine cx_pi (pc' := 9) (c := 6) (q := 0) (qi := (0 : Int)) (z := kd) rfl rfl (by decide) (by decide) rfl rfl rfl (by decide) rfl o_me t_me rfl ?_
  obtain ⟨F6, eF6⟩ : ∃ q, q = uF F (me) (0 : Int) (kd) := ⟨_, rfl⟩
  rw [← eF6]
  have hC7 : HC 0 m tg ln F6 := by rw [eF6]; exact HC_fi (c := 6) (q := 0) hC t_me (by decide) rfl (by omega) (by omega) ⟨fun w => absurd w (by decide), fun w => absurd w (by decide)⟩
  have hM8 : Fq me [] m tg F F6 := by rw [eF6]; exact Fq_x hM0 (Or.inl rfl)
  refine jx_ld (pc' := 10) (l' := L0) (st' := [rv (me)]) rfl (jl_rvn g1) ?_
  refine jx_ld (pc' := 11) (l' := L0) (st' := [.long (ky), rv (me)]) rfl (jl_lloadn g3) ?_
  refine cx_pl (pc' := 14) (c := 6) (q := 1) (qi := (1 : Int)) (y := ky) rfl rfl (by decide) (by decide) rfl rfl rfl (by decide) rfl o_me t_me rfl ?_
  obtain ⟨F9, eF9⟩ : ∃ q, q = uF F6 (me) (1 : Int) ((ky : Int64).toInt) := ⟨_, rfl⟩
  rw [← eF9]
  have hC10 : HC 0 m tg ln F9 := by rw [eF9]; exact HC_fl (c := 6) (q := 1) hC7 t_me (by decide) rfl ⟨fun w => absurd w (by decide), fun w => absurd w (by decide)⟩
  have hM11 : Fq me [] m tg F F9 := by rw [eF9]; exact Fq_x hM8 (Or.inl rfl)
  refine jx_ld (pc' := 15) (l' := L0) (st' := [rv (me)]) rfl (jl_rvn g1) ?_
  refine jx_ld (pc' := 17) (l' := L0) (st' := [.int (i32 (nu)), rv (me)]) rfl (jl_iload g4) ?_
  refine cx_pi (pc' := 20) (c := 6) (q := 2) (qi := (2 : Int)) (z := nu) rfl rfl (by decide) (by decide) rfl rfl rfl (by decide) rfl o_me t_me rfl ?_
  obtain ⟨F12, eF12⟩ : ∃ q, q = uF F9 (me) (2 : Int) (nu) := ⟨_, rfl⟩
  rw [← eF12]
  have hC13 : HC 0 m tg ln F12 := by rw [eF12]; exact HC_fi (c := 6) (q := 2) hC10 t_me (by decide) rfl (by omega) (by omega) ⟨fun w => absurd w (by decide), fun w => absurd w (by decide)⟩
  have hM14 : Fq me [] m tg F F12 := by rw [eF12]; exact Fq_x hM11 (Or.inl rfl)
  refine jx_ld (pc' := 21) (l' := L0) (st' := [rv (me)]) rfl (jl_rvn g1) ?_
  refine jx_ld (pc' := 23) (l' := L0) (st' := [.int (i32 (sz)), rv (me)]) rfl (jl_iload g5) ?_
  refine cx_pi (pc' := 26) (c := 6) (q := 3) (qi := (3 : Int)) (z := sz) rfl rfl (by decide) (by decide) rfl rfl rfl (by decide) rfl o_me t_me rfl ?_
  obtain ⟨F15, eF15⟩ : ∃ q, q = uF F12 (me) (3 : Int) (sz) := ⟨_, rfl⟩
  rw [← eF15]
  have hC16 : HC 0 m tg ln F15 := by rw [eF15]; exact HC_fi (c := 6) (q := 3) hC13 t_me (by decide) rfl (by omega) (by omega) ⟨fun w => absurd w (by decide), fun w => absurd w (by decide)⟩
  have hM17 : Fq me [] m tg F F15 := by rw [eF15]; exact Fq_x hM14 (Or.inl rfl)
  refine jx_rt (v := none) rfl rfl rfl rfl rfl rfl ?_
  have q18 : F15 (me) (0 : Int) = kd := ((show F15 (me) (0 : Int) = F12 (me) (0 : Int) from by rw [eF15]; exact uF_j (by decide)).trans ((show F12 (me) (0 : Int) = F9 (me) (0 : Int) from by rw [eF12]; exact uF_j (by decide)).trans ((show F9 (me) (0 : Int) = F6 (me) (0 : Int) from by rw [eF9]; exact uF_j (by decide)).trans (show F6 (me) (0 : Int) = kd from by rw [eF6]; exact uF_e))))
  exact ⟨F15, rfl, rfl, hC16, hM17, by omega, fun i w0 w1 w2 w3 => by rw [eF15, uF_j w3]; rw [eF12, uF_j w2]; rw [eF9, uF_j w1]; rw [eF6, uF_j w0]; exact z_me i, trivial⟩
set_option maxRecDepth 20000 in
set_option maxHeartbeats 4000000 in
theorem k_LLayout_init {X : jX} {dd : Nat} {R : Nat → jC} {m : Nat} {tg ln : Int → Int} {F : Int → Int → Int} {me : Int} (hd : 1 ≤ dd) (hC : HC 0 m tg ln F) (o_me : own m me) (t_me : tg me = 4) (z_me : ∀ i, F me i = 0) : wk X dd 122 [rv me] (cV R m tg ln F) (fun o V' => ∃ (F' : Int → Int → Int), V' = cV R m tg ln F' ∧ o = .inl none ∧ HC 0 m tg ln F' ∧ Fq me [] m tg F F' ∧ (∀ i, F' me i = 0) ∧ True) := by
  obtain ⟨d, rfl⟩ : ∃ d, dd = d + 1 := ⟨dd - 1, by omega⟩
  refine wk_of (e := jm122) rfl (by rw [jS_r, jS_0]; exact Nat.le_of_ble_eq_true rfl) ?_
  rw [la_r, la_0]
  show wj X d jm122 (0, [(0, rv (me))], [], cV R m tg ln F) _
  have hM0 : Fq me [] m tg F F := Fq_r
  obtain ⟨L0, eL0⟩ : ∃ q : jL, q = [(0, rv (me))] := ⟨_, rfl⟩
  rw [← eL0]
  have g1 : jGet L0 0 = some (rv (me)) := eL0 ▸ (rfl : jGet [(0, rv (me))] 0 = some (rv (me)))
  clear eL0
  refine jx_ld (pc' := 1) (l' := L0) (st' := [rv (me)]) rfl (jl_rvn g1) ?_
  refine cx_ob (pc' := 4) rfl rfl o_me.1 (Nat.le_of_ble_eq_true rfl) rfl ?_
  refine jx_rt (v := none) rfl rfl rfl rfl rfl rfl ?_
  exact ⟨F, rfl, rfl, hC, hM0, fun i  => by exact z_me i, trivial⟩
set_option maxRecDepth 20000 in
set_option maxHeartbeats 4000000 in
theorem k_L_end {X : jX} {dd : Nat} {R : Nat → jC} {m : Nat} {tg ln : Int → Int} {F : Int → Int → Int} {me n : Int} (hd : 1 ≤ dd) (hC : HC 0 m tg ln F) (o_me : own m me) (t_me : tg me = 1) (h_n : (-2147483648 : Int) ≤ n ∧ n ≤ 2147483647) : wk X dd 21 [rv me, .int (i32 n)] (cV R m tg ln F) (fun o V' => (∃ (m' : Nat) (tg' ln' : Int → Int) (F' : Int → Int → Int), V' = cV R m' tg' ln' F' ∧ o = .inl none ∧ Ex m tg ln m' tg' ln' ∧ HC 0 m' tg' ln' F' ∧ Fq 0 [(1, 1)] m tg F F' ∧ (szD m' tg' ln' = szD m tg ln) ∧ True) ∨ (∃ (m' : Nat) (tg' ln' : Int → Int) (F' : Int → Int → Int) (x : Nat), V' = cV R m' tg' ln' F' ∧ o = .inr x ∧ Ex m tg ln m' tg' ln' ∧ HC 0 m' tg' ln' F' ∧ Fq 0 [(1, 1)] m tg F F' ∧ (own m' (x : Int)) ∧ (tg' (x : Int) = 14) ∧ (szD m' tg' ln' = szD m tg ln + 25) ∧ True)) := by
  obtain ⟨d, rfl⟩ : ∃ d, dd = d + 1 := ⟨dd - 1, by omega⟩
  refine wk_of (e := jm21) rfl (by rw [jS_r, jS_i, jS_0]; exact Nat.le_of_ble_eq_true rfl) ?_
  rw [la_r, la_i, la_0]
  show wj X d jm21 (0, [(0, rv (me)), (1, .int (i32 (n)))], [], cV R m tg ln F) _
  have hM0 : Fq 0 [(1, 1)] m tg F F := Fq_r
  have hX0 : Ex m tg ln m tg ln := Ex_r
  obtain ⟨L0, eL0⟩ : ∃ q : jL, q = [(0, rv (me)), (1, .int (i32 (n)))] := ⟨_, rfl⟩
  rw [← eL0]
  have g1 : jGet L0 0 = some (rv (me)) := eL0 ▸ (rfl : jGet [(0, rv (me)), (1, .int (i32 (n)))] 0 = some (rv (me)))
  have g2 : jGet L0 1 = some (.int (i32 (n))) := eL0 ▸ (rfl : jGet [(0, rv (me)), (1, .int (i32 (n)))] 1 = some (.int (i32 (n))))
  clear eL0
  refine jx_ld (pc' := 1) (l' := L0) (st' := [.int (i32 (n))]) rfl (jl_iloadn g2) ?_
  refine jx_if_lt (pc' := 4) (tg := 12) rfl rfl rfl (by omega) (by omega) (fun h3 => ?_) (fun h3 => ?_)
  · have _q := h3
    refine cx_thr2 (c := 13) rfl rfl rfl rfl ⟨by decide, by decide, (Nat.le_of_ble_eq_true rfl), rfl, rfl, rfl⟩ rfl rfl hC (fun x4 m4 tg4 ln4 F4 en4 em4 ho4 hx4 hC4 hf4 hs4 => ?_)
    have ex4 : 64 + (m : Int) ≤ (x4 : Int) := by have := hX0.1; omega
    have lm5 := hx4.1
    exact Or.inr ⟨m4, tg4, ln4, F4, x4, rfl, rfl, Ex_t hX0 hx4, hC4, Fq_n hM0 hf4 ex4, ho4.1, ho4.2, by omega, trivial⟩
  · have _q := h3
    refine jx_ld (pc' := 5) (l' := L0) (st' := [.int (i32 (n))]) rfl (jl_iloadn g2) ?_
    refine jx_ld (pc' := 6) (l' := L0) (st' := [rv (me), .int (i32 (n))]) rfl (jl_rvn g1) ?_
    refine cx_gi (pc' := 9) (c := 0) (q := 1) (v := F (me) (1 : Int)) rfl rfl (by decide) (by decide) (Or.inl rfl) rfl o_me t_me rfl ?_
    have b6 : (0 : Int) ≤ F (me) (1 : Int) ∧ F (me) (1 : Int) ≤ 3000 := by have z := HC_i (c := 0) (q := 1) hC o_me t_me (by decide) rfl; rw [show F (me) ((1 : Nat) : Int) = F (me) (1 : Int) from rfl] at z; exact z
    refine jx_icmp_le (pc' := 12) (tg := 22) rfl rfl rfl (by omega) (by omega) (by omega) (by omega) (fun h7 => ?_) (fun h7 => ?_)
    · have _q := h7
      refine jx_ld (pc' := 23) (l' := L0) (st' := [rv (me)]) rfl (jl_rvn g1) ?_
      refine jx_ld (pc' := 24) (l' := L0) (st' := [.int (i32 (n)), rv (me)]) rfl (jl_iloadn g2) ?_
      refine cx_pi (pc' := 27) (c := 0) (q := 1) (qi := (1 : Int)) (z := n) rfl rfl (by decide) (by decide) rfl rfl rfl (by decide) rfl o_me t_me rfl ?_
      obtain ⟨F8, eF8⟩ : ∃ q, q = uF F (me) (1 : Int) (n) := ⟨_, rfl⟩
      rw [← eF8]
      have hC9 : HC 0 m tg ln F8 := by rw [eF8]; exact HC_fi (c := 0) (q := 1) hC t_me (by decide) rfl (by omega) (by omega) ⟨fun w => absurd w (by decide), fun w => absurd w (by decide)⟩
      have hM10 : Fq 0 [(1, 1)] m tg F F8 := by rw [eF8]; exact Fq_p hM0 t_me (fun w => (hX0.2 _ w).1) rfl
      refine jx_rt (v := none) rfl rfl rfl rfl rfl rfl ?_
      exact Or.inl ⟨m, tg, ln, F8, rfl, rfl, hX0, hC9, hM10, by omega, trivial⟩
    · have _q := h7
      refine cx_thr2 (c := 13) rfl rfl rfl rfl ⟨by decide, by decide, (Nat.le_of_ble_eq_true rfl), rfl, rfl, rfl⟩ rfl rfl hC (fun x11 m11 tg11 ln11 F11 en11 em11 ho11 hx11 hC11 hf11 hs11 => ?_)
      have ex11 : 64 + (m : Int) ≤ (x11 : Int) := by have := hX0.1; omega
      have lm12 := hx11.1
      exact Or.inr ⟨m11, tg11, ln11, F11, x11, rfl, rfl, Ex_t hX0 hx11, hC11, Fq_n hM0 hf11 ex11, ho11.1, ho11.2, by omega, trivial⟩
set_option maxRecDepth 20000 in
set_option maxHeartbeats 4000000 in
theorem k_L_fault {X : jX} {dd : Nat} {R : Nat → jC} {m : Nat} {tg ln : Int → Int} {F : Int → Int → Int} {me wh : Int} (hd : 1 ≤ dd) (hC : HC 0 m tg ln F) (o_me : own m me) (t_me : tg me = 1) (h_wh : (-2147483648 : Int) ≤ wh ∧ wh ≤ 2147483647) : wk X dd 23 [rv me, .int (i32 wh)] (cV R m tg ln F) (fun o V' => (∃ (m' : Nat) (tg' ln' : Int → Int) (F' : Int → Int → Int) (r : Int), V' = cV R m' tg' ln' F' ∧ o = .inl (some (.int (i32 r))) ∧ Ex m tg ln m' tg' ln' ∧ HC 0 m' tg' ln' F' ∧ Fq 0 [] m tg F F' ∧ (-2147483648 ≤ r ∧ r ≤ 2147483647) ∧ (szD m' tg' ln' = szD m tg ln) ∧ True) ∨ (∃ (m' : Nat) (tg' ln' : Int → Int) (F' : Int → Int → Int) (x : Nat), V' = cV R m' tg' ln' F' ∧ o = .inr x ∧ Ex m tg ln m' tg' ln' ∧ HC 0 m' tg' ln' F' ∧ Fq 0 [] m tg F F' ∧ (own m' (x : Int)) ∧ (tg' (x : Int) = 14) ∧ (szD m' tg' ln' = szD m tg ln + 25) ∧ True)) := by
  obtain ⟨d, rfl⟩ : ∃ d, dd = d + 1 := ⟨dd - 1, by omega⟩
  refine wk_of (e := jm23) rfl (by rw [jS_r, jS_i, jS_0]; exact Nat.le_of_ble_eq_true rfl) ?_
  rw [la_r, la_i, la_0]
  show wj X d jm23 (0, [(0, rv (me)), (1, .int (i32 (wh)))], [], cV R m tg ln F) _
  have hM0 : Fq 0 [] m tg F F := Fq_r
  have hX0 : Ex m tg ln m tg ln := Ex_r
  obtain ⟨L0, eL0⟩ : ∃ q : jL, q = [(0, rv (me)), (1, .int (i32 (wh)))] := ⟨_, rfl⟩
  rw [← eL0]
  have g1 : jGet L0 0 = some (rv (me)) := eL0 ▸ (rfl : jGet [(0, rv (me)), (1, .int (i32 (wh)))] 0 = some (rv (me)))
  have g2 : jGet L0 1 = some (.int (i32 (wh))) := eL0 ▸ (rfl : jGet [(0, rv (me)), (1, .int (i32 (wh)))] 1 = some (.int (i32 (wh))))
  clear eL0
  refine jx_ld (pc' := 1) (l' := L0) (st' := [.int (i32 (wh))]) rfl (jl_iloadn g2) ?_
  refine jx_if_lt (pc' := 4) (tg := 9) rfl rfl rfl (by omega) (by omega) (fun h3 => ?_) (fun h3 => ?_)
  · have _q := h3
    refine cx_thr2 (c := 13) rfl rfl rfl rfl ⟨by decide, by decide, (Nat.le_of_ble_eq_true rfl), rfl, rfl, rfl⟩ rfl rfl hC (fun x4 m4 tg4 ln4 F4 en4 em4 ho4 hx4 hC4 hf4 hs4 => ?_)
    have ex4 : 64 + (m : Int) ≤ (x4 : Int) := by have := hX0.1; omega
    have lm5 := hx4.1
    exact Or.inr ⟨m4, tg4, ln4, F4, x4, rfl, rfl, Ex_t hX0 hx4, hC4, Fq_n hM0 hf4 ex4, ho4.1, ho4.2, by omega, trivial⟩
  · have _q := h3
    refine jx_ld (pc' := 5) (l' := L0) (st' := [.int (i32 (wh))]) rfl (jl_iloadn g2) ?_
    refine jx_ar (pc' := 6) (st' := [.int (i32 (2)), .int (i32 (wh))]) rfl rfl rfl rfl ?_
    refine jx_icmp_le (pc' := 9) (tg := 19) rfl rfl rfl (by omega) (by omega) (by decide) (by decide) (fun h6 => ?_) (fun h6 => ?_)
    · have _q := h6
      refine jx_ld (pc' := 20) (l' := L0) (st' := [.int (i32 (wh))]) rfl (jl_iloadn g2) ?_
      refine jx_if_ne (pc' := 23) (tg := 30) rfl rfl rfl (by omega) (by omega) (fun h7 => ?_) (fun h7 => ?_)
      · have _q := h7
        refine jx_ld (pc' := 31) (l' := L0) (st' := [.int (i32 (wh))]) rfl (jl_iloadn g2) ?_
        refine jx_ar (pc' := 32) (st' := [.int (i32 (1)), .int (i32 (wh))]) rfl rfl rfl rfl ?_
        refine jx_icmp_ne (pc' := 35) (tg := 42) rfl rfl rfl (by omega) (by omega) (by decide) (by decide) (fun h8 => ?_) (fun h8 => ?_)
        · have _q := h8
          refine jx_ld (pc' := 43) (l' := L0) (st' := [rv (me)]) rfl (jl_rvn g1) ?_
          refine cx_gi (pc' := 46) (c := 0) (q := 4) (v := F (me) (4 : Int)) rfl rfl (by decide) (by decide) (Or.inl rfl) rfl o_me t_me rfl ?_
          have b9 : (-2147483648 : Int) ≤ F (me) (4 : Int) ∧ F (me) (4 : Int) ≤ 2147483647 := by have z := HC_i (c := 0) (q := 4) hC o_me t_me (by decide) rfl; rw [show F (me) ((4 : Nat) : Int) = F (me) (4 : Int) from rfl] at z; exact z
          refine jx_rt (v := some (.int (i32 (F (me) (4 : Int))))) rfl rfl rfl rfl rfl rfl ?_
          exact Or.inl ⟨m, tg, ln, F, (F (me) (4 : Int)), rfl, rfl, hX0, hC, hM0, by omega, by omega, trivial⟩
        · have _q := h8
          refine jx_ld (pc' := 36) (l' := L0) (st' := [rv (me)]) rfl (jl_rvn g1) ?_
          refine cx_gi (pc' := 39) (c := 0) (q := 3) (v := F (me) (3 : Int)) rfl rfl (by decide) (by decide) (Or.inl rfl) rfl o_me t_me rfl ?_
          have b10 : (-2147483648 : Int) ≤ F (me) (3 : Int) ∧ F (me) (3 : Int) ≤ 2147483647 := by have z := HC_i (c := 0) (q := 3) hC o_me t_me (by decide) rfl; rw [show F (me) ((3 : Nat) : Int) = F (me) (3 : Int) from rfl] at z; exact z
          refine jx_go (tg := 46) rfl rfl ?_
          refine jx_rt (v := some (.int (i32 (F (me) (3 : Int))))) rfl rfl rfl rfl rfl rfl ?_
          exact Or.inl ⟨m, tg, ln, F, (F (me) (3 : Int)), rfl, rfl, hX0, hC, hM0, by omega, by omega, trivial⟩
      · have _q := h7
        refine jx_ld (pc' := 24) (l' := L0) (st' := [rv (me)]) rfl (jl_rvn g1) ?_
        refine cx_gi (pc' := 27) (c := 0) (q := 2) (v := F (me) (2 : Int)) rfl rfl (by decide) (by decide) (Or.inl rfl) rfl o_me t_me rfl ?_
        have b11 : (-2147483648 : Int) ≤ F (me) (2 : Int) ∧ F (me) (2 : Int) ≤ 2147483647 := by have z := HC_i (c := 0) (q := 2) hC o_me t_me (by decide) rfl; rw [show F (me) ((2 : Nat) : Int) = F (me) (2 : Int) from rfl] at z; exact z
        refine jx_go (tg := 46) rfl rfl ?_
        refine jx_rt (v := some (.int (i32 (F (me) (2 : Int))))) rfl rfl rfl rfl rfl rfl ?_
        exact Or.inl ⟨m, tg, ln, F, (F (me) (2 : Int)), rfl, rfl, hX0, hC, hM0, by omega, by omega, trivial⟩
    · have _q := h6
      refine cx_thr2 (c := 13) rfl rfl rfl rfl ⟨by decide, by decide, (Nat.le_of_ble_eq_true rfl), rfl, rfl, rfl⟩ rfl rfl hC (fun x12 m12 tg12 ln12 F12 en12 em12 ho12 hx12 hC12 hf12 hs12 => ?_)
      have ex12 : 64 + (m : Int) ≤ (x12 : Int) := by have := hX0.1; omega
      have lm13 := hx12.1
      exact Or.inr ⟨m12, tg12, ln12, F12, x12, rfl, rfl, Ex_t hX0 hx12, hC12, Fq_n hM0 hf12 ex12, ho12.1, ho12.2, by omega, trivial⟩
set_option maxRecDepth 20000 in
set_option maxHeartbeats 4000000 in
theorem k_L_loaded {X : jX} {dd : Nat} {R : Nat → jC} {m : Nat} {tg ln : Int → Int} {F : Int → Int → Int} {me : Int} (hd : 1 ≤ dd) (hC : HC 0 m tg ln F) (o_me : own m me) (t_me : tg me = 1) : wk X dd 39 [rv me] (cV R m tg ln F) (fun o V' => (∃ (m' : Nat) (tg' ln' : Int → Int) (F' : Int → Int → Int) (r : Int), V' = cV R m' tg' ln' F' ∧ o = .inl (some (rv r)) ∧ Ex m tg ln m' tg' ln' ∧ HC 0 m' tg' ln' F' ∧ Fq 0 [] m tg F F' ∧ (own m' r ∧ tg' r = 6) ∧ (szD m' tg' ln' = szD m tg ln) ∧ True) ∨ (∃ (m' : Nat) (tg' ln' : Int → Int) (F' : Int → Int → Int) (x : Nat), V' = cV R m' tg' ln' F' ∧ o = .inr x ∧ Ex m tg ln m' tg' ln' ∧ HC 0 m' tg' ln' F' ∧ Fq 0 [] m tg F F' ∧ (own m' (x : Int)) ∧ (tg' (x : Int) = 16) ∧ (szD m' tg' ln' = szD m tg ln + 25) ∧ True)) := by
  obtain ⟨d, rfl⟩ : ∃ d, dd = d + 1 := ⟨dd - 1, by omega⟩
  refine wk_of (e := jm39) rfl (by rw [jS_r, jS_0]; exact Nat.le_of_ble_eq_true rfl) ?_
  rw [la_r, la_0]
  show wj X d jm39 (0, [(0, rv (me))], [], cV R m tg ln F) _
  have hM0 : Fq 0 [] m tg F F := Fq_r
  have hX0 : Ex m tg ln m tg ln := Ex_r
  obtain ⟨L0, eL0⟩ : ∃ q : jL, q = [(0, rv (me))] := ⟨_, rfl⟩
  rw [← eL0]
  have g1 : jGet L0 0 = some (rv (me)) := eL0 ▸ (rfl : jGet [(0, rv (me))] 0 = some (rv (me)))
  clear eL0
  refine jx_ld (pc' := 1) (l' := L0) (st' := [rv (me)]) rfl (jl_rvn g1) ?_
  refine cx_gr (pc' := 4) (c := 0) (q := 6) (v := F (me) (6 : Int)) rfl rfl (by decide) (by decide) rfl rfl o_me t_me rfl ?_
  have y2 : F (me) (6 : Int) = 0 ∨ (own m (F (me) (6 : Int)) ∧ tg (F (me) (6 : Int)) = 6) := by have z := HC_r (c := 0) (q := 6) hC o_me t_me (by decide) rfl; rw [show F (me) ((6 : Nat) : Int) = F (me) (6 : Int) from rfl] at z; exact z
  refine jx_ld (pc' := 5) (l' := jSto1 L0 1 (rv (F (me) (6 : Int)))) (st' := []) rfl (js_rvn (by decide)) ?_
  obtain ⟨L3, eL3⟩ : ∃ q : jL, q = jSto1 L0 1 (rv (F (me) (6 : Int))) := ⟨_, rfl⟩
  rw [← eL3]
  have g4 : jGet L3 0 = some (rv (me)) := eL3 ▸ jg_nr (by decide) g1
  have g5 : jGet L3 1 = some (rv (F (me) (6 : Int))) := eL3 ▸ jg_eq
  clear eL3
  refine jx_ld (pc' := 6) (l' := L3) (st' := [rv (F (me) (6 : Int))]) rfl (jl_rvn g5) ?_
  refine cx_non (pc' := 9) (tg' := 19) rfl rfl rfl (fun h6 => ?_) (fun h6 => ?_)
  · have _q := h6
    have ho7 : own m (F (me) (6 : Int)) ∧ tg (F (me) (6 : Int)) = 6 := y2.resolve_left h6
    refine jx_ld (pc' := 20) (l' := L3) (st' := [rv (F (me) (6 : Int))]) rfl (jl_rvn g5) ?_
    refine jx_rt (v := some (rv (F (me) (6 : Int)))) rfl rfl rfl rfl rfl jr_are ?_
    exact Or.inl ⟨m, tg, ln, F, (F (me) (6 : Int)), rfl, rfl, hX0, hC, hM0, ⟨ho7.1, ho7.2⟩, by omega, trivial⟩
  · have _q := h6
    refine cx_thr2 (c := 15) rfl rfl rfl rfl ⟨by decide, by decide, (Nat.le_of_ble_eq_true rfl), rfl, rfl, rfl⟩ rfl rfl hC (fun x8 m8 tg8 ln8 F8 en8 em8 ho8 hx8 hC8 hf8 hs8 => ?_)
    have ex8 : 64 + (m : Int) ≤ (x8 : Int) := by have := hX0.1; omega
    have lm9 := hx8.1
    exact Or.inr ⟨m8, tg8, ln8, F8, x8, rfl, rfl, Ex_t hX0 hx8, hC8, Fq_n hM0 hf8 ex8, ho8.1, ho8.2, by omega, trivial⟩
set_option maxRecDepth 20000 in
set_option maxHeartbeats 4000000 in
theorem k_L_coreOf {X : jX} {dd : Nat} {R : Nat → jC} {m : Nat} {tg ln : Int → Int} {F : Int → Int → Int} {me p : Int} (hd : 2 ≤ dd) (hC : HC 0 m tg ln F) (o_me : own m me) (t_me : tg me = 1) (h_p : (-2147483648 : Int) ≤ p ∧ p ≤ 2147483647) : wk X dd 40 [rv me, .int (i32 p)] (cV R m tg ln F) (fun o V' => (∃ (m' : Nat) (tg' ln' : Int → Int) (F' : Int → Int → Int) (r : Int), V' = cV R m' tg' ln' F' ∧ o = .inl (some (rv r)) ∧ Ex m tg ln m' tg' ln' ∧ HC 0 m' tg' ln' F' ∧ Fq 0 [] m tg F F' ∧ (own m' r ∧ tg' r = 3) ∧ (szD m' tg' ln' = szD m tg ln) ∧ True) ∨ (∃ (m' : Nat) (tg' ln' : Int → Int) (F' : Int → Int → Int) (x : Nat), V' = cV R m' tg' ln' F' ∧ o = .inr x ∧ Ex m tg ln m' tg' ln' ∧ HC 0 m' tg' ln' F' ∧ Fq 0 [] m tg F F' ∧ (own m' (x : Int)) ∧ (tg' (x : Int) = 16 ∨ tg' (x : Int) = 17) ∧ (szD m' tg' ln' = szD m tg ln + 25) ∧ True)) := by
  obtain ⟨d, rfl⟩ : ∃ d, dd = d + 1 := ⟨dd - 1, by omega⟩
  refine wk_of (e := jm40) rfl (by rw [jS_r, jS_i, jS_0]; exact Nat.le_of_ble_eq_true rfl) ?_
  rw [la_r, la_i, la_0]
  show wj X d jm40 (0, [(0, rv (me)), (1, .int (i32 (p)))], [], cV R m tg ln F) _
  have hM0 : Fq 0 [] m tg F F := Fq_r
  have hX0 : Ex m tg ln m tg ln := Ex_r
  obtain ⟨L0, eL0⟩ : ∃ q : jL, q = [(0, rv (me)), (1, .int (i32 (p)))] := ⟨_, rfl⟩
  rw [← eL0]
  have g1 : jGet L0 0 = some (rv (me)) := eL0 ▸ (rfl : jGet [(0, rv (me)), (1, .int (i32 (p)))] 0 = some (rv (me)))
  have g2 : jGet L0 1 = some (.int (i32 (p))) := eL0 ▸ (rfl : jGet [(0, rv (me)), (1, .int (i32 (p)))] 1 = some (.int (i32 (p))))
  clear eL0
  refine jx_ld (pc' := 1) (l' := L0) (st' := [rv (me)]) rfl (jl_rvn g1) ?_
  refine cx_vi (c := 0) (a := me) (st := []) (as := []) rfl rfl rfl o_me t_me (by decide) rfl ⟨rfl, rfl, (Nat.le_of_ble_eq_true rfl)⟩ rfl (k_L_loaded (dd := d) (R := R) (m := m) (tg := tg) (ln := ln) (F := F) (me := me) (hd := by omega) (hC := hC) (o_me := o_me) (t_me := t_me)) (fun o V' hq => ?_)
  obtain ⟨m3, tg3, ln3, F4, r5, rfl, rfl, hx6, hC7, hM8, b9, p10, -⟩ | ⟨m11, tg11, ln11, F11, x11, rfl, rfl, hx11, hC11, hM11, ho11, ht11, p12, -⟩ := hq
  rotate_left
  ·
    refine Or.inr (Or.inr (Or.inr ⟨_, _, rfl, cx_exc (c := 15) ho11 ht11 (by decide), rfl, ?_⟩))
    exact Or.inr ⟨m11, tg11, ln11, F11, x11, rfl, rfl, Ex_t hX0 hx11, hC11, Fq_t (ln := ln) (ln1 := ln) hM0 hX0 hM11 (by decide) (Or.inl rfl), (And.intro ho11 ht11).1, Or.inl ((And.intro ho11 ht11).2), by omega, trivial⟩
  have hM13 : Fq 0 [] m tg F F4 := Fq_t (ln := ln) (ln1 := ln) hM0 hX0 hM8 (by decide) (Or.inl rfl)
  have ho14 : own m3 (me) ∧ tg3 (me) = 1 := Ex_o hx6 ⟨o_me, t_me⟩
  have hX15 := Ex_t hX0 hx6
  refine Or.inr (Or.inl ⟨_, rfl, ?_⟩)
  refine jx_ld (pc' := 5) (l' := L0) (st' := [.int (i32 (p)), rv (r5)]) rfl (jl_iloadn g2) ?_
  refine cx_vi (c := 5) (a := r5) (st := []) (as := [.int (i32 (p))]) rfl rfl rfl b9.1 b9.2 (by decide) rfl ⟨rfl, rfl, (Nat.le_of_ble_eq_true rfl)⟩ rfl (k_LMachine_coreAt (dd := d) (R := R) (m := m3) (tg := tg3) (ln := ln3) (F := F4) (me := r5) (a0 := p) (hd := by omega) (hC := hC7) (o_me := b9.1) (t_me := b9.2) (h_a0 := by omega)) (fun o V' hq => ?_)
  obtain ⟨r16, rfl, rfl, b17, -⟩ := hq
  refine Or.inr (Or.inl ⟨_, rfl, ?_⟩)
  refine jx_ld (pc' := 9) (l' := jSto1 L0 2 (rv (r16))) (st' := []) rfl (js_rvn (by decide)) ?_
  obtain ⟨L18, eL18⟩ : ∃ q : jL, q = jSto1 L0 2 (rv (r16)) := ⟨_, rfl⟩
  rw [← eL18]
  have g19 : jGet L18 0 = some (rv (me)) := eL18 ▸ jg_nr (by decide) g1
  have g20 : jGet L18 1 = some (.int (i32 (p))) := eL18 ▸ jg_ne (by decide) g2 rfl
  have g21 : jGet L18 2 = some (rv (r16)) := eL18 ▸ jg_eq
  clear eL18
  refine jx_ld (pc' := 10) (l' := L18) (st' := [rv (r16)]) rfl (jl_rvn g21) ?_
  refine cx_non (pc' := 13) (tg' := 24) rfl rfl rfl (fun h22 => ?_) (fun h22 => ?_)
  · have _q := h22
    have ho23 : own m3 (r16) ∧ tg3 (r16) = 3 := b17.resolve_left h22
    refine jx_ld (pc' := 25) (l' := L18) (st' := [rv (r16)]) rfl (jl_rvn g21) ?_
    refine jx_rt (v := some (rv (r16))) rfl rfl rfl rfl rfl jr_are ?_
    exact Or.inl ⟨m3, tg3, ln3, F4, (r16), rfl, rfl, hX15, hC7, hM13, ⟨ho23.1, ho23.2⟩, by omega, trivial⟩
  · have _q := h22
    refine cx_thr2w (c := 16) rfl rfl rfl rfl ⟨by decide, by decide, (Nat.le_of_ble_eq_true rfl), rfl, rfl, rfl⟩ rfl rfl hC7 (fun x24 m24 tg24 ln24 F24 en24 em24 ho24 hx24 hC24 hf24 hs24 => ?_)
    have ex24 : 64 + (m : Int) ≤ (x24 : Int) := by have := hX15.1; omega
    have lm25 := hx24.1
    exact Or.inr ⟨m24, tg24, ln24, F24, x24, rfl, rfl, Ex_t hX15 hx24, hC24, Fq_n hM13 hf24 ex24, ho24.1, Or.inr (ho24.2), by omega, trivial⟩
set_option maxRecDepth 20000 in
set_option maxHeartbeats 4000000 in
theorem k_L_processor {X : jX} {dd : Nat} {R : Nat → jC} {m : Nat} {tg ln : Int → Int} {F : Int → Int → Int} {me p wh : Int} (hd : 3 ≤ dd) (hC : HC 0 m tg ln F) (o_me : own m me) (t_me : tg me = 1) (h_p : (-2147483648 : Int) ≤ p ∧ p ≤ 2147483647) (h_wh : (-2147483648 : Int) ≤ wh ∧ wh ≤ 2147483647) : wk X dd 24 [rv me, .int (i32 p), .int (i32 wh)] (cV R m tg ln F) (fun o V' => (∃ (m' : Nat) (tg' ln' : Int → Int) (F' : Int → Int → Int) (r : Int), V' = cV R m' tg' ln' F' ∧ o = .inl (some (.int (i32 r))) ∧ Ex m tg ln m' tg' ln' ∧ HC 0 m' tg' ln' F' ∧ Fq 0 [] m tg F F' ∧ (-2147483648 ≤ r ∧ r ≤ 2147483647) ∧ (szD m' tg' ln' = szD m tg ln) ∧ True) ∨ (∃ (m' : Nat) (tg' ln' : Int → Int) (F' : Int → Int → Int) (x : Nat), V' = cV R m' tg' ln' F' ∧ o = .inr x ∧ Ex m tg ln m' tg' ln' ∧ HC 0 m' tg' ln' F' ∧ Fq 0 [] m tg F F' ∧ (own m' (x : Int)) ∧ (tg' (x : Int) = 16 ∨ tg' (x : Int) = 17 ∨ tg' (x : Int) = 14) ∧ (szD m' tg' ln' = szD m tg ln + 25) ∧ True)) := by
  obtain ⟨d, rfl⟩ : ∃ d, dd = d + 1 := ⟨dd - 1, by omega⟩
  refine wk_of (e := jm24) rfl (by rw [jS_r, jS_i, jS_i, jS_0]; exact Nat.le_of_ble_eq_true rfl) ?_
  rw [la_r, la_i, la_i, la_0]
  show wj X d jm24 (0, [(0, rv (me)), (1, .int (i32 (p))), (2, .int (i32 (wh)))], [], cV R m tg ln F) _
  have hM0 : Fq 0 [] m tg F F := Fq_r
  have hX0 : Ex m tg ln m tg ln := Ex_r
  obtain ⟨L0, eL0⟩ : ∃ q : jL, q = [(0, rv (me)), (1, .int (i32 (p))), (2, .int (i32 (wh)))] := ⟨_, rfl⟩
  rw [← eL0]
  have g1 : jGet L0 0 = some (rv (me)) := eL0 ▸ (rfl : jGet [(0, rv (me)), (1, .int (i32 (p))), (2, .int (i32 (wh)))] 0 = some (rv (me)))
  have g2 : jGet L0 1 = some (.int (i32 (p))) := eL0 ▸ (rfl : jGet [(0, rv (me)), (1, .int (i32 (p))), (2, .int (i32 (wh)))] 1 = some (.int (i32 (p))))
  have g3 : jGet L0 2 = some (.int (i32 (wh))) := eL0 ▸ (rfl : jGet [(0, rv (me)), (1, .int (i32 (p))), (2, .int (i32 (wh)))] 2 = some (.int (i32 (wh))))
  clear eL0
  refine jx_ld (pc' := 1) (l' := L0) (st' := [rv (me)]) rfl (jl_rvn g1) ?_
  refine jx_ld (pc' := 2) (l' := L0) (st' := [.int (i32 (p)), rv (me)]) rfl (jl_iloadn g2) ?_
  refine cx_vi (c := 0) (a := me) (st := []) (as := [.int (i32 (p))]) rfl rfl rfl o_me t_me (by decide) rfl ⟨rfl, rfl, (Nat.le_of_ble_eq_true rfl)⟩ rfl (k_L_coreOf (dd := d) (R := R) (m := m) (tg := tg) (ln := ln) (F := F) (me := me) (p := p) (hd := by omega) (hC := hC) (o_me := o_me) (t_me := t_me) (h_p := by omega)) (fun o V' hq => ?_)
  obtain ⟨m4, tg4, ln4, F5, r6, rfl, rfl, hx7, hC8, hM9, b10, p11, -⟩ | ⟨m12, tg12, ln12, F12, x12, rfl, rfl, hx12, hC12, hM12, ho12, ht12, p13, -⟩ := hq
  rotate_left
  · rcases ht12 with ht12 | ht12
    ·
      refine Or.inr (Or.inr (Or.inr ⟨_, _, rfl, cx_exc (c := 15) ho12 ht12 (by decide), rfl, ?_⟩))
      exact Or.inr ⟨m12, tg12, ln12, F12, x12, rfl, rfl, Ex_t hX0 hx12, hC12, Fq_t (ln := ln) (ln1 := ln) hM0 hX0 hM12 (by decide) (Or.inl rfl), (And.intro ho12 ht12).1, Or.inl ((And.intro ho12 ht12).2), by omega, trivial⟩
    ·
      refine Or.inr (Or.inr (Or.inr ⟨_, _, rfl, cx_exc (c := 16) ho12 ht12 (by decide), rfl, ?_⟩))
      exact Or.inr ⟨m12, tg12, ln12, F12, x12, rfl, rfl, Ex_t hX0 hx12, hC12, Fq_t (ln := ln) (ln1 := ln) hM0 hX0 hM12 (by decide) (Or.inl rfl), (And.intro ho12 ht12).1, Or.inr (Or.inl ((And.intro ho12 ht12).2)), by omega, trivial⟩
  have hM14 : Fq 0 [] m tg F F5 := Fq_t (ln := ln) (ln1 := ln) hM0 hX0 hM9 (by decide) (Or.inl rfl)
  have ho15 : own m4 (me) ∧ tg4 (me) = 1 := Ex_o hx7 ⟨o_me, t_me⟩
  have hX16 := Ex_t hX0 hx7
  refine Or.inr (Or.inl ⟨_, rfl, ?_⟩)
  refine jx_ld (pc' := 6) (l' := jSto1 L0 3 (rv (r6))) (st' := []) rfl (js_rvn (by decide)) ?_
  obtain ⟨L17, eL17⟩ : ∃ q : jL, q = jSto1 L0 3 (rv (r6)) := ⟨_, rfl⟩
  rw [← eL17]
  have g18 : jGet L17 0 = some (rv (me)) := eL17 ▸ jg_nr (by decide) g1
  have g19 : jGet L17 1 = some (.int (i32 (p))) := eL17 ▸ jg_ne (by decide) g2 rfl
  have g20 : jGet L17 2 = some (.int (i32 (wh))) := eL17 ▸ jg_ne (by decide) g3 rfl
  have g21 : jGet L17 3 = some (rv (r6)) := eL17 ▸ jg_eq
  clear eL17
  refine jx_ld (pc' := 7) (l' := L17) (st' := [.int (i32 (wh))]) rfl (jl_iloadn g20) ?_
  by_cases h22 : wh = 0
  · refine jx_swe (tg := 36) h22 rfl rfl rfl rfl ?_
    refine jx_ld (pc' := 37) (l' := L17) (st' := [rv (r6)]) rfl (jl_rvn g21) ?_
    refine cx_gr (pc' := 40) (c := 2) (q := 1) (v := F5 (r6) (1 : Int)) rfl rfl (by decide) (by decide) rfl rfl b10.1 b10.2 rfl ?_
    have y23 : own m4 (F5 (r6) (1 : Int)) ∧ tg4 (F5 (r6) (1 : Int)) = 20 ∧ ((0 : Int) ≠ 0 → ln4 (F5 (r6) (1 : Int)) = 0) := by have z := HC_n (c := 2) (q := 1) hC8 b10.1 b10.2 (own_z b10.1) (by decide) rfl; rw [show F5 (r6) ((1 : Nat) : Int) = F5 (r6) (1 : Int) from rfl] at z; exact ⟨z.1, z.2.1, z.2.2.1⟩
    have b24 := HC_l hC8 y23.1 y23.2.1 (by decide)
    refine cx_len (pc' := 41) rfl rfl y23.1 (by rw [y23.2.1]; decide) (by omega) ?_
    refine jx_rt (v := some (.int (i32 (ln4 (F5 (r6) (1 : Int)))))) rfl rfl rfl rfl rfl rfl ?_
    exact Or.inl ⟨m4, tg4, ln4, F5, (ln4 (F5 (r6) (1 : Int))), rfl, rfl, hX16, hC8, hM14, by omega, by omega, trivial⟩
  by_cases h25 : wh = 1
  · refine jx_swe (tg := 42) h25 rfl rfl rfl rfl ?_
    refine jx_ld (pc' := 43) (l' := L17) (st' := [rv (r6)]) rfl (jl_rvn g21) ?_
    refine cx_gr (pc' := 46) (c := 2) (q := 4) (v := F5 (r6) (4 : Int)) rfl rfl (by decide) (by decide) rfl rfl b10.1 b10.2 rfl ?_
    have y26 : own m4 (F5 (r6) (4 : Int)) ∧ tg4 (F5 (r6) (4 : Int)) = 21 ∧ ((0 : Int) ≠ 0 → ln4 (F5 (r6) (4 : Int)) = 0) := by have z := HC_n (c := 2) (q := 4) hC8 b10.1 b10.2 (own_z b10.1) (by decide) rfl; rw [show F5 (r6) ((4 : Nat) : Int) = F5 (r6) (4 : Int) from rfl] at z; exact ⟨z.1, z.2.1, z.2.2.1⟩
    have b27 := HC_l hC8 y26.1 y26.2.1 (by decide)
    refine cx_len (pc' := 47) rfl rfl y26.1 (by rw [y26.2.1]; decide) (by omega) ?_
    refine jx_ar (pc' := 49) (st' := [.int (i32 (16)), .int (i32 (ln4 (F5 (r6) (4 : Int))))]) rfl rfl rfl rfl ?_
    refine jx_sub (pc' := 50) rfl rfl ?_
    refine jx_rt (v := some (.int (i32 ((ln4 (F5 (r6) (4 : Int)) - 16))))) rfl rfl rfl rfl rfl rfl ?_
    exact Or.inl ⟨m4, tg4, ln4, F5, ((ln4 (F5 (r6) (4 : Int)) - 16)), rfl, rfl, hX16, hC8, hM14, by omega, by omega, trivial⟩
  by_cases h28 : wh = 2
  · refine jx_swe (tg := 51) h28 rfl rfl rfl rfl ?_
    refine jx_ld (pc' := 52) (l' := L17) (st' := [rv (r6)]) rfl (jl_rvn g21) ?_
    refine cx_gi (pc' := 55) (c := 2) (q := 2) (v := F5 (r6) (2 : Int)) rfl rfl (by decide) (by decide) (Or.inl rfl) rfl b10.1 b10.2 rfl ?_
    have b29 : (-2147483648 : Int) ≤ F5 (r6) (2 : Int) ∧ F5 (r6) (2 : Int) ≤ 2147483647 := by have z := HC_i (c := 2) (q := 2) hC8 b10.1 b10.2 (by decide) rfl; rw [show F5 (r6) ((2 : Nat) : Int) = F5 (r6) (2 : Int) from rfl] at z; exact z
    refine jx_rt (v := some (.int (i32 (F5 (r6) (2 : Int))))) rfl rfl rfl rfl rfl rfl ?_
    exact Or.inl ⟨m4, tg4, ln4, F5, (F5 (r6) (2 : Int)), rfl, rfl, hX16, hC8, hM14, by omega, by omega, trivial⟩
  by_cases h30 : wh = 3
  · refine jx_swe (tg := 56) h30 rfl rfl rfl rfl ?_
    refine jx_ld (pc' := 57) (l' := L17) (st' := [rv (r6)]) rfl (jl_rvn g21) ?_
    refine cx_gi (pc' := 60) (c := 2) (q := 3) (v := F5 (r6) (3 : Int)) rfl rfl (by decide) (by decide) (Or.inl rfl) rfl b10.1 b10.2 rfl ?_
    have b31 : (-2147483648 : Int) ≤ F5 (r6) (3 : Int) ∧ F5 (r6) (3 : Int) ≤ 2147483647 := by have z := HC_i (c := 2) (q := 3) hC8 b10.1 b10.2 (by decide) rfl; rw [show F5 (r6) ((3 : Nat) : Int) = F5 (r6) (3 : Int) from rfl] at z; exact z
    refine jx_rt (v := some (.int (i32 (F5 (r6) (3 : Int))))) rfl rfl rfl rfl rfl rfl ?_
    exact Or.inl ⟨m4, tg4, ln4, F5, (F5 (r6) (3 : Int)), rfl, rfl, hX16, hC8, hM14, by omega, by omega, trivial⟩
  refine jx_swt (tg := 61) (by omega) (by omega) rfl (by omega) rfl ?_
  refine cx_thr2 (c := 13) rfl rfl rfl rfl ⟨by decide, by decide, (Nat.le_of_ble_eq_true rfl), rfl, rfl, rfl⟩ rfl rfl hC8 (fun x32 m32 tg32 ln32 F32 en32 em32 ho32 hx32 hC32 hf32 hs32 => ?_)
  have ex32 : 64 + (m : Int) ≤ (x32 : Int) := by have := hX16.1; omega
  have lm33 := hx32.1
  exact Or.inr ⟨m32, tg32, ln32, F32, x32, rfl, rfl, Ex_t hX16 hx32, hC32, Fq_n hM14 hf32 ex32, ho32.1, Or.inr (Or.inr (ho32.2)), by omega, trivial⟩
set_option maxRecDepth 20000 in
set_option maxHeartbeats 4000000 in
theorem k_L_code {X : jX} {dd : Nat} {R : Nat → jC} {m : Nat} {tg ln : Int → Int} {F : Int → Int → Int} {me p k : Int} (hd : 3 ≤ dd) (hC : HC 0 m tg ln F) (o_me : own m me) (t_me : tg me = 1) (h_p : (-2147483648 : Int) ≤ p ∧ p ≤ 2147483647) (h_k : (-2147483648 : Int) ≤ k ∧ k ≤ 2147483647) : wk X dd 25 [rv me, .int (i32 p), .int (i32 k)] (cV R m tg ln F) (fun o V' => (∃ (m' : Nat) (tg' ln' : Int → Int) (F' : Int → Int → Int) (r : Int), V' = cV R m' tg' ln' F' ∧ o = .inl (some (.int (i32 r))) ∧ Ex m tg ln m' tg' ln' ∧ HC 0 m' tg' ln' F' ∧ Fq 0 [] m tg F F' ∧ (-2147483648 ≤ r ∧ r ≤ 2147483647) ∧ (szD m' tg' ln' = szD m tg ln) ∧ True) ∨ (∃ (m' : Nat) (tg' ln' : Int → Int) (F' : Int → Int → Int) (x : Nat), V' = cV R m' tg' ln' F' ∧ o = .inr x ∧ Ex m tg ln m' tg' ln' ∧ HC 0 m' tg' ln' F' ∧ Fq 0 [] m tg F F' ∧ (own m' (x : Int)) ∧ (tg' (x : Int) = 16 ∨ tg' (x : Int) = 17 ∨ tg' (x : Int) = 18) ∧ (szD m' tg' ln' = szD m tg ln + 25) ∧ True)) := by
  obtain ⟨d, rfl⟩ : ∃ d, dd = d + 1 := ⟨dd - 1, by omega⟩
  refine wk_of (e := jm25) rfl (by rw [jS_r, jS_i, jS_i, jS_0]; exact Nat.le_of_ble_eq_true rfl) ?_
  rw [la_r, la_i, la_i, la_0]
  show wj X d jm25 (0, [(0, rv (me)), (1, .int (i32 (p))), (2, .int (i32 (k)))], [], cV R m tg ln F) _
  have hM0 : Fq 0 [] m tg F F := Fq_r
  have hX0 : Ex m tg ln m tg ln := Ex_r
  obtain ⟨L0, eL0⟩ : ∃ q : jL, q = [(0, rv (me)), (1, .int (i32 (p))), (2, .int (i32 (k)))] := ⟨_, rfl⟩
  rw [← eL0]
  have g1 : jGet L0 0 = some (rv (me)) := eL0 ▸ (rfl : jGet [(0, rv (me)), (1, .int (i32 (p))), (2, .int (i32 (k)))] 0 = some (rv (me)))
  have g2 : jGet L0 1 = some (.int (i32 (p))) := eL0 ▸ (rfl : jGet [(0, rv (me)), (1, .int (i32 (p))), (2, .int (i32 (k)))] 1 = some (.int (i32 (p))))
  have g3 : jGet L0 2 = some (.int (i32 (k))) := eL0 ▸ (rfl : jGet [(0, rv (me)), (1, .int (i32 (p))), (2, .int (i32 (k)))] 2 = some (.int (i32 (k))))
  clear eL0
  refine jx_ld (pc' := 1) (l' := L0) (st' := [rv (me)]) rfl (jl_rvn g1) ?_
  refine jx_ld (pc' := 2) (l' := L0) (st' := [.int (i32 (p)), rv (me)]) rfl (jl_iloadn g2) ?_
  refine cx_vi (c := 0) (a := me) (st := []) (as := [.int (i32 (p))]) rfl rfl rfl o_me t_me (by decide) rfl ⟨rfl, rfl, (Nat.le_of_ble_eq_true rfl)⟩ rfl (k_L_coreOf (dd := d) (R := R) (m := m) (tg := tg) (ln := ln) (F := F) (me := me) (p := p) (hd := by omega) (hC := hC) (o_me := o_me) (t_me := t_me) (h_p := by omega)) (fun o V' hq => ?_)
  obtain ⟨m4, tg4, ln4, F5, r6, rfl, rfl, hx7, hC8, hM9, b10, p11, -⟩ | ⟨m12, tg12, ln12, F12, x12, rfl, rfl, hx12, hC12, hM12, ho12, ht12, p13, -⟩ := hq
  rotate_left
  · rcases ht12 with ht12 | ht12
    ·
      refine Or.inr (Or.inr (Or.inr ⟨_, _, rfl, cx_exc (c := 15) ho12 ht12 (by decide), rfl, ?_⟩))
      exact Or.inr ⟨m12, tg12, ln12, F12, x12, rfl, rfl, Ex_t hX0 hx12, hC12, Fq_t (ln := ln) (ln1 := ln) hM0 hX0 hM12 (by decide) (Or.inl rfl), (And.intro ho12 ht12).1, Or.inl ((And.intro ho12 ht12).2), by omega, trivial⟩
    ·
      refine Or.inr (Or.inr (Or.inr ⟨_, _, rfl, cx_exc (c := 16) ho12 ht12 (by decide), rfl, ?_⟩))
      exact Or.inr ⟨m12, tg12, ln12, F12, x12, rfl, rfl, Ex_t hX0 hx12, hC12, Fq_t (ln := ln) (ln1 := ln) hM0 hX0 hM12 (by decide) (Or.inl rfl), (And.intro ho12 ht12).1, Or.inr (Or.inl ((And.intro ho12 ht12).2)), by omega, trivial⟩
  have hM14 : Fq 0 [] m tg F F5 := Fq_t (ln := ln) (ln1 := ln) hM0 hX0 hM9 (by decide) (Or.inl rfl)
  have ho15 : own m4 (me) ∧ tg4 (me) = 1 := Ex_o hx7 ⟨o_me, t_me⟩
  have hX16 := Ex_t hX0 hx7
  refine Or.inr (Or.inl ⟨_, rfl, ?_⟩)
  refine jx_ld (pc' := 6) (l' := jSto1 L0 3 (rv (r6))) (st' := []) rfl (js_rvn (by decide)) ?_
  obtain ⟨L17, eL17⟩ : ∃ q : jL, q = jSto1 L0 3 (rv (r6)) := ⟨_, rfl⟩
  rw [← eL17]
  have g18 : jGet L17 0 = some (rv (me)) := eL17 ▸ jg_nr (by decide) g1
  have g19 : jGet L17 1 = some (.int (i32 (p))) := eL17 ▸ jg_ne (by decide) g2 rfl
  have g20 : jGet L17 2 = some (.int (i32 (k))) := eL17 ▸ jg_ne (by decide) g3 rfl
  have g21 : jGet L17 3 = some (rv (r6)) := eL17 ▸ jg_eq
  clear eL17
  refine jx_ld (pc' := 7) (l' := L17) (st' := [.int (i32 (k))]) rfl (jl_iloadn g20) ?_
  refine jx_if_lt (pc' := 10) (tg := 19) rfl rfl rfl (by omega) (by omega) (fun h22 => ?_) (fun h22 => ?_)
  · have _q := h22
    refine cx_thr2 (c := 17) rfl rfl rfl rfl ⟨by decide, by decide, (Nat.le_of_ble_eq_true rfl), rfl, rfl, rfl⟩ rfl rfl hC8 (fun x23 m23 tg23 ln23 F23 en23 em23 ho23 hx23 hC23 hf23 hs23 => ?_)
    have ex23 : 64 + (m : Int) ≤ (x23 : Int) := by have := hX16.1; omega
    have lm24 := hx23.1
    exact Or.inr ⟨m23, tg23, ln23, F23, x23, rfl, rfl, Ex_t hX16 hx23, hC23, Fq_n hM14 hf23 ex23, ho23.1, Or.inr (Or.inr (ho23.2)), by omega, trivial⟩
  · have _q := h22
    refine jx_ld (pc' := 11) (l' := L17) (st' := [.int (i32 (k))]) rfl (jl_iloadn g20) ?_
    refine jx_ld (pc' := 12) (l' := L17) (st' := [rv (r6), .int (i32 (k))]) rfl (jl_rvn g21) ?_
    refine cx_gr (pc' := 15) (c := 2) (q := 1) (v := F5 (r6) (1 : Int)) rfl rfl (by decide) (by decide) rfl rfl b10.1 b10.2 rfl ?_
    have y25 : own m4 (F5 (r6) (1 : Int)) ∧ tg4 (F5 (r6) (1 : Int)) = 20 ∧ ((0 : Int) ≠ 0 → ln4 (F5 (r6) (1 : Int)) = 0) := by have z := HC_n (c := 2) (q := 1) hC8 b10.1 b10.2 (own_z b10.1) (by decide) rfl; rw [show F5 (r6) ((1 : Nat) : Int) = F5 (r6) (1 : Int) from rfl] at z; exact ⟨z.1, z.2.1, z.2.2.1⟩
    have b26 := HC_l hC8 y25.1 y25.2.1 (by decide)
    refine cx_len (pc' := 16) rfl rfl y25.1 (by rw [y25.2.1]; decide) (by omega) ?_
    refine jx_icmp_lt (pc' := 19) (tg := 29) rfl rfl rfl (by omega) (by omega) (by omega) (by omega) (fun h27 => ?_) (fun h27 => ?_)
    · have _q := h27
      refine jx_ld (pc' := 30) (l' := L17) (st' := [rv (r6)]) rfl (jl_rvn g21) ?_
      refine cx_gr (pc' := 33) (c := 2) (q := 1) (v := F5 (r6) (1 : Int)) rfl rfl (by decide) (by decide) rfl rfl b10.1 b10.2 rfl ?_
      refine jx_ld (pc' := 34) (l' := L17) (st' := [.int (i32 (k)), rv (F5 (r6) (1 : Int))]) rfl (jl_iloadn g20) ?_
      refine cx_bal (pc' := 35) (z := k) rfl rfl y25.1 (Or.inl y25.2.1) (by omega) (by omega) (by omega) ?_
      have b28 : (-2147483648 : Int) ≤ F5 (F5 (r6) (1 : Int)) (k) ∧ F5 (F5 (r6) (1 : Int)) (k) ≤ 2147483647 := by have z := HC_ei (j := k) hC8 y25.1 (by rw [y25.2.1]; decide) (by omega); exact z
      refine jx_ar (pc' := 38) (st' := [.int (i32 (255)), .int (i32 (F5 (F5 (r6) (1 : Int)) (k)))]) rfl rfl rfl rfl ?_
      refine jx_and (pc' := 39) rfl rfl ?_
      obtain ⟨z29, ez29⟩ : ∃ q, q = (i32 (F5 (F5 (r6) (1 : Int)) (k)) &&& i32 (255)).toInt := ⟨_, rfl⟩
      rw [← ez29]
      have bz29 : (-2147483648 : Int) ≤ z29 ∧ z29 ≤ 2147483647 := ez29 ▸ i32_rg _
      have cz29 : 0 ≤ z29 ∧ z29 ≤ 255 := ez29 ▸ and_le (by decide) (by decide)
      clear ez29
      refine jx_rt (v := some (.int (i32 (z29)))) rfl rfl rfl rfl rfl rfl ?_
      exact Or.inl ⟨m4, tg4, ln4, F5, (z29), rfl, rfl, hX16, hC8, hM14, by omega, by omega, trivial⟩
    · have _q := h27
      refine cx_thr2 (c := 17) rfl rfl rfl rfl ⟨by decide, by decide, (Nat.le_of_ble_eq_true rfl), rfl, rfl, rfl⟩ rfl rfl hC8 (fun x30 m30 tg30 ln30 F30 en30 em30 ho30 hx30 hC30 hf30 hs30 => ?_)
      have ex30 : 64 + (m : Int) ≤ (x30 : Int) := by have := hX16.1; omega
      have lm31 := hx30.1
      exact Or.inr ⟨m30, tg30, ln30, F30, x30, rfl, rfl, Ex_t hX16 hx30, hC30, Fq_n hM14 hf30 ex30, ho30.1, Or.inr (Or.inr (ho30.2)), by omega, trivial⟩
set_option maxRecDepth 20000 in
set_option maxHeartbeats 4000000 in
theorem k_L_instruction {X : jX} {dd : Nat} {R : Nat → jC} {m : Nat} {tg ln : Int → Int} {F : Int → Int → Int} {me p k wh : Int} (hd : 3 ≤ dd) (hC : HC 0 m tg ln F) (o_me : own m me) (t_me : tg me = 1) (h_p : (-2147483648 : Int) ≤ p ∧ p ≤ 2147483647) (h_k : (-2147483648 : Int) ≤ k ∧ k ≤ 2147483647) (h_wh : (-2147483648 : Int) ≤ wh ∧ wh ≤ 2147483647) : wk X dd 26 [rv me, .int (i32 p), .int (i32 k), .int (i32 wh)] (cV R m tg ln F) (fun o V' => (∃ (m' : Nat) (tg' ln' : Int → Int) (F' : Int → Int → Int) (r : Int), V' = cV R m' tg' ln' F' ∧ o = .inl (some (.int (i32 r))) ∧ Ex m tg ln m' tg' ln' ∧ HC 0 m' tg' ln' F' ∧ Fq 0 [] m tg F F' ∧ (-2147483648 ≤ r ∧ r ≤ 2147483647) ∧ (szD m' tg' ln' = szD m tg ln) ∧ True) ∨ (∃ (m' : Nat) (tg' ln' : Int → Int) (F' : Int → Int → Int) (x : Nat), V' = cV R m' tg' ln' F' ∧ o = .inr x ∧ Ex m tg ln m' tg' ln' ∧ HC 0 m' tg' ln' F' ∧ Fq 0 [] m tg F F' ∧ (own m' (x : Int)) ∧ (tg' (x : Int) = 16 ∨ tg' (x : Int) = 17 ∨ tg' (x : Int) = 18 ∨ tg' (x : Int) = 14) ∧ (szD m' tg' ln' = szD m tg ln + 25) ∧ True)) := by
  obtain ⟨d, rfl⟩ : ∃ d, dd = d + 1 := ⟨dd - 1, by omega⟩
  refine wk_of (e := jm26) rfl (by rw [jS_r, jS_i, jS_i, jS_i, jS_0]; exact Nat.le_of_ble_eq_true rfl) ?_
  rw [la_r, la_i, la_i, la_i, la_0]
  show wj X d jm26 (0, [(0, rv (me)), (1, .int (i32 (p))), (2, .int (i32 (k))), (3, .int (i32 (wh)))], [], cV R m tg ln F) _
  have hM0 : Fq 0 [] m tg F F := Fq_r
  have hX0 : Ex m tg ln m tg ln := Ex_r
  obtain ⟨L0, eL0⟩ : ∃ q : jL, q = [(0, rv (me)), (1, .int (i32 (p))), (2, .int (i32 (k))), (3, .int (i32 (wh)))] := ⟨_, rfl⟩
  rw [← eL0]
  have g1 : jGet L0 0 = some (rv (me)) := eL0 ▸ (rfl : jGet [(0, rv (me)), (1, .int (i32 (p))), (2, .int (i32 (k))), (3, .int (i32 (wh)))] 0 = some (rv (me)))
  have g2 : jGet L0 1 = some (.int (i32 (p))) := eL0 ▸ (rfl : jGet [(0, rv (me)), (1, .int (i32 (p))), (2, .int (i32 (k))), (3, .int (i32 (wh)))] 1 = some (.int (i32 (p))))
  have g3 : jGet L0 2 = some (.int (i32 (k))) := eL0 ▸ (rfl : jGet [(0, rv (me)), (1, .int (i32 (p))), (2, .int (i32 (k))), (3, .int (i32 (wh)))] 2 = some (.int (i32 (k))))
  have g4 : jGet L0 3 = some (.int (i32 (wh))) := eL0 ▸ (rfl : jGet [(0, rv (me)), (1, .int (i32 (p))), (2, .int (i32 (k))), (3, .int (i32 (wh)))] 3 = some (.int (i32 (wh))))
  clear eL0
  refine jx_ld (pc' := 1) (l' := L0) (st' := [rv (me)]) rfl (jl_rvn g1) ?_
  refine jx_ld (pc' := 2) (l' := L0) (st' := [.int (i32 (p)), rv (me)]) rfl (jl_iloadn g2) ?_
  refine cx_vi (c := 0) (a := me) (st := []) (as := [.int (i32 (p))]) rfl rfl rfl o_me t_me (by decide) rfl ⟨rfl, rfl, (Nat.le_of_ble_eq_true rfl)⟩ rfl (k_L_coreOf (dd := d) (R := R) (m := m) (tg := tg) (ln := ln) (F := F) (me := me) (p := p) (hd := by omega) (hC := hC) (o_me := o_me) (t_me := t_me) (h_p := by omega)) (fun o V' hq => ?_)
  obtain ⟨m5, tg5, ln5, F6, r7, rfl, rfl, hx8, hC9, hM10, b11, p12, -⟩ | ⟨m13, tg13, ln13, F13, x13, rfl, rfl, hx13, hC13, hM13, ho13, ht13, p14, -⟩ := hq
  rotate_left
  · rcases ht13 with ht13 | ht13
    ·
      refine Or.inr (Or.inr (Or.inr ⟨_, _, rfl, cx_exc (c := 15) ho13 ht13 (by decide), rfl, ?_⟩))
      exact Or.inr ⟨m13, tg13, ln13, F13, x13, rfl, rfl, Ex_t hX0 hx13, hC13, Fq_t (ln := ln) (ln1 := ln) hM0 hX0 hM13 (by decide) (Or.inl rfl), (And.intro ho13 ht13).1, Or.inl ((And.intro ho13 ht13).2), by omega, trivial⟩
    ·
      refine Or.inr (Or.inr (Or.inr ⟨_, _, rfl, cx_exc (c := 16) ho13 ht13 (by decide), rfl, ?_⟩))
      exact Or.inr ⟨m13, tg13, ln13, F13, x13, rfl, rfl, Ex_t hX0 hx13, hC13, Fq_t (ln := ln) (ln1 := ln) hM0 hX0 hM13 (by decide) (Or.inl rfl), (And.intro ho13 ht13).1, Or.inr (Or.inl ((And.intro ho13 ht13).2)), by omega, trivial⟩
  have hM15 : Fq 0 [] m tg F F6 := Fq_t (ln := ln) (ln1 := ln) hM0 hX0 hM10 (by decide) (Or.inl rfl)
  have ho16 : own m5 (me) ∧ tg5 (me) = 1 := Ex_o hx8 ⟨o_me, t_me⟩
  have hX17 := Ex_t hX0 hx8
  refine Or.inr (Or.inl ⟨_, rfl, ?_⟩)
  refine jx_ld (pc' := 7) (l' := jSto1 L0 4 (rv (r7))) (st' := []) rfl (js_rv (by decide)) ?_
  obtain ⟨L18, eL18⟩ : ∃ q : jL, q = jSto1 L0 4 (rv (r7)) := ⟨_, rfl⟩
  rw [← eL18]
  have g19 : jGet L18 0 = some (rv (me)) := eL18 ▸ jg_nr (by decide) g1
  have g20 : jGet L18 1 = some (.int (i32 (p))) := eL18 ▸ jg_ne (by decide) g2 rfl
  have g21 : jGet L18 2 = some (.int (i32 (k))) := eL18 ▸ jg_ne (by decide) g3 rfl
  have g22 : jGet L18 3 = some (.int (i32 (wh))) := eL18 ▸ jg_ne (by decide) g4 rfl
  have g23 : jGet L18 4 = some (rv (r7)) := eL18 ▸ jg_eq
  clear eL18
  refine jx_ld (pc' := 8) (l' := L18) (st' := [.int (i32 (k))]) rfl (jl_iloadn g21) ?_
  refine jx_if_lt (pc' := 11) (tg := 21) rfl rfl rfl (by omega) (by omega) (fun h24 => ?_) (fun h24 => ?_)
  · have _q := h24
    refine cx_thr2 (c := 17) rfl rfl rfl rfl ⟨by decide, by decide, (Nat.le_of_ble_eq_true rfl), rfl, rfl, rfl⟩ rfl rfl hC9 (fun x25 m25 tg25 ln25 F25 en25 em25 ho25 hx25 hC25 hf25 hs25 => ?_)
    have ex25 : 64 + (m : Int) ≤ (x25 : Int) := by have := hX17.1; omega
    have lm26 := hx25.1
    exact Or.inr ⟨m25, tg25, ln25, F25, x25, rfl, rfl, Ex_t hX17 hx25, hC25, Fq_n hM15 hf25 ex25, ho25.1, Or.inr (Or.inr (Or.inl (ho25.2))), by omega, trivial⟩
  · have _q := h24
    refine jx_ld (pc' := 12) (l' := L18) (st' := [.int (i32 (k))]) rfl (jl_iloadn g21) ?_
    refine jx_ld (pc' := 14) (l' := L18) (st' := [rv (r7), .int (i32 (k))]) rfl (jl_rv g23) ?_
    refine cx_gr (pc' := 17) (c := 2) (q := 1) (v := F6 (r7) (1 : Int)) rfl rfl (by decide) (by decide) rfl rfl b11.1 b11.2 rfl ?_
    have y27 : own m5 (F6 (r7) (1 : Int)) ∧ tg5 (F6 (r7) (1 : Int)) = 20 ∧ ((0 : Int) ≠ 0 → ln5 (F6 (r7) (1 : Int)) = 0) := by have z := HC_n (c := 2) (q := 1) hC9 b11.1 b11.2 (own_z b11.1) (by decide) rfl; rw [show F6 (r7) ((1 : Nat) : Int) = F6 (r7) (1 : Int) from rfl] at z; exact ⟨z.1, z.2.1, z.2.2.1⟩
    have b28 := HC_l hC9 y27.1 y27.2.1 (by decide)
    refine cx_len (pc' := 18) rfl rfl y27.1 (by rw [y27.2.1]; decide) (by omega) ?_
    refine jx_icmp_lt (pc' := 21) (tg := 31) rfl rfl rfl (by omega) (by omega) (by omega) (by omega) (fun h29 => ?_) (fun h29 => ?_)
    · have _q := h29
      refine jx_ld (pc' := 32) (l' := L18) (st' := [.int (i32 (wh))]) rfl (jl_iloadn g22) ?_
      refine jx_if_lt (pc' := 35) (tg := 40) rfl rfl rfl (by omega) (by omega) (fun h30 => ?_) (fun h30 => ?_)
      · have _q := h30
        refine cx_thr2 (c := 13) rfl rfl rfl rfl ⟨by decide, by decide, (Nat.le_of_ble_eq_true rfl), rfl, rfl, rfl⟩ rfl rfl hC9 (fun x31 m31 tg31 ln31 F31 en31 em31 ho31 hx31 hC31 hf31 hs31 => ?_)
        have ex31 : 64 + (m : Int) ≤ (x31 : Int) := by have := hX17.1; omega
        have lm32 := hx31.1
        exact Or.inr ⟨m31, tg31, ln31, F31, x31, rfl, rfl, Ex_t hX17 hx31, hC31, Fq_n hM15 hf31 ex31, ho31.1, Or.inr (Or.inr (Or.inr (ho31.2))), by omega, trivial⟩
      · have _q := h30
        refine jx_ld (pc' := 36) (l' := L18) (st' := [.int (i32 (wh))]) rfl (jl_iloadn g22) ?_
        refine jx_ar (pc' := 37) (st' := [.int (i32 (2)), .int (i32 (wh))]) rfl rfl rfl rfl ?_
        refine jx_icmp_le (pc' := 40) (tg := 50) rfl rfl rfl (by omega) (by omega) (by decide) (by decide) (fun h33 => ?_) (fun h33 => ?_)
        · have _q := h33
          refine jx_ld (pc' := 52) (l' := L18) (st' := [rv (r7)]) rfl (jl_rv g23) ?_
          refine jx_ld (pc' := 53) (l' := L18) (st' := [.int (i32 (k)), rv (r7)]) rfl (jl_iloadn g21) ?_
          refine jx_ld (pc' := 54) (l' := L18) (st' := [.int (i32 (wh)), .int (i32 (k)), rv (r7)]) rfl (jl_iloadn g22) ?_
          refine cx_vi (c := 2) (a := r7) (st := []) (as := [.int (i32 (k)), .int (i32 (wh))]) rfl rfl rfl b11.1 b11.2 (by decide) rfl ⟨rfl, rfl, (Nat.le_of_ble_eq_true rfl)⟩ rfl (k_LCore_decode (dd := d) (R := R) (m := m5) (tg := tg5) (ln := ln5) (F := F6) (me := r7) (k := k) (what := wh) (hd := by omega) (hC := hC9) (o_me := b11.1) (t_me := b11.2) (h_k := by omega) (h_what := by omega)) (fun o V' hq => ?_)
          obtain ⟨r34, rfl, rfl, b35, -⟩ := hq
          refine Or.inr (Or.inl ⟨_, rfl, ?_⟩)
          refine jx_rt (v := some (.int (i32 (r34)))) rfl rfl rfl rfl rfl rfl ?_
          exact Or.inl ⟨m5, tg5, ln5, F6, (r34), rfl, rfl, hX17, hC9, hM15, by omega, by omega, trivial⟩
        · have _q := h33
          refine cx_thr2 (c := 13) rfl rfl rfl rfl ⟨by decide, by decide, (Nat.le_of_ble_eq_true rfl), rfl, rfl, rfl⟩ rfl rfl hC9 (fun x36 m36 tg36 ln36 F36 en36 em36 ho36 hx36 hC36 hf36 hs36 => ?_)
          have ex36 : 64 + (m : Int) ≤ (x36 : Int) := by have := hX17.1; omega
          have lm37 := hx36.1
          exact Or.inr ⟨m36, tg36, ln36, F36, x36, rfl, rfl, Ex_t hX17 hx36, hC36, Fq_n hM15 hf36 ex36, ho36.1, Or.inr (Or.inr (Or.inr (ho36.2))), by omega, trivial⟩
    · have _q := h29
      refine cx_thr2 (c := 17) rfl rfl rfl rfl ⟨by decide, by decide, (Nat.le_of_ble_eq_true rfl), rfl, rfl, rfl⟩ rfl rfl hC9 (fun x38 m38 tg38 ln38 F38 en38 em38 ho38 hx38 hC38 hf38 hs38 => ?_)
      have ex38 : 64 + (m : Int) ≤ (x38 : Int) := by have := hX17.1; omega
      have lm39 := hx38.1
      exact Or.inr ⟨m38, tg38, ln38, F38, x38, rfl, rfl, Ex_t hX17 hx38, hC38, Fq_n hM15 hf38 ex38, ho38.1, Or.inr (Or.inr (Or.inl (ho38.2))), by omega, trivial⟩
set_option maxRecDepth 20000 in
set_option maxHeartbeats 4000000 in
theorem k_L_link {X : jX} {dd : Nat} {R : Nat → jC} {m : Nat} {tg ln : Int → Int} {F : Int → Int → Int} {me l wh : Int} (hd : 2 ≤ dd) (hC : HC 0 m tg ln F) (o_me : own m me) (t_me : tg me = 1) (h_l : (-2147483648 : Int) ≤ l ∧ l ≤ 2147483647) (h_wh : (-2147483648 : Int) ≤ wh ∧ wh ≤ 2147483647) : wk X dd 27 [rv me, .int (i32 l), .int (i32 wh)] (cV R m tg ln F) (fun o V' => (∃ (m' : Nat) (tg' ln' : Int → Int) (F' : Int → Int → Int) (r : Int), V' = cV R m' tg' ln' F' ∧ o = .inl (some (.int (i32 r))) ∧ Ex m tg ln m' tg' ln' ∧ HC 0 m' tg' ln' F' ∧ Fq 0 [] m tg F F' ∧ (-2147483648 ≤ r ∧ r ≤ 2147483647) ∧ (szD m' tg' ln' = szD m tg ln) ∧ True) ∨ (∃ (m' : Nat) (tg' ln' : Int → Int) (F' : Int → Int → Int) (x : Nat), V' = cV R m' tg' ln' F' ∧ o = .inr x ∧ Ex m tg ln m' tg' ln' ∧ HC 0 m' tg' ln' F' ∧ Fq 0 [] m tg F F' ∧ (own m' (x : Int)) ∧ (tg' (x : Int) = 16 ∨ tg' (x : Int) = 18 ∨ tg' (x : Int) = 14) ∧ (szD m' tg' ln' = szD m tg ln + 25) ∧ True)) := by
  obtain ⟨d, rfl⟩ : ∃ d, dd = d + 1 := ⟨dd - 1, by omega⟩
  refine wk_of (e := jm27) rfl (by rw [jS_r, jS_i, jS_i, jS_0]; exact Nat.le_of_ble_eq_true rfl) ?_
  rw [la_r, la_i, la_i, la_0]
  show wj X d jm27 (0, [(0, rv (me)), (1, .int (i32 (l))), (2, .int (i32 (wh)))], [], cV R m tg ln F) _
  have hM0 : Fq 0 [] m tg F F := Fq_r
  have hX0 : Ex m tg ln m tg ln := Ex_r
  obtain ⟨L0, eL0⟩ : ∃ q : jL, q = [(0, rv (me)), (1, .int (i32 (l))), (2, .int (i32 (wh)))] := ⟨_, rfl⟩
  rw [← eL0]
  have g1 : jGet L0 0 = some (rv (me)) := eL0 ▸ (rfl : jGet [(0, rv (me)), (1, .int (i32 (l))), (2, .int (i32 (wh)))] 0 = some (rv (me)))
  have g2 : jGet L0 1 = some (.int (i32 (l))) := eL0 ▸ (rfl : jGet [(0, rv (me)), (1, .int (i32 (l))), (2, .int (i32 (wh)))] 1 = some (.int (i32 (l))))
  have g3 : jGet L0 2 = some (.int (i32 (wh))) := eL0 ▸ (rfl : jGet [(0, rv (me)), (1, .int (i32 (l))), (2, .int (i32 (wh)))] 2 = some (.int (i32 (wh))))
  clear eL0
  refine jx_ld (pc' := 1) (l' := L0) (st' := [rv (me)]) rfl (jl_rvn g1) ?_
  refine cx_vi (c := 0) (a := me) (st := []) (as := []) rfl rfl rfl o_me t_me (by decide) rfl ⟨rfl, rfl, (Nat.le_of_ble_eq_true rfl)⟩ rfl (k_L_loaded (dd := d) (R := R) (m := m) (tg := tg) (ln := ln) (F := F) (me := me) (hd := by omega) (hC := hC) (o_me := o_me) (t_me := t_me)) (fun o V' hq => ?_)
  obtain ⟨m4, tg4, ln4, F5, r6, rfl, rfl, hx7, hC8, hM9, b10, p11, -⟩ | ⟨m12, tg12, ln12, F12, x12, rfl, rfl, hx12, hC12, hM12, ho12, ht12, p13, -⟩ := hq
  rotate_left
  ·
    refine Or.inr (Or.inr (Or.inr ⟨_, _, rfl, cx_exc (c := 15) ho12 ht12 (by decide), rfl, ?_⟩))
    exact Or.inr ⟨m12, tg12, ln12, F12, x12, rfl, rfl, Ex_t hX0 hx12, hC12, Fq_t (ln := ln) (ln1 := ln) hM0 hX0 hM12 (by decide) (Or.inl rfl), (And.intro ho12 ht12).1, Or.inl ((And.intro ho12 ht12).2), by omega, trivial⟩
  have hM14 : Fq 0 [] m tg F F5 := Fq_t (ln := ln) (ln1 := ln) hM0 hX0 hM9 (by decide) (Or.inl rfl)
  have ho15 : own m4 (me) ∧ tg4 (me) = 1 := Ex_o hx7 ⟨o_me, t_me⟩
  have hX16 := Ex_t hX0 hx7
  refine Or.inr (Or.inl ⟨_, rfl, ?_⟩)
  refine jx_ld (pc' := 5) (l' := L0) (st' := [.int (i32 (l)), rv (r6)]) rfl (jl_iloadn g2) ?_
  refine cx_vi (c := 5) (a := r6) (st := []) (as := [.int (i32 (l))]) rfl rfl rfl b10.1 b10.2 (by decide) rfl ⟨rfl, rfl, (Nat.le_of_ble_eq_true rfl)⟩ rfl (k_LMachine_linkAt (dd := d) (R := R) (m := m4) (tg := tg4) (ln := ln4) (F := F5) (me := r6) (a0 := l) (hd := by omega) (hC := hC8) (o_me := b10.1) (t_me := b10.2) (h_a0 := by omega)) (fun o V' hq => ?_)
  obtain ⟨r17, rfl, rfl, b18, -⟩ := hq
  refine Or.inr (Or.inl ⟨_, rfl, ?_⟩)
  refine jx_ld (pc' := 9) (l' := jSto1 L0 3 (rv (r17))) (st' := []) rfl (js_rvn (by decide)) ?_
  obtain ⟨L19, eL19⟩ : ∃ q : jL, q = jSto1 L0 3 (rv (r17)) := ⟨_, rfl⟩
  rw [← eL19]
  have g20 : jGet L19 0 = some (rv (me)) := eL19 ▸ jg_nr (by decide) g1
  have g21 : jGet L19 1 = some (.int (i32 (l))) := eL19 ▸ jg_ne (by decide) g2 rfl
  have g22 : jGet L19 2 = some (.int (i32 (wh))) := eL19 ▸ jg_ne (by decide) g3 rfl
  have g23 : jGet L19 3 = some (rv (r17)) := eL19 ▸ jg_eq
  clear eL19
  refine jx_ld (pc' := 10) (l' := L19) (st' := [rv (r17)]) rfl (jl_rvn g23) ?_
  refine cx_non (pc' := 13) (tg' := 23) rfl rfl rfl (fun h24 => ?_) (fun h24 => ?_)
  · have _q := h24
    have ho25 : own m4 (r17) ∧ tg4 (r17) = 5 := b18.resolve_left h24
    refine jx_ld (pc' := 24) (l' := L19) (st' := [.int (i32 (wh))]) rfl (jl_iloadn g22) ?_
    by_cases h26 : wh = 0
    · refine jx_swe (tg := 64) h26 rfl rfl rfl rfl ?_
      refine jx_ld (pc' := 65) (l' := L19) (st' := [rv (r17)]) rfl (jl_rvn g23) ?_
      refine cx_gi (pc' := 68) (c := 4) (q := 0) (v := F5 (r17) (0 : Int)) rfl rfl (by decide) (by decide) (Or.inl rfl) rfl ho25.1 ho25.2 rfl ?_
      have b27 : (-2147483648 : Int) ≤ F5 (r17) (0 : Int) ∧ F5 (r17) (0 : Int) ≤ 2147483647 := by have z := HC_i (c := 4) (q := 0) hC8 ho25.1 ho25.2 (by decide) rfl; rw [show F5 (r17) ((0 : Nat) : Int) = F5 (r17) (0 : Int) from rfl] at z; exact z
      refine jx_rt (v := some (.int (i32 (F5 (r17) (0 : Int))))) rfl rfl rfl rfl rfl rfl ?_
      exact Or.inl ⟨m4, tg4, ln4, F5, (F5 (r17) (0 : Int)), rfl, rfl, hX16, hC8, hM14, by omega, by omega, trivial⟩
    by_cases h28 : wh = 1
    · refine jx_swe (tg := 69) h28 rfl rfl rfl rfl ?_
      refine jx_ld (pc' := 70) (l' := L19) (st' := [rv (r17)]) rfl (jl_rvn g23) ?_
      refine cx_gi (pc' := 73) (c := 4) (q := 1) (v := F5 (r17) (1 : Int)) rfl rfl (by decide) (by decide) (Or.inl rfl) rfl ho25.1 ho25.2 rfl ?_
      have b29 : (-2147483648 : Int) ≤ F5 (r17) (1 : Int) ∧ F5 (r17) (1 : Int) ≤ 2147483647 := by have z := HC_i (c := 4) (q := 1) hC8 ho25.1 ho25.2 (by decide) rfl; rw [show F5 (r17) ((1 : Nat) : Int) = F5 (r17) (1 : Int) from rfl] at z; exact z
      refine jx_rt (v := some (.int (i32 (F5 (r17) (1 : Int))))) rfl rfl rfl rfl rfl rfl ?_
      exact Or.inl ⟨m4, tg4, ln4, F5, (F5 (r17) (1 : Int)), rfl, rfl, hX16, hC8, hM14, by omega, by omega, trivial⟩
    by_cases h30 : wh = 2
    · refine jx_swe (tg := 74) h30 rfl rfl rfl rfl ?_
      refine jx_ld (pc' := 75) (l' := L19) (st' := [rv (r17)]) rfl (jl_rvn g23) ?_
      refine cx_gi (pc' := 78) (c := 4) (q := 5) (v := F5 (r17) (5 : Int)) rfl rfl (by decide) (by decide) (Or.inr rfl) rfl ho25.1 ho25.2 rfl ?_
      have b31 : (0 : Int) ≤ F5 (r17) (5 : Int) ∧ F5 (r17) (5 : Int) ≤ 1 := by have z := HC_i (c := 4) (q := 5) hC8 ho25.1 ho25.2 (by decide) rfl; rw [show F5 (r17) ((5 : Nat) : Int) = F5 (r17) (5 : Int) from rfl] at z; exact z
      refine jx_if_eq (pc' := 81) (tg := 85) rfl rfl rfl (by omega) (by omega) (fun h32 => ?_) (fun h32 => ?_)
      · have _q := h32
        refine jx_ld (pc' := 86) (l' := L19) (st' := [rv (r17)]) rfl (jl_rvn g23) ?_
        refine cx_gi (pc' := 89) (c := 4) (q := 4) (v := F5 (r17) (4 : Int)) rfl rfl (by decide) (by decide) (Or.inl rfl) rfl ho25.1 ho25.2 rfl ?_
        have b33 : (-2147483648 : Int) ≤ F5 (r17) (4 : Int) ∧ F5 (r17) (4 : Int) ≤ 2147483647 := by have z := HC_i (c := 4) (q := 4) hC8 ho25.1 ho25.2 (by decide) rfl; rw [show F5 (r17) ((4 : Nat) : Int) = F5 (r17) (4 : Int) from rfl] at z; exact z
        refine jx_rt (v := some (.int (i32 (F5 (r17) (4 : Int))))) rfl rfl rfl rfl rfl rfl ?_
        exact Or.inl ⟨m4, tg4, ln4, F5, (F5 (r17) (4 : Int)), rfl, rfl, hX16, hC8, hM14, by omega, by omega, trivial⟩
      · have _q := h32
        refine jx_ar (pc' := 82) (st' := [.int (i32 (0))]) rfl rfl rfl rfl ?_
        refine jx_go (tg := 89) rfl rfl ?_
        refine jx_rt (v := some (.int (i32 (0)))) rfl rfl rfl rfl rfl rfl ?_
        exact Or.inl ⟨m4, tg4, ln4, F5, (0), rfl, rfl, hX16, hC8, hM14, by omega, by omega, trivial⟩
    by_cases h34 : wh = 3
    · refine jx_swe (tg := 90) h34 rfl rfl rfl rfl ?_
      refine jx_ld (pc' := 91) (l' := L19) (st' := [rv (r17)]) rfl (jl_rvn g23) ?_
      refine cx_gi (pc' := 94) (c := 4) (q := 6) (v := F5 (r17) (6 : Int)) rfl rfl (by decide) (by decide) (Or.inr rfl) rfl ho25.1 ho25.2 rfl ?_
      have b35 : (0 : Int) ≤ F5 (r17) (6 : Int) ∧ F5 (r17) (6 : Int) ≤ 1 := by have z := HC_i (c := 4) (q := 6) hC8 ho25.1 ho25.2 (by decide) rfl; rw [show F5 (r17) ((6 : Nat) : Int) = F5 (r17) (6 : Int) from rfl] at z; exact z
      refine jx_if_eq (pc' := 97) (tg := 101) rfl rfl rfl (by omega) (by omega) (fun h36 => ?_) (fun h36 => ?_)
      · have _q := h36
        refine jx_ar (pc' := 102) (st' := [.int (i32 (0))]) rfl rfl rfl rfl ?_
        refine jx_rt (v := some (.int (i32 (0)))) rfl rfl rfl rfl rfl rfl ?_
        exact Or.inl ⟨m4, tg4, ln4, F5, (0), rfl, rfl, hX16, hC8, hM14, by omega, by omega, trivial⟩
      · have _q := h36
        refine jx_ar (pc' := 98) (st' := [.int (i32 (1))]) rfl rfl rfl rfl ?_
        refine jx_go (tg := 102) rfl rfl ?_
        refine jx_rt (v := some (.int (i32 (1)))) rfl rfl rfl rfl rfl rfl ?_
        exact Or.inl ⟨m4, tg4, ln4, F5, (1), rfl, rfl, hX16, hC8, hM14, by omega, by omega, trivial⟩
    by_cases h37 : wh = 4
    · refine jx_swe (tg := 103) h37 rfl rfl rfl rfl ?_
      refine jx_ld (pc' := 104) (l' := L19) (st' := [rv (r17)]) rfl (jl_rvn g23) ?_
      refine cx_gi (pc' := 107) (c := 4) (q := 3) (v := F5 (r17) (3 : Int)) rfl rfl (by decide) (by decide) (Or.inr rfl) rfl ho25.1 ho25.2 rfl ?_
      have b38 : (0 : Int) ≤ F5 (r17) (3 : Int) ∧ F5 (r17) (3 : Int) ≤ 1 := by have z := HC_i (c := 4) (q := 3) hC8 ho25.1 ho25.2 (by decide) rfl; rw [show F5 (r17) ((3 : Nat) : Int) = F5 (r17) (3 : Int) from rfl] at z; exact z
      refine jx_if_eq (pc' := 110) (tg := 114) rfl rfl rfl (by omega) (by omega) (fun h39 => ?_) (fun h39 => ?_)
      · have _q := h39
        refine jx_ar (pc' := 115) (st' := [.int (i32 (0))]) rfl rfl rfl rfl ?_
        refine jx_rt (v := some (.int (i32 (0)))) rfl rfl rfl rfl rfl rfl ?_
        exact Or.inl ⟨m4, tg4, ln4, F5, (0), rfl, rfl, hX16, hC8, hM14, by omega, by omega, trivial⟩
      · have _q := h39
        refine jx_ar (pc' := 111) (st' := [.int (i32 (1))]) rfl rfl rfl rfl ?_
        refine jx_go (tg := 115) rfl rfl ?_
        refine jx_rt (v := some (.int (i32 (1)))) rfl rfl rfl rfl rfl rfl ?_
        exact Or.inl ⟨m4, tg4, ln4, F5, (1), rfl, rfl, hX16, hC8, hM14, by omega, by omega, trivial⟩
    by_cases h40 : wh = 5
    · refine jx_swe (tg := 116) h40 rfl rfl rfl rfl ?_
      refine jx_ld (pc' := 117) (l' := L19) (st' := [rv (r17)]) rfl (jl_rvn g23) ?_
      refine cx_gi (pc' := 120) (c := 4) (q := 2) (v := F5 (r17) (2 : Int)) rfl rfl (by decide) (by decide) (Or.inl rfl) rfl ho25.1 ho25.2 rfl ?_
      have b41 : (-2147483648 : Int) ≤ F5 (r17) (2 : Int) ∧ F5 (r17) (2 : Int) ≤ 2147483647 := by have z := HC_i (c := 4) (q := 2) hC8 ho25.1 ho25.2 (by decide) rfl; rw [show F5 (r17) ((2 : Nat) : Int) = F5 (r17) (2 : Int) from rfl] at z; exact z
      refine jx_rt (v := some (.int (i32 (F5 (r17) (2 : Int))))) rfl rfl rfl rfl rfl rfl ?_
      exact Or.inl ⟨m4, tg4, ln4, F5, (F5 (r17) (2 : Int)), rfl, rfl, hX16, hC8, hM14, by omega, by omega, trivial⟩
    refine jx_swt (tg := 121) (by omega) (by omega) rfl (by omega) rfl ?_
    refine cx_thr2 (c := 13) rfl rfl rfl rfl ⟨by decide, by decide, (Nat.le_of_ble_eq_true rfl), rfl, rfl, rfl⟩ rfl rfl hC8 (fun x42 m42 tg42 ln42 F42 en42 em42 ho42 hx42 hC42 hf42 hs42 => ?_)
    have ex42 : 64 + (m : Int) ≤ (x42 : Int) := by have := hX16.1; omega
    have lm43 := hx42.1
    exact Or.inr ⟨m42, tg42, ln42, F42, x42, rfl, rfl, Ex_t hX16 hx42, hC42, Fq_n hM14 hf42 ex42, ho42.1, Or.inr (Or.inr (ho42.2)), by omega, trivial⟩
  · have _q := h24
    refine cx_thr2 (c := 17) rfl rfl rfl rfl ⟨by decide, by decide, (Nat.le_of_ble_eq_true rfl), rfl, rfl, rfl⟩ rfl rfl hC8 (fun x44 m44 tg44 ln44 F44 en44 em44 ho44 hx44 hC44 hf44 hs44 => ?_)
    have ex44 : 64 + (m : Int) ≤ (x44 : Int) := by have := hX16.1; omega
    have lm45 := hx44.1
    exact Or.inr ⟨m44, tg44, ln44, F44, x44, rfl, rfl, Ex_t hX16 hx44, hC44, Fq_n hM14 hf44 ex44, ho44.1, Or.inr (Or.inl (ho44.2)), by omega, trivial⟩
set_option maxRecDepth 20000 in
set_option maxHeartbeats 4000000 in
theorem k_L_outcome {X : jX} {dd : Nat} {R : Nat → jC} {m : Nat} {tg ln : Int → Int} {F : Int → Int → Int} {me : Int} (hd : 3 ≤ dd) (hC : HC 0 m tg ln F) (o_me : own m me) (t_me : tg me = 1) : wk X dd 33 [rv me] (cV R m tg ln F) (fun o V' => (∃ (m' : Nat) (tg' ln' : Int → Int) (F' : Int → Int → Int) (r : Int), V' = cV R m' tg' ln' F' ∧ o = .inl (some (.int (i32 r))) ∧ Ex m tg ln m' tg' ln' ∧ HC 0 m' tg' ln' F' ∧ Fq 0 [] m tg F F' ∧ (-2147483648 ≤ r ∧ r ≤ 2147483647) ∧ (szD m' tg' ln' = szD m tg ln) ∧ True) ∨ (∃ (m' : Nat) (tg' ln' : Int → Int) (F' : Int → Int → Int) (x : Nat), V' = cV R m' tg' ln' F' ∧ o = .inr x ∧ Ex m tg ln m' tg' ln' ∧ HC 0 m' tg' ln' F' ∧ Fq 0 [] m tg F F' ∧ (own m' (x : Int)) ∧ (tg' (x : Int) = 16) ∧ (szD m' tg' ln' = szD m tg ln + 25) ∧ True)) := by
  obtain ⟨d, rfl⟩ : ∃ d, dd = d + 1 := ⟨dd - 1, by omega⟩
  refine wk_of (e := jm33) rfl (by rw [jS_r, jS_0]; exact Nat.le_of_ble_eq_true rfl) ?_
  rw [la_r, la_0]
  show wj X d jm33 (0, [(0, rv (me))], [], cV R m tg ln F) _
  have hM0 : Fq 0 [] m tg F F := Fq_r
  have hX0 : Ex m tg ln m tg ln := Ex_r
  obtain ⟨L0, eL0⟩ : ∃ q : jL, q = [(0, rv (me))] := ⟨_, rfl⟩
  rw [← eL0]
  have g1 : jGet L0 0 = some (rv (me)) := eL0 ▸ (rfl : jGet [(0, rv (me))] 0 = some (rv (me)))
  clear eL0
  refine jx_ld (pc' := 1) (l' := L0) (st' := [rv (me)]) rfl (jl_rvn g1) ?_
  refine cx_vi (c := 0) (a := me) (st := []) (as := []) rfl rfl rfl o_me t_me (by decide) rfl ⟨rfl, rfl, (Nat.le_of_ble_eq_true rfl)⟩ rfl (k_L_loaded (dd := d) (R := R) (m := m) (tg := tg) (ln := ln) (F := F) (me := me) (hd := by omega) (hC := hC) (o_me := o_me) (t_me := t_me)) (fun o V' hq => ?_)
  obtain ⟨m2, tg2, ln2, F3, r4, rfl, rfl, hx5, hC6, hM7, b8, p9, -⟩ | ⟨m10, tg10, ln10, F10, x10, rfl, rfl, hx10, hC10, hM10, ho10, ht10, p11, -⟩ := hq
  rotate_left
  ·
    refine Or.inr (Or.inr (Or.inr ⟨_, _, rfl, cx_exc (c := 15) ho10 ht10 (by decide), rfl, ?_⟩))
    exact Or.inr ⟨m10, tg10, ln10, F10, x10, rfl, rfl, Ex_t hX0 hx10, hC10, Fq_t (ln := ln) (ln1 := ln) hM0 hX0 hM10 (by decide) (Or.inl rfl), (And.intro ho10 ht10).1, (And.intro ho10 ht10).2, by omega, trivial⟩
  have hM12 : Fq 0 [] m tg F F3 := Fq_t (ln := ln) (ln1 := ln) hM0 hX0 hM7 (by decide) (Or.inl rfl)
  have ho13 : own m2 (me) ∧ tg2 (me) = 1 := Ex_o hx5 ⟨o_me, t_me⟩
  have hX14 := Ex_t hX0 hx5
  refine Or.inr (Or.inl ⟨_, rfl, ?_⟩)
  refine cx_vi (c := 5) (a := r4) (st := []) (as := []) rfl rfl rfl b8.1 b8.2 (by decide) rfl ⟨rfl, rfl, (Nat.le_of_ble_eq_true rfl)⟩ rfl (k_LMachine_result (dd := d) (R := R) (m := m2) (tg := tg2) (ln := ln2) (F := F3) (me := r4) (hd := by omega) (hC := hC6) (o_me := b8.1) (t_me := b8.2)) (fun o V' hq => ?_)
  obtain ⟨r15, rfl, rfl, b16, -⟩ := hq
  refine Or.inr (Or.inl ⟨_, rfl, ?_⟩)
  refine jx_rt (v := some (.int (i32 (r15)))) rfl rfl rfl rfl rfl rfl ?_
  exact Or.inl ⟨m2, tg2, ln2, F3, (r15), rfl, rfl, hX14, hC6, hM12, by omega, by omega, trivial⟩
set_option maxRecDepth 20000 in
set_option maxHeartbeats 4000000 in
theorem k_L_core {X : jX} {dd : Nat} {R : Nat → jC} {m : Nat} {tg ln : Int → Int} {F : Int → Int → Int} {me p wh : Int} (hd : 3 ≤ dd) (hC : HC 0 m tg ln F) (o_me : own m me) (t_me : tg me = 1) (h_p : (-2147483648 : Int) ≤ p ∧ p ≤ 2147483647) (h_wh : (-2147483648 : Int) ≤ wh ∧ wh ≤ 2147483647) : wk X dd 34 [rv me, .int (i32 p), .int (i32 wh)] (cV R m tg ln F) (fun o V' => (∃ (m' : Nat) (tg' ln' : Int → Int) (F' : Int → Int → Int) (r : Int), V' = cV R m' tg' ln' F' ∧ o = .inl (some (.int (i32 r))) ∧ Ex m tg ln m' tg' ln' ∧ HC 0 m' tg' ln' F' ∧ Fq 0 [] m tg F F' ∧ (-2147483648 ≤ r ∧ r ≤ 2147483647) ∧ (szD m' tg' ln' = szD m tg ln) ∧ True) ∨ (∃ (m' : Nat) (tg' ln' : Int → Int) (F' : Int → Int → Int) (x : Nat), V' = cV R m' tg' ln' F' ∧ o = .inr x ∧ Ex m tg ln m' tg' ln' ∧ HC 0 m' tg' ln' F' ∧ Fq 0 [] m tg F F' ∧ (own m' (x : Int)) ∧ (tg' (x : Int) = 16 ∨ tg' (x : Int) = 17 ∨ tg' (x : Int) = 14) ∧ (szD m' tg' ln' = szD m tg ln + 25) ∧ True)) := by
  obtain ⟨d, rfl⟩ : ∃ d, dd = d + 1 := ⟨dd - 1, by omega⟩
  refine wk_of (e := jm34) rfl (by rw [jS_r, jS_i, jS_i, jS_0]; exact Nat.le_of_ble_eq_true rfl) ?_
  rw [la_r, la_i, la_i, la_0]
  show wj X d jm34 (0, [(0, rv (me)), (1, .int (i32 (p))), (2, .int (i32 (wh)))], [], cV R m tg ln F) _
  have hM0 : Fq 0 [] m tg F F := Fq_r
  have hX0 : Ex m tg ln m tg ln := Ex_r
  obtain ⟨L0, eL0⟩ : ∃ q : jL, q = [(0, rv (me)), (1, .int (i32 (p))), (2, .int (i32 (wh)))] := ⟨_, rfl⟩
  rw [← eL0]
  have g1 : jGet L0 0 = some (rv (me)) := eL0 ▸ (rfl : jGet [(0, rv (me)), (1, .int (i32 (p))), (2, .int (i32 (wh)))] 0 = some (rv (me)))
  have g2 : jGet L0 1 = some (.int (i32 (p))) := eL0 ▸ (rfl : jGet [(0, rv (me)), (1, .int (i32 (p))), (2, .int (i32 (wh)))] 1 = some (.int (i32 (p))))
  have g3 : jGet L0 2 = some (.int (i32 (wh))) := eL0 ▸ (rfl : jGet [(0, rv (me)), (1, .int (i32 (p))), (2, .int (i32 (wh)))] 2 = some (.int (i32 (wh))))
  clear eL0
  refine jx_ld (pc' := 1) (l' := L0) (st' := [rv (me)]) rfl (jl_rvn g1) ?_
  refine jx_ld (pc' := 2) (l' := L0) (st' := [.int (i32 (p)), rv (me)]) rfl (jl_iloadn g2) ?_
  refine cx_vi (c := 0) (a := me) (st := []) (as := [.int (i32 (p))]) rfl rfl rfl o_me t_me (by decide) rfl ⟨rfl, rfl, (Nat.le_of_ble_eq_true rfl)⟩ rfl (k_L_coreOf (dd := d) (R := R) (m := m) (tg := tg) (ln := ln) (F := F) (me := me) (p := p) (hd := by omega) (hC := hC) (o_me := o_me) (t_me := t_me) (h_p := by omega)) (fun o V' hq => ?_)
  obtain ⟨m4, tg4, ln4, F5, r6, rfl, rfl, hx7, hC8, hM9, b10, p11, -⟩ | ⟨m12, tg12, ln12, F12, x12, rfl, rfl, hx12, hC12, hM12, ho12, ht12, p13, -⟩ := hq
  rotate_left
  · rcases ht12 with ht12 | ht12
    ·
      refine Or.inr (Or.inr (Or.inr ⟨_, _, rfl, cx_exc (c := 15) ho12 ht12 (by decide), rfl, ?_⟩))
      exact Or.inr ⟨m12, tg12, ln12, F12, x12, rfl, rfl, Ex_t hX0 hx12, hC12, Fq_t (ln := ln) (ln1 := ln) hM0 hX0 hM12 (by decide) (Or.inl rfl), (And.intro ho12 ht12).1, Or.inl ((And.intro ho12 ht12).2), by omega, trivial⟩
    ·
      refine Or.inr (Or.inr (Or.inr ⟨_, _, rfl, cx_exc (c := 16) ho12 ht12 (by decide), rfl, ?_⟩))
      exact Or.inr ⟨m12, tg12, ln12, F12, x12, rfl, rfl, Ex_t hX0 hx12, hC12, Fq_t (ln := ln) (ln1 := ln) hM0 hX0 hM12 (by decide) (Or.inl rfl), (And.intro ho12 ht12).1, Or.inr (Or.inl ((And.intro ho12 ht12).2)), by omega, trivial⟩
  have hM14 : Fq 0 [] m tg F F5 := Fq_t (ln := ln) (ln1 := ln) hM0 hX0 hM9 (by decide) (Or.inl rfl)
  have ho15 : own m4 (me) ∧ tg4 (me) = 1 := Ex_o hx7 ⟨o_me, t_me⟩
  have hX16 := Ex_t hX0 hx7
  refine Or.inr (Or.inl ⟨_, rfl, ?_⟩)
  refine jx_ld (pc' := 6) (l' := jSto1 L0 3 (rv (r6))) (st' := []) rfl (js_rvn (by decide)) ?_
  obtain ⟨L17, eL17⟩ : ∃ q : jL, q = jSto1 L0 3 (rv (r6)) := ⟨_, rfl⟩
  rw [← eL17]
  have g18 : jGet L17 0 = some (rv (me)) := eL17 ▸ jg_nr (by decide) g1
  have g19 : jGet L17 1 = some (.int (i32 (p))) := eL17 ▸ jg_ne (by decide) g2 rfl
  have g20 : jGet L17 2 = some (.int (i32 (wh))) := eL17 ▸ jg_ne (by decide) g3 rfl
  have g21 : jGet L17 3 = some (rv (r6)) := eL17 ▸ jg_eq
  clear eL17
  refine jx_ld (pc' := 7) (l' := L17) (st' := [.int (i32 (wh))]) rfl (jl_iloadn g20) ?_
  refine jx_if_lt (pc' := 10) (tg := 16) rfl rfl rfl (by omega) (by omega) (fun h22 => ?_) (fun h22 => ?_)
  · have _q := h22
    refine cx_thr2 (c := 13) rfl rfl rfl rfl ⟨by decide, by decide, (Nat.le_of_ble_eq_true rfl), rfl, rfl, rfl⟩ rfl rfl hC8 (fun x23 m23 tg23 ln23 F23 en23 em23 ho23 hx23 hC23 hf23 hs23 => ?_)
    have ex23 : 64 + (m : Int) ≤ (x23 : Int) := by have := hX16.1; omega
    have lm24 := hx23.1
    exact Or.inr ⟨m23, tg23, ln23, F23, x23, rfl, rfl, Ex_t hX16 hx23, hC23, Fq_n hM14 hf23 ex23, ho23.1, Or.inr (Or.inr (ho23.2)), by omega, trivial⟩
  · have _q := h22
    refine jx_ld (pc' := 11) (l' := L17) (st' := [.int (i32 (wh))]) rfl (jl_iloadn g20) ?_
    refine jx_ar (pc' := 13) (st' := [.int (i32 (12)), .int (i32 (wh))]) rfl rfl rfl rfl ?_
    refine jx_icmp_le (pc' := 16) (tg := 26) rfl rfl rfl (by omega) (by omega) (by decide) (by decide) (fun h25 => ?_) (fun h25 => ?_)
    · have _q := h25
      refine jx_ld (pc' := 27) (l' := L17) (st' := [.int (i32 (wh))]) rfl (jl_iloadn g20) ?_
      refine jx_ar (pc' := 28) (st' := [.int (i32 (5)), .int (i32 (wh))]) rfl rfl rfl rfl ?_
      refine jx_icmp_le (pc' := 31) (tg := 37) rfl rfl rfl (by omega) (by omega) (by decide) (by decide) (fun h26 => ?_) (fun h26 => ?_)
      · have _q := h26
        refine jx_ld (pc' := 38) (l' := L17) (st' := [rv (r6)]) rfl (jl_rvn g21) ?_
        refine jx_ld (pc' := 39) (l' := L17) (st' := [.int (i32 (wh)), rv (r6)]) rfl (jl_iloadn g20) ?_
        refine cx_vi (c := 2) (a := r6) (st := []) (as := [.int (i32 (wh))]) rfl rfl rfl b10.1 b10.2 (by decide) rfl ⟨rfl, rfl, (Nat.le_of_ble_eq_true rfl)⟩ rfl (k_LCore_register (dd := d) (R := R) (m := m4) (tg := tg4) (ln := ln4) (F := F5) (me := r6) (a0 := wh) (hd := by omega) (hC := hC8) (o_me := b10.1) (t_me := b10.2) (h_a0 := by omega)) (fun o V' hq => ?_)
        obtain ⟨r27, rfl, rfl, b28, -⟩ := hq
        refine Or.inr (Or.inl ⟨_, rfl, ?_⟩)
        refine jx_go (tg := 50) rfl rfl ?_
        refine jx_rt (v := some (.int (i32 (r27)))) rfl rfl rfl rfl rfl rfl ?_
        exact Or.inl ⟨m4, tg4, ln4, F5, (r27), rfl, rfl, hX16, hC8, hM14, by omega, by omega, trivial⟩
      · have _q := h26
        refine jx_ld (pc' := 32) (l' := L17) (st' := [.int (i32 (wh))]) rfl (jl_iloadn g20) ?_
        refine jx_ar (pc' := 34) (st' := [.int (i32 (12)), .int (i32 (wh))]) rfl rfl rfl rfl ?_
        refine jx_icmp_ne (pc' := 37) (tg := 45) rfl rfl rfl (by omega) (by omega) (by decide) (by decide) (fun h29 => ?_) (fun h29 => ?_)
        · have _q := h29
          refine jx_ld (pc' := 46) (l' := L17) (st' := [rv (r6)]) rfl (jl_rvn g21) ?_
          refine jx_ld (pc' := 47) (l' := L17) (st' := [.int (i32 (wh)), rv (r6)]) rfl (jl_iloadn g20) ?_
          refine cx_vi (c := 2) (a := r6) (st := []) (as := [.int (i32 (wh))]) rfl rfl rfl b10.1 b10.2 (by decide) rfl ⟨rfl, rfl, (Nat.le_of_ble_eq_true rfl)⟩ rfl (k_LCore_state (dd := d) (R := R) (m := m4) (tg := tg4) (ln := ln4) (F := F5) (me := r6) (a0 := wh) (hd := by omega) (hC := hC8) (o_me := b10.1) (t_me := b10.2) (h_a0 := by omega)) (fun o V' hq => ?_)
          obtain ⟨r30, rfl, rfl, b31, -⟩ := hq
          refine Or.inr (Or.inl ⟨_, rfl, ?_⟩)
          refine jx_rt (v := some (.int (i32 (r30)))) rfl rfl rfl rfl rfl rfl ?_
          exact Or.inl ⟨m4, tg4, ln4, F5, (r30), rfl, rfl, hX16, hC8, hM14, by omega, by omega, trivial⟩
        · have _q := h29
          refine jx_ld (pc' := 38) (l' := L17) (st' := [rv (r6)]) rfl (jl_rvn g21) ?_
          refine jx_ld (pc' := 39) (l' := L17) (st' := [.int (i32 (wh)), rv (r6)]) rfl (jl_iloadn g20) ?_
          refine cx_vi (c := 2) (a := r6) (st := []) (as := [.int (i32 (wh))]) rfl rfl rfl b10.1 b10.2 (by decide) rfl ⟨rfl, rfl, (Nat.le_of_ble_eq_true rfl)⟩ rfl (k_LCore_register (dd := d) (R := R) (m := m4) (tg := tg4) (ln := ln4) (F := F5) (me := r6) (a0 := wh) (hd := by omega) (hC := hC8) (o_me := b10.1) (t_me := b10.2) (h_a0 := by omega)) (fun o V' hq => ?_)
          obtain ⟨r32, rfl, rfl, b33, -⟩ := hq
          refine Or.inr (Or.inl ⟨_, rfl, ?_⟩)
          refine jx_go (tg := 50) rfl rfl ?_
          refine jx_rt (v := some (.int (i32 (r32)))) rfl rfl rfl rfl rfl rfl ?_
          exact Or.inl ⟨m4, tg4, ln4, F5, (r32), rfl, rfl, hX16, hC8, hM14, by omega, by omega, trivial⟩
    · have _q := h25
      refine cx_thr2 (c := 13) rfl rfl rfl rfl ⟨by decide, by decide, (Nat.le_of_ble_eq_true rfl), rfl, rfl, rfl⟩ rfl rfl hC8 (fun x34 m34 tg34 ln34 F34 en34 em34 ho34 hx34 hC34 hf34 hs34 => ?_)
      have ex34 : 64 + (m : Int) ≤ (x34 : Int) := by have := hX16.1; omega
      have lm35 := hx34.1
      exact Or.inr ⟨m34, tg34, ln34, F34, x34, rfl, rfl, Ex_t hX16 hx34, hC34, Fq_n hM14 hf34 ex34, ho34.1, Or.inr (Or.inr (ho34.2)), by omega, trivial⟩
set_option maxRecDepth 20000 in
set_option maxHeartbeats 4000000 in
theorem k_L_ready {X : jX} {dd : Nat} {R : Nat → jC} {m : Nat} {tg ln : Int → Int} {F : Int → Int → Int} {me p i : Int} (hd : 3 ≤ dd) (hC : HC 0 m tg ln F) (o_me : own m me) (t_me : tg me = 1) (h_p : (-2147483648 : Int) ≤ p ∧ p ≤ 2147483647) (h_i : (-2147483648 : Int) ≤ i ∧ i ≤ 2147483647) : wk X dd 35 [rv me, .int (i32 p), .int (i32 i)] (cV R m tg ln F) (fun o V' => (∃ (m' : Nat) (tg' ln' : Int → Int) (F' : Int → Int → Int) (r : Int), V' = cV R m' tg' ln' F' ∧ o = .inl (some (.int (i32 r))) ∧ Ex m tg ln m' tg' ln' ∧ HC 0 m' tg' ln' F' ∧ Fq 0 [] m tg F F' ∧ (-2147483648 ≤ r ∧ r ≤ 2147483647) ∧ (szD m' tg' ln' = szD m tg ln) ∧ True) ∨ (∃ (m' : Nat) (tg' ln' : Int → Int) (F' : Int → Int → Int) (x : Nat), V' = cV R m' tg' ln' F' ∧ o = .inr x ∧ Ex m tg ln m' tg' ln' ∧ HC 0 m' tg' ln' F' ∧ Fq 0 [] m tg F F' ∧ (own m' (x : Int)) ∧ (tg' (x : Int) = 16 ∨ tg' (x : Int) = 17 ∨ tg' (x : Int) = 18) ∧ (szD m' tg' ln' = szD m tg ln + 25) ∧ True)) := by
  obtain ⟨d, rfl⟩ : ∃ d, dd = d + 1 := ⟨dd - 1, by omega⟩
  refine wk_of (e := jm35) rfl (by rw [jS_r, jS_i, jS_i, jS_0]; exact Nat.le_of_ble_eq_true rfl) ?_
  rw [la_r, la_i, la_i, la_0]
  show wj X d jm35 (0, [(0, rv (me)), (1, .int (i32 (p))), (2, .int (i32 (i)))], [], cV R m tg ln F) _
  have hM0 : Fq 0 [] m tg F F := Fq_r
  have hX0 : Ex m tg ln m tg ln := Ex_r
  obtain ⟨L0, eL0⟩ : ∃ q : jL, q = [(0, rv (me)), (1, .int (i32 (p))), (2, .int (i32 (i)))] := ⟨_, rfl⟩
  rw [← eL0]
  have g1 : jGet L0 0 = some (rv (me)) := eL0 ▸ (rfl : jGet [(0, rv (me)), (1, .int (i32 (p))), (2, .int (i32 (i)))] 0 = some (rv (me)))
  have g2 : jGet L0 1 = some (.int (i32 (p))) := eL0 ▸ (rfl : jGet [(0, rv (me)), (1, .int (i32 (p))), (2, .int (i32 (i)))] 1 = some (.int (i32 (p))))
  have g3 : jGet L0 2 = some (.int (i32 (i))) := eL0 ▸ (rfl : jGet [(0, rv (me)), (1, .int (i32 (p))), (2, .int (i32 (i)))] 2 = some (.int (i32 (i))))
  clear eL0
  refine jx_ld (pc' := 1) (l' := L0) (st' := [rv (me)]) rfl (jl_rvn g1) ?_
  refine jx_ld (pc' := 2) (l' := L0) (st' := [.int (i32 (p)), rv (me)]) rfl (jl_iloadn g2) ?_
  refine cx_vi (c := 0) (a := me) (st := []) (as := [.int (i32 (p))]) rfl rfl rfl o_me t_me (by decide) rfl ⟨rfl, rfl, (Nat.le_of_ble_eq_true rfl)⟩ rfl (k_L_coreOf (dd := d) (R := R) (m := m) (tg := tg) (ln := ln) (F := F) (me := me) (p := p) (hd := by omega) (hC := hC) (o_me := o_me) (t_me := t_me) (h_p := by omega)) (fun o V' hq => ?_)
  obtain ⟨m4, tg4, ln4, F5, r6, rfl, rfl, hx7, hC8, hM9, b10, p11, -⟩ | ⟨m12, tg12, ln12, F12, x12, rfl, rfl, hx12, hC12, hM12, ho12, ht12, p13, -⟩ := hq
  rotate_left
  · rcases ht12 with ht12 | ht12
    ·
      refine Or.inr (Or.inr (Or.inr ⟨_, _, rfl, cx_exc (c := 15) ho12 ht12 (by decide), rfl, ?_⟩))
      exact Or.inr ⟨m12, tg12, ln12, F12, x12, rfl, rfl, Ex_t hX0 hx12, hC12, Fq_t (ln := ln) (ln1 := ln) hM0 hX0 hM12 (by decide) (Or.inl rfl), (And.intro ho12 ht12).1, Or.inl ((And.intro ho12 ht12).2), by omega, trivial⟩
    ·
      refine Or.inr (Or.inr (Or.inr ⟨_, _, rfl, cx_exc (c := 16) ho12 ht12 (by decide), rfl, ?_⟩))
      exact Or.inr ⟨m12, tg12, ln12, F12, x12, rfl, rfl, Ex_t hX0 hx12, hC12, Fq_t (ln := ln) (ln1 := ln) hM0 hX0 hM12 (by decide) (Or.inl rfl), (And.intro ho12 ht12).1, Or.inr (Or.inl ((And.intro ho12 ht12).2)), by omega, trivial⟩
  have hM14 : Fq 0 [] m tg F F5 := Fq_t (ln := ln) (ln1 := ln) hM0 hX0 hM9 (by decide) (Or.inl rfl)
  have ho15 : own m4 (me) ∧ tg4 (me) = 1 := Ex_o hx7 ⟨o_me, t_me⟩
  have hX16 := Ex_t hX0 hx7
  refine Or.inr (Or.inl ⟨_, rfl, ?_⟩)
  refine jx_ld (pc' := 6) (l' := jSto1 L0 3 (rv (r6))) (st' := []) rfl (js_rvn (by decide)) ?_
  obtain ⟨L17, eL17⟩ : ∃ q : jL, q = jSto1 L0 3 (rv (r6)) := ⟨_, rfl⟩
  rw [← eL17]
  have g18 : jGet L17 0 = some (rv (me)) := eL17 ▸ jg_nr (by decide) g1
  have g19 : jGet L17 1 = some (.int (i32 (p))) := eL17 ▸ jg_ne (by decide) g2 rfl
  have g20 : jGet L17 2 = some (.int (i32 (i))) := eL17 ▸ jg_ne (by decide) g3 rfl
  have g21 : jGet L17 3 = some (rv (r6)) := eL17 ▸ jg_eq
  clear eL17
  refine jx_ld (pc' := 7) (l' := L17) (st' := [.int (i32 (i))]) rfl (jl_iloadn g20) ?_
  refine jx_if_lt (pc' := 10) (tg := 27) rfl rfl rfl (by omega) (by omega) (fun h22 => ?_) (fun h22 => ?_)
  · have _q := h22
    refine cx_thr2 (c := 17) rfl rfl rfl rfl ⟨by decide, by decide, (Nat.le_of_ble_eq_true rfl), rfl, rfl, rfl⟩ rfl rfl hC8 (fun x23 m23 tg23 ln23 F23 en23 em23 ho23 hx23 hC23 hf23 hs23 => ?_)
    have ex23 : 64 + (m : Int) ≤ (x23 : Int) := by have := hX16.1; omega
    have lm24 := hx23.1
    exact Or.inr ⟨m23, tg23, ln23, F23, x23, rfl, rfl, Ex_t hX16 hx23, hC23, Fq_n hM14 hf23 ex23, ho23.1, Or.inr (Or.inr (ho23.2)), by omega, trivial⟩
  · have _q := h22
    refine jx_ld (pc' := 11) (l' := L17) (st' := [.int (i32 (i))]) rfl (jl_iloadn g20) ?_
    refine jx_ld (pc' := 12) (l' := L17) (st' := [rv (r6), .int (i32 (i))]) rfl (jl_rvn g21) ?_
    refine cx_gi (pc' := 15) (c := 2) (q := 16) (v := F5 (r6) (16 : Int)) rfl rfl (by decide) (by decide) (Or.inl rfl) rfl b10.1 b10.2 rfl ?_
    have b25 : (-2147483648 : Int) ≤ F5 (r6) (16 : Int) ∧ F5 (r6) (16 : Int) ≤ 2147483647 := by have z := HC_i (c := 2) (q := 16) hC8 b10.1 b10.2 (by decide) rfl; rw [show F5 (r6) ((16 : Nat) : Int) = F5 (r6) (16 : Int) from rfl] at z; exact z
    have x26 := (hC8.2.2.2.2.2 (r6) b10.1 (own_z b10.1)).2 b10.2
    refine jx_icmp_ge (pc' := 18) (tg := 27) rfl rfl rfl (by omega) (by omega) (by omega) (by omega) (fun h27 => ?_) (fun h27 => ?_)
    · have _q := h27
      refine cx_thr2 (c := 17) rfl rfl rfl rfl ⟨by decide, by decide, (Nat.le_of_ble_eq_true rfl), rfl, rfl, rfl⟩ rfl rfl hC8 (fun x28 m28 tg28 ln28 F28 en28 em28 ho28 hx28 hC28 hf28 hs28 => ?_)
      have ex28 : 64 + (m : Int) ≤ (x28 : Int) := by have := hX16.1; omega
      have lm29 := hx28.1
      exact Or.inr ⟨m28, tg28, ln28, F28, x28, rfl, rfl, Ex_t hX16 hx28, hC28, Fq_n hM14 hf28 ex28, ho28.1, Or.inr (Or.inr (ho28.2)), by omega, trivial⟩
    · have _q := h27
      refine jx_ld (pc' := 19) (l' := L17) (st' := [.int (i32 (i))]) rfl (jl_iloadn g20) ?_
      refine jx_ld (pc' := 20) (l' := L17) (st' := [rv (r6), .int (i32 (i))]) rfl (jl_rvn g21) ?_
      refine cx_gr (pc' := 23) (c := 2) (q := 15) (v := F5 (r6) (15 : Int)) rfl rfl (by decide) (by decide) rfl rfl b10.1 b10.2 rfl ?_
      have y30 : own m4 (F5 (r6) (15 : Int)) ∧ tg4 (F5 (r6) (15 : Int)) = 21 ∧ ((0 : Int) ≠ 0 → ln4 (F5 (r6) (15 : Int)) = 0) := by have z := HC_n (c := 2) (q := 15) hC8 b10.1 b10.2 (own_z b10.1) (by decide) rfl; rw [show F5 (r6) ((15 : Nat) : Int) = F5 (r6) (15 : Int) from rfl] at z; exact ⟨z.1, z.2.1, z.2.2.1⟩
      have b31 := HC_l hC8 y30.1 y30.2.1 (by decide)
      refine cx_len (pc' := 24) rfl rfl y30.1 (by rw [y30.2.1]; decide) (by omega) ?_
      refine jx_icmp_lt (pc' := 27) (tg := 37) rfl rfl rfl (by omega) (by omega) (by omega) (by omega) (fun h32 => ?_) (fun h32 => ?_)
      · have _q := h32
        refine jx_ld (pc' := 38) (l' := L17) (st' := [rv (r6)]) rfl (jl_rvn g21) ?_
        refine cx_gr (pc' := 41) (c := 2) (q := 15) (v := F5 (r6) (15 : Int)) rfl rfl (by decide) (by decide) rfl rfl b10.1 b10.2 rfl ?_
        refine jx_ld (pc' := 42) (l' := L17) (st' := [.int (i32 (i)), rv (F5 (r6) (15 : Int))]) rfl (jl_iloadn g20) ?_
        refine cx_ial (pc' := 43) (z := i) rfl rfl y30.1 y30.2.1 (by omega) (by omega) (by omega) ?_
        have b33 : (-2147483648 : Int) ≤ F5 (F5 (r6) (15 : Int)) (i) ∧ F5 (F5 (r6) (15 : Int)) (i) ≤ 2147483647 := by have z := HC_ei (j := i) hC8 y30.1 (by rw [y30.2.1]; decide) (by omega); exact z
        refine jx_rt (v := some (.int (i32 (F5 (F5 (r6) (15 : Int)) (i))))) rfl rfl rfl rfl rfl rfl ?_
        exact Or.inl ⟨m4, tg4, ln4, F5, (F5 (F5 (r6) (15 : Int)) (i)), rfl, rfl, hX16, hC8, hM14, by omega, by omega, trivial⟩
      · have _q := h32
        refine cx_thr2 (c := 17) rfl rfl rfl rfl ⟨by decide, by decide, (Nat.le_of_ble_eq_true rfl), rfl, rfl, rfl⟩ rfl rfl hC8 (fun x34 m34 tg34 ln34 F34 en34 em34 ho34 hx34 hC34 hf34 hs34 => ?_)
        have ex34 : 64 + (m : Int) ≤ (x34 : Int) := by have := hX16.1; omega
        have lm35 := hx34.1
        exact Or.inr ⟨m34, tg34, ln34, F34, x34, rfl, rfl, Ex_t hX16 hx34, hC34, Fq_n hM14 hf34 ex34, ho34.1, Or.inr (Or.inr (ho34.2)), by omega, trivial⟩
set_option maxRecDepth 20000 in
set_option maxHeartbeats 4000000 in
theorem k_L_word {X : jX} {dd : Nat} {R : Nat → jC} {m : Nat} {tg ln : Int → Int} {F : Int → Int → Int} {me p ad : Int} (hd : 3 ≤ dd) (hC : HC 0 m tg ln F) (o_me : own m me) (t_me : tg me = 1) (h_p : (-2147483648 : Int) ≤ p ∧ p ≤ 2147483647) (h_ad : (-2147483648 : Int) ≤ ad ∧ ad ≤ 2147483647) : wk X dd 36 [rv me, .int (i32 p), .int (i32 ad)] (cV R m tg ln F) (fun o V' => (∃ (m' : Nat) (tg' ln' : Int → Int) (F' : Int → Int → Int) (r : Int), V' = cV R m' tg' ln' F' ∧ o = .inl (some (.int (i32 r))) ∧ Ex m tg ln m' tg' ln' ∧ HC 0 m' tg' ln' F' ∧ Fq 0 [] m tg F F' ∧ (-2147483648 ≤ r ∧ r ≤ 2147483647) ∧ (szD m' tg' ln' = szD m tg ln) ∧ True) ∨ (∃ (m' : Nat) (tg' ln' : Int → Int) (F' : Int → Int → Int) (x : Nat), V' = cV R m' tg' ln' F' ∧ o = .inr x ∧ Ex m tg ln m' tg' ln' ∧ HC 0 m' tg' ln' F' ∧ Fq 0 [] m tg F F' ∧ (own m' (x : Int)) ∧ (tg' (x : Int) = 16 ∨ tg' (x : Int) = 17 ∨ tg' (x : Int) = 18) ∧ (szD m' tg' ln' = szD m tg ln + 25) ∧ True)) := by
  obtain ⟨d, rfl⟩ : ∃ d, dd = d + 1 := ⟨dd - 1, by omega⟩
  refine wk_of (e := jm36) rfl (by rw [jS_r, jS_i, jS_i, jS_0]; exact Nat.le_of_ble_eq_true rfl) ?_
  rw [la_r, la_i, la_i, la_0]
  show wj X d jm36 (0, [(0, rv (me)), (1, .int (i32 (p))), (2, .int (i32 (ad)))], [], cV R m tg ln F) _
  have hM0 : Fq 0 [] m tg F F := Fq_r
  have hX0 : Ex m tg ln m tg ln := Ex_r
  obtain ⟨L0, eL0⟩ : ∃ q : jL, q = [(0, rv (me)), (1, .int (i32 (p))), (2, .int (i32 (ad)))] := ⟨_, rfl⟩
  rw [← eL0]
  have g1 : jGet L0 0 = some (rv (me)) := eL0 ▸ (rfl : jGet [(0, rv (me)), (1, .int (i32 (p))), (2, .int (i32 (ad)))] 0 = some (rv (me)))
  have g2 : jGet L0 1 = some (.int (i32 (p))) := eL0 ▸ (rfl : jGet [(0, rv (me)), (1, .int (i32 (p))), (2, .int (i32 (ad)))] 1 = some (.int (i32 (p))))
  have g3 : jGet L0 2 = some (.int (i32 (ad))) := eL0 ▸ (rfl : jGet [(0, rv (me)), (1, .int (i32 (p))), (2, .int (i32 (ad)))] 2 = some (.int (i32 (ad))))
  clear eL0
  refine jx_ld (pc' := 1) (l' := L0) (st' := [rv (me)]) rfl (jl_rvn g1) ?_
  refine jx_ld (pc' := 2) (l' := L0) (st' := [.int (i32 (p)), rv (me)]) rfl (jl_iloadn g2) ?_
  refine cx_vi (c := 0) (a := me) (st := []) (as := [.int (i32 (p))]) rfl rfl rfl o_me t_me (by decide) rfl ⟨rfl, rfl, (Nat.le_of_ble_eq_true rfl)⟩ rfl (k_L_coreOf (dd := d) (R := R) (m := m) (tg := tg) (ln := ln) (F := F) (me := me) (p := p) (hd := by omega) (hC := hC) (o_me := o_me) (t_me := t_me) (h_p := by omega)) (fun o V' hq => ?_)
  obtain ⟨m4, tg4, ln4, F5, r6, rfl, rfl, hx7, hC8, hM9, b10, p11, -⟩ | ⟨m12, tg12, ln12, F12, x12, rfl, rfl, hx12, hC12, hM12, ho12, ht12, p13, -⟩ := hq
  rotate_left
  · rcases ht12 with ht12 | ht12
    ·
      refine Or.inr (Or.inr (Or.inr ⟨_, _, rfl, cx_exc (c := 15) ho12 ht12 (by decide), rfl, ?_⟩))
      exact Or.inr ⟨m12, tg12, ln12, F12, x12, rfl, rfl, Ex_t hX0 hx12, hC12, Fq_t (ln := ln) (ln1 := ln) hM0 hX0 hM12 (by decide) (Or.inl rfl), (And.intro ho12 ht12).1, Or.inl ((And.intro ho12 ht12).2), by omega, trivial⟩
    ·
      refine Or.inr (Or.inr (Or.inr ⟨_, _, rfl, cx_exc (c := 16) ho12 ht12 (by decide), rfl, ?_⟩))
      exact Or.inr ⟨m12, tg12, ln12, F12, x12, rfl, rfl, Ex_t hX0 hx12, hC12, Fq_t (ln := ln) (ln1 := ln) hM0 hX0 hM12 (by decide) (Or.inl rfl), (And.intro ho12 ht12).1, Or.inr (Or.inl ((And.intro ho12 ht12).2)), by omega, trivial⟩
  have hM14 : Fq 0 [] m tg F F5 := Fq_t (ln := ln) (ln1 := ln) hM0 hX0 hM9 (by decide) (Or.inl rfl)
  have ho15 : own m4 (me) ∧ tg4 (me) = 1 := Ex_o hx7 ⟨o_me, t_me⟩
  have hX16 := Ex_t hX0 hx7
  refine Or.inr (Or.inl ⟨_, rfl, ?_⟩)
  refine jx_ld (pc' := 6) (l' := jSto1 L0 3 (rv (r6))) (st' := []) rfl (js_rvn (by decide)) ?_
  obtain ⟨L17, eL17⟩ : ∃ q : jL, q = jSto1 L0 3 (rv (r6)) := ⟨_, rfl⟩
  rw [← eL17]
  have g18 : jGet L17 0 = some (rv (me)) := eL17 ▸ jg_nr (by decide) g1
  have g19 : jGet L17 1 = some (.int (i32 (p))) := eL17 ▸ jg_ne (by decide) g2 rfl
  have g20 : jGet L17 2 = some (.int (i32 (ad))) := eL17 ▸ jg_ne (by decide) g3 rfl
  have g21 : jGet L17 3 = some (rv (r6)) := eL17 ▸ jg_eq
  clear eL17
  refine jx_ld (pc' := 7) (l' := L17) (st' := [.int (i32 (ad))]) rfl (jl_iloadn g20) ?_
  refine jx_if_lt (pc' := 10) (tg := 19) rfl rfl rfl (by omega) (by omega) (fun h22 => ?_) (fun h22 => ?_)
  · have _q := h22
    refine cx_thr2 (c := 17) rfl rfl rfl rfl ⟨by decide, by decide, (Nat.le_of_ble_eq_true rfl), rfl, rfl, rfl⟩ rfl rfl hC8 (fun x23 m23 tg23 ln23 F23 en23 em23 ho23 hx23 hC23 hf23 hs23 => ?_)
    have ex23 : 64 + (m : Int) ≤ (x23 : Int) := by have := hX16.1; omega
    have lm24 := hx23.1
    exact Or.inr ⟨m23, tg23, ln23, F23, x23, rfl, rfl, Ex_t hX16 hx23, hC23, Fq_n hM14 hf23 ex23, ho23.1, Or.inr (Or.inr (ho23.2)), by omega, trivial⟩
  · have _q := h22
    refine jx_ld (pc' := 11) (l' := L17) (st' := [.int (i32 (ad))]) rfl (jl_iloadn g20) ?_
    refine jx_ld (pc' := 12) (l' := L17) (st' := [rv (r6), .int (i32 (ad))]) rfl (jl_rvn g21) ?_
    refine cx_gr (pc' := 15) (c := 2) (q := 4) (v := F5 (r6) (4 : Int)) rfl rfl (by decide) (by decide) rfl rfl b10.1 b10.2 rfl ?_
    have y25 : own m4 (F5 (r6) (4 : Int)) ∧ tg4 (F5 (r6) (4 : Int)) = 21 ∧ ((0 : Int) ≠ 0 → ln4 (F5 (r6) (4 : Int)) = 0) := by have z := HC_n (c := 2) (q := 4) hC8 b10.1 b10.2 (own_z b10.1) (by decide) rfl; rw [show F5 (r6) ((4 : Nat) : Int) = F5 (r6) (4 : Int) from rfl] at z; exact ⟨z.1, z.2.1, z.2.2.1⟩
    have b26 := HC_l hC8 y25.1 y25.2.1 (by decide)
    refine cx_len (pc' := 16) rfl rfl y25.1 (by rw [y25.2.1]; decide) (by omega) ?_
    refine jx_icmp_lt (pc' := 19) (tg := 29) rfl rfl rfl (by omega) (by omega) (by omega) (by omega) (fun h27 => ?_) (fun h27 => ?_)
    · have _q := h27
      refine jx_ld (pc' := 30) (l' := L17) (st' := [rv (r6)]) rfl (jl_rvn g21) ?_
      refine cx_gr (pc' := 33) (c := 2) (q := 4) (v := F5 (r6) (4 : Int)) rfl rfl (by decide) (by decide) rfl rfl b10.1 b10.2 rfl ?_
      refine jx_ld (pc' := 34) (l' := L17) (st' := [.int (i32 (ad)), rv (F5 (r6) (4 : Int))]) rfl (jl_iloadn g20) ?_
      refine cx_ial (pc' := 35) (z := ad) rfl rfl y25.1 y25.2.1 (by omega) (by omega) (by omega) ?_
      have b28 : (-2147483648 : Int) ≤ F5 (F5 (r6) (4 : Int)) (ad) ∧ F5 (F5 (r6) (4 : Int)) (ad) ≤ 2147483647 := by have z := HC_ei (j := ad) hC8 y25.1 (by rw [y25.2.1]; decide) (by omega); exact z
      refine jx_rt (v := some (.int (i32 (F5 (F5 (r6) (4 : Int)) (ad))))) rfl rfl rfl rfl rfl rfl ?_
      exact Or.inl ⟨m4, tg4, ln4, F5, (F5 (F5 (r6) (4 : Int)) (ad)), rfl, rfl, hX16, hC8, hM14, by omega, by omega, trivial⟩
    · have _q := h27
      refine cx_thr2 (c := 17) rfl rfl rfl rfl ⟨by decide, by decide, (Nat.le_of_ble_eq_true rfl), rfl, rfl, rfl⟩ rfl rfl hC8 (fun x29 m29 tg29 ln29 F29 en29 em29 ho29 hx29 hC29 hf29 hs29 => ?_)
      have ex29 : 64 + (m : Int) ≤ (x29 : Int) := by have := hX16.1; omega
      have lm30 := hx29.1
      exact Or.inr ⟨m29, tg29, ln29, F29, x29, rfl, rfl, Ex_t hX16 hx29, hC29, Fq_n hM14 hf29 ex29, ho29.1, Or.inr (Or.inr (ho29.2)), by omega, trivial⟩
set_option maxRecDepth 20000 in
set_option maxHeartbeats 4000000 in
theorem k_L_output {X : jX} {dd : Nat} {R : Nat → jC} {m : Nat} {tg ln : Int → Int} {F : Int → Int → Int} {me i : Int} (hd : 2 ≤ dd) (hC : HC 0 m tg ln F) (o_me : own m me) (t_me : tg me = 1) (h_i : (-2147483648 : Int) ≤ i ∧ i ≤ 2147483647) : wk X dd 37 [rv me, .int (i32 i)] (cV R m tg ln F) (fun o V' => (∃ (m' : Nat) (tg' ln' : Int → Int) (F' : Int → Int → Int) (r : Int), V' = cV R m' tg' ln' F' ∧ o = .inl (some (.int (i32 r))) ∧ Ex m tg ln m' tg' ln' ∧ HC 0 m' tg' ln' F' ∧ Fq 0 [] m tg F F' ∧ (-2147483648 ≤ r ∧ r ≤ 2147483647) ∧ (szD m' tg' ln' = szD m tg ln) ∧ True) ∨ (∃ (m' : Nat) (tg' ln' : Int → Int) (F' : Int → Int → Int) (x : Nat), V' = cV R m' tg' ln' F' ∧ o = .inr x ∧ Ex m tg ln m' tg' ln' ∧ HC 0 m' tg' ln' F' ∧ Fq 0 [] m tg F F' ∧ (own m' (x : Int)) ∧ (tg' (x : Int) = 16 ∨ tg' (x : Int) = 18) ∧ (szD m' tg' ln' = szD m tg ln + 25) ∧ True)) := by
  obtain ⟨d, rfl⟩ : ∃ d, dd = d + 1 := ⟨dd - 1, by omega⟩
  refine wk_of (e := jm37) rfl (by rw [jS_r, jS_i, jS_0]; exact Nat.le_of_ble_eq_true rfl) ?_
  rw [la_r, la_i, la_0]
  show wj X d jm37 (0, [(0, rv (me)), (1, .int (i32 (i)))], [], cV R m tg ln F) _
  have hM0 : Fq 0 [] m tg F F := Fq_r
  have hX0 : Ex m tg ln m tg ln := Ex_r
  obtain ⟨L0, eL0⟩ : ∃ q : jL, q = [(0, rv (me)), (1, .int (i32 (i)))] := ⟨_, rfl⟩
  rw [← eL0]
  have g1 : jGet L0 0 = some (rv (me)) := eL0 ▸ (rfl : jGet [(0, rv (me)), (1, .int (i32 (i)))] 0 = some (rv (me)))
  have g2 : jGet L0 1 = some (.int (i32 (i))) := eL0 ▸ (rfl : jGet [(0, rv (me)), (1, .int (i32 (i)))] 1 = some (.int (i32 (i))))
  clear eL0
  refine jx_ld (pc' := 1) (l' := L0) (st' := [rv (me)]) rfl (jl_rvn g1) ?_
  refine cx_vi (c := 0) (a := me) (st := []) (as := []) rfl rfl rfl o_me t_me (by decide) rfl ⟨rfl, rfl, (Nat.le_of_ble_eq_true rfl)⟩ rfl (k_L_loaded (dd := d) (R := R) (m := m) (tg := tg) (ln := ln) (F := F) (me := me) (hd := by omega) (hC := hC) (o_me := o_me) (t_me := t_me)) (fun o V' hq => ?_)
  obtain ⟨m3, tg3, ln3, F4, r5, rfl, rfl, hx6, hC7, hM8, b9, p10, -⟩ | ⟨m11, tg11, ln11, F11, x11, rfl, rfl, hx11, hC11, hM11, ho11, ht11, p12, -⟩ := hq
  rotate_left
  ·
    refine Or.inr (Or.inr (Or.inr ⟨_, _, rfl, cx_exc (c := 15) ho11 ht11 (by decide), rfl, ?_⟩))
    exact Or.inr ⟨m11, tg11, ln11, F11, x11, rfl, rfl, Ex_t hX0 hx11, hC11, Fq_t (ln := ln) (ln1 := ln) hM0 hX0 hM11 (by decide) (Or.inl rfl), (And.intro ho11 ht11).1, Or.inl ((And.intro ho11 ht11).2), by omega, trivial⟩
  have hM13 : Fq 0 [] m tg F F4 := Fq_t (ln := ln) (ln1 := ln) hM0 hX0 hM8 (by decide) (Or.inl rfl)
  have ho14 : own m3 (me) ∧ tg3 (me) = 1 := Ex_o hx6 ⟨o_me, t_me⟩
  have hX15 := Ex_t hX0 hx6
  refine Or.inr (Or.inl ⟨_, rfl, ?_⟩)
  refine jx_ld (pc' := 5) (l' := jSto1 L0 2 (rv (r5))) (st' := []) rfl (js_rvn (by decide)) ?_
  obtain ⟨L16, eL16⟩ : ∃ q : jL, q = jSto1 L0 2 (rv (r5)) := ⟨_, rfl⟩
  rw [← eL16]
  have g17 : jGet L16 0 = some (rv (me)) := eL16 ▸ jg_nr (by decide) g1
  have g18 : jGet L16 1 = some (.int (i32 (i))) := eL16 ▸ jg_ne (by decide) g2 rfl
  have g19 : jGet L16 2 = some (rv (r5)) := eL16 ▸ jg_eq
  clear eL16
  refine jx_ld (pc' := 6) (l' := L16) (st' := [.int (i32 (i))]) rfl (jl_iloadn g18) ?_
  refine jx_if_lt (pc' := 9) (tg := 26) rfl rfl rfl (by omega) (by omega) (fun h20 => ?_) (fun h20 => ?_)
  · have _q := h20
    refine cx_thr2 (c := 17) rfl rfl rfl rfl ⟨by decide, by decide, (Nat.le_of_ble_eq_true rfl), rfl, rfl, rfl⟩ rfl rfl hC7 (fun x21 m21 tg21 ln21 F21 en21 em21 ho21 hx21 hC21 hf21 hs21 => ?_)
    have ex21 : 64 + (m : Int) ≤ (x21 : Int) := by have := hX15.1; omega
    have lm22 := hx21.1
    exact Or.inr ⟨m21, tg21, ln21, F21, x21, rfl, rfl, Ex_t hX15 hx21, hC21, Fq_n hM13 hf21 ex21, ho21.1, Or.inr (ho21.2), by omega, trivial⟩
  · have _q := h20
    refine jx_ld (pc' := 10) (l' := L16) (st' := [.int (i32 (i))]) rfl (jl_iloadn g18) ?_
    refine jx_ld (pc' := 11) (l' := L16) (st' := [rv (r5), .int (i32 (i))]) rfl (jl_rvn g19) ?_
    refine cx_gi (pc' := 14) (c := 5) (q := 6) (v := F4 (r5) (6 : Int)) rfl rfl (by decide) (by decide) (Or.inl rfl) rfl b9.1 b9.2 rfl ?_
    have b23 : (0 : Int) ≤ F4 (r5) (6 : Int) ∧ F4 (r5) (6 : Int) ≤ 2147483647 := by have z := HC_i (c := 5) (q := 6) hC7 b9.1 b9.2 (by decide) rfl; rw [show F4 (r5) ((6 : Nat) : Int) = F4 (r5) (6 : Int) from rfl] at z; exact z
    refine jx_icmp_ge (pc' := 17) (tg := 26) rfl rfl rfl (by omega) (by omega) (by omega) (by omega) (fun h24 => ?_) (fun h24 => ?_)
    · have _q := h24
      refine cx_thr2 (c := 17) rfl rfl rfl rfl ⟨by decide, by decide, (Nat.le_of_ble_eq_true rfl), rfl, rfl, rfl⟩ rfl rfl hC7 (fun x25 m25 tg25 ln25 F25 en25 em25 ho25 hx25 hC25 hf25 hs25 => ?_)
      have ex25 : 64 + (m : Int) ≤ (x25 : Int) := by have := hX15.1; omega
      have lm26 := hx25.1
      exact Or.inr ⟨m25, tg25, ln25, F25, x25, rfl, rfl, Ex_t hX15 hx25, hC25, Fq_n hM13 hf25 ex25, ho25.1, Or.inr (ho25.2), by omega, trivial⟩
    · have _q := h24
      refine jx_ld (pc' := 18) (l' := L16) (st' := [.int (i32 (i))]) rfl (jl_iloadn g18) ?_
      refine jx_ld (pc' := 19) (l' := L16) (st' := [rv (r5), .int (i32 (i))]) rfl (jl_rvn g19) ?_
      refine cx_gr (pc' := 22) (c := 5) (q := 5) (v := F4 (r5) (5 : Int)) rfl rfl (by decide) (by decide) rfl rfl b9.1 b9.2 rfl ?_
      have y27 : own m3 (F4 (r5) (5 : Int)) ∧ tg3 (F4 (r5) (5 : Int)) = 21 ∧ ((1000 : Int) ≠ 0 → ln3 (F4 (r5) (5 : Int)) = 1000) := by have z := HC_n (c := 5) (q := 5) hC7 b9.1 b9.2 (own_z b9.1) (by decide) rfl; rw [show F4 (r5) ((5 : Nat) : Int) = F4 (r5) (5 : Int) from rfl] at z; exact ⟨z.1, z.2.1, z.2.2.1⟩
      have ly27 : ln3 (F4 (r5) (5 : Int)) = 1000 := y27.2.2 (by decide)
      have b28 := HC_l hC7 y27.1 y27.2.1 (by decide)
      refine cx_len (pc' := 23) rfl rfl y27.1 (by rw [y27.2.1]; decide) (by omega) ?_
      refine jx_icmp_lt (pc' := 26) (tg := 36) rfl rfl rfl (by omega) (by omega) (by omega) (by omega) (fun h29 => ?_) (fun h29 => ?_)
      · have _q := h29
        refine jx_ld (pc' := 37) (l' := L16) (st' := [rv (r5)]) rfl (jl_rvn g19) ?_
        refine cx_gr (pc' := 40) (c := 5) (q := 5) (v := F4 (r5) (5 : Int)) rfl rfl (by decide) (by decide) rfl rfl b9.1 b9.2 rfl ?_
        refine jx_ld (pc' := 41) (l' := L16) (st' := [.int (i32 (i)), rv (F4 (r5) (5 : Int))]) rfl (jl_iloadn g18) ?_
        refine cx_ial (pc' := 42) (z := i) rfl rfl y27.1 y27.2.1 (by omega) (by omega) (by omega) ?_
        have b30 : (-2147483648 : Int) ≤ F4 (F4 (r5) (5 : Int)) (i) ∧ F4 (F4 (r5) (5 : Int)) (i) ≤ 2147483647 := by have z := HC_ei (j := i) hC7 y27.1 (by rw [y27.2.1]; decide) (by omega); exact z
        refine jx_rt (v := some (.int (i32 (F4 (F4 (r5) (5 : Int)) (i))))) rfl rfl rfl rfl rfl rfl ?_
        exact Or.inl ⟨m3, tg3, ln3, F4, (F4 (F4 (r5) (5 : Int)) (i)), rfl, rfl, hX15, hC7, hM13, by omega, by omega, trivial⟩
      · have _q := h29
        refine cx_thr2 (c := 17) rfl rfl rfl rfl ⟨by decide, by decide, (Nat.le_of_ble_eq_true rfl), rfl, rfl, rfl⟩ rfl rfl hC7 (fun x31 m31 tg31 ln31 F31 en31 em31 ho31 hx31 hC31 hf31 hs31 => ?_)
        have ex31 : 64 + (m : Int) ≤ (x31 : Int) := by have := hX15.1; omega
        have lm32 := hx31.1
        exact Or.inr ⟨m31, tg31, ln31, F31, x31, rfl, rfl, Ex_t hX15 hx31, hC31, Fq_n hM13 hf31 ex31, ho31.1, Or.inr (ho31.2), by omega, trivial⟩
set_option maxRecDepth 20000 in
set_option maxHeartbeats 4000000 in
theorem k_L_about {X : jX} {dd : Nat} {R : Nat → jC} {m : Nat} {tg ln : Int → Int} {F : Int → Int → Int} {me wh : Int} (hd : 2 ≤ dd) (hC : HC 0 m tg ln F) (o_me : own m me) (t_me : tg me = 1) (h_wh : (-2147483648 : Int) ≤ wh ∧ wh ≤ 2147483647) : wk X dd 38 [rv me, .int (i32 wh)] (cV R m tg ln F) (fun o V' => (∃ (m' : Nat) (tg' ln' : Int → Int) (F' : Int → Int → Int) (r : Int), V' = cV R m' tg' ln' F' ∧ o = .inl (some (.int (i32 r))) ∧ Ex m tg ln m' tg' ln' ∧ HC 0 m' tg' ln' F' ∧ Fq 0 [] m tg F F' ∧ (-2147483648 ≤ r ∧ r ≤ 2147483647) ∧ (szD m' tg' ln' = szD m tg ln) ∧ True) ∨ (∃ (m' : Nat) (tg' ln' : Int → Int) (F' : Int → Int → Int) (x : Nat), V' = cV R m' tg' ln' F' ∧ o = .inr x ∧ Ex m tg ln m' tg' ln' ∧ HC 0 m' tg' ln' F' ∧ Fq 0 [] m tg F F' ∧ (own m' (x : Int)) ∧ (tg' (x : Int) = 16 ∨ tg' (x : Int) = 14) ∧ (szD m' tg' ln' = szD m tg ln + 25) ∧ True)) := by
  obtain ⟨d, rfl⟩ : ∃ d, dd = d + 1 := ⟨dd - 1, by omega⟩
  refine wk_of (e := jm38) rfl (by rw [jS_r, jS_i, jS_0]; exact Nat.le_of_ble_eq_true rfl) ?_
  rw [la_r, la_i, la_0]
  show wj X d jm38 (0, [(0, rv (me)), (1, .int (i32 (wh)))], [], cV R m tg ln F) _
  have hM0 : Fq 0 [] m tg F F := Fq_r
  have hX0 : Ex m tg ln m tg ln := Ex_r
  obtain ⟨L0, eL0⟩ : ∃ q : jL, q = [(0, rv (me)), (1, .int (i32 (wh)))] := ⟨_, rfl⟩
  rw [← eL0]
  have g1 : jGet L0 0 = some (rv (me)) := eL0 ▸ (rfl : jGet [(0, rv (me)), (1, .int (i32 (wh)))] 0 = some (rv (me)))
  have g2 : jGet L0 1 = some (.int (i32 (wh))) := eL0 ▸ (rfl : jGet [(0, rv (me)), (1, .int (i32 (wh)))] 1 = some (.int (i32 (wh))))
  clear eL0
  refine jx_ld (pc' := 1) (l' := L0) (st' := [rv (me)]) rfl (jl_rvn g1) ?_
  refine cx_vi (c := 0) (a := me) (st := []) (as := []) rfl rfl rfl o_me t_me (by decide) rfl ⟨rfl, rfl, (Nat.le_of_ble_eq_true rfl)⟩ rfl (k_L_loaded (dd := d) (R := R) (m := m) (tg := tg) (ln := ln) (F := F) (me := me) (hd := by omega) (hC := hC) (o_me := o_me) (t_me := t_me)) (fun o V' hq => ?_)
  obtain ⟨m3, tg3, ln3, F4, r5, rfl, rfl, hx6, hC7, hM8, b9, p10, -⟩ | ⟨m11, tg11, ln11, F11, x11, rfl, rfl, hx11, hC11, hM11, ho11, ht11, p12, -⟩ := hq
  rotate_left
  ·
    refine Or.inr (Or.inr (Or.inr ⟨_, _, rfl, cx_exc (c := 15) ho11 ht11 (by decide), rfl, ?_⟩))
    exact Or.inr ⟨m11, tg11, ln11, F11, x11, rfl, rfl, Ex_t hX0 hx11, hC11, Fq_t (ln := ln) (ln1 := ln) hM0 hX0 hM11 (by decide) (Or.inl rfl), (And.intro ho11 ht11).1, Or.inl ((And.intro ho11 ht11).2), by omega, trivial⟩
  have hM13 : Fq 0 [] m tg F F4 := Fq_t (ln := ln) (ln1 := ln) hM0 hX0 hM8 (by decide) (Or.inl rfl)
  have ho14 : own m3 (me) ∧ tg3 (me) = 1 := Ex_o hx6 ⟨o_me, t_me⟩
  have hX15 := Ex_t hX0 hx6
  refine Or.inr (Or.inl ⟨_, rfl, ?_⟩)
  refine jx_ld (pc' := 5) (l' := jSto1 L0 2 (rv (r5))) (st' := []) rfl (js_rvn (by decide)) ?_
  obtain ⟨L16, eL16⟩ : ∃ q : jL, q = jSto1 L0 2 (rv (r5)) := ⟨_, rfl⟩
  rw [← eL16]
  have g17 : jGet L16 0 = some (rv (me)) := eL16 ▸ jg_nr (by decide) g1
  have g18 : jGet L16 1 = some (.int (i32 (wh))) := eL16 ▸ jg_ne (by decide) g2 rfl
  have g19 : jGet L16 2 = some (rv (r5)) := eL16 ▸ jg_eq
  clear eL16
  refine jx_ld (pc' := 6) (l' := L16) (st' := [.int (i32 (wh))]) rfl (jl_iloadn g18) ?_
  by_cases h20 : wh = 0
  · refine jx_swe (tg := 48) h20 rfl rfl rfl rfl ?_
    refine jx_ld (pc' := 49) (l' := L16) (st' := [rv (r5)]) rfl (jl_rvn g19) ?_
    refine cx_gr (pc' := 52) (c := 5) (q := 0) (v := F4 (r5) (0 : Int)) rfl rfl (by decide) (by decide) rfl rfl b9.1 b9.2 rfl ?_
    have y21 : own m3 (F4 (r5) (0 : Int)) ∧ tg3 (F4 (r5) (0 : Int)) = 10 ∧ ((0 : Int) ≠ 0 → ln3 (F4 (r5) (0 : Int)) = 0) := by have z := HC_n (c := 5) (q := 0) hC7 b9.1 b9.2 (own_z b9.1) (by decide) rfl; rw [show F4 (r5) ((0 : Nat) : Int) = F4 (r5) (0 : Int) from rfl] at z; exact ⟨z.1, z.2.1, z.2.2.1⟩
    refine cx_gi (pc' := 55) (c := 9) (q := 7) (v := F4 (F4 (r5) (0 : Int)) (7 : Int)) rfl rfl (by decide) (by decide) (Or.inl rfl) rfl y21.1 y21.2.1 rfl ?_
    have b22 : (0 : Int) ≤ F4 (F4 (r5) (0 : Int)) (7 : Int) ∧ F4 (F4 (r5) (0 : Int)) (7 : Int) ≤ 12 := by have z := HC_i (c := 9) (q := 7) hC7 y21.1 y21.2.1 (by decide) rfl; rw [show F4 (F4 (r5) (0 : Int)) ((7 : Nat) : Int) = F4 (F4 (r5) (0 : Int)) (7 : Int) from rfl] at z; exact z
    refine jx_rt (v := some (.int (i32 (F4 (F4 (r5) (0 : Int)) (7 : Int))))) rfl rfl rfl rfl rfl rfl ?_
    exact Or.inl ⟨m3, tg3, ln3, F4, (F4 (F4 (r5) (0 : Int)) (7 : Int)), rfl, rfl, hX15, hC7, hM13, by omega, by omega, trivial⟩
  by_cases h23 : wh = 1
  · refine jx_swe (tg := 56) h23 rfl rfl rfl rfl ?_
    refine jx_ld (pc' := 57) (l' := L16) (st' := [rv (r5)]) rfl (jl_rvn g19) ?_
    refine cx_gi (pc' := 60) (c := 5) (q := 4) (v := F4 (r5) (4 : Int)) rfl rfl (by decide) (by decide) (Or.inl rfl) rfl b9.1 b9.2 rfl ?_
    have b24 : (-2147483648 : Int) ≤ F4 (r5) (4 : Int) ∧ F4 (r5) (4 : Int) ≤ 2147483647 := by have z := HC_i (c := 5) (q := 4) hC7 b9.1 b9.2 (by decide) rfl; rw [show F4 (r5) ((4 : Nat) : Int) = F4 (r5) (4 : Int) from rfl] at z; exact z
    refine jx_rt (v := some (.int (i32 (F4 (r5) (4 : Int))))) rfl rfl rfl rfl rfl rfl ?_
    exact Or.inl ⟨m3, tg3, ln3, F4, (F4 (r5) (4 : Int)), rfl, rfl, hX15, hC7, hM13, by omega, by omega, trivial⟩
  by_cases h25 : wh = 2
  · refine jx_swe (tg := 61) h25 rfl rfl rfl rfl ?_
    refine jx_ld (pc' := 62) (l' := L16) (st' := [rv (r5)]) rfl (jl_rvn g19) ?_
    refine cx_gi (pc' := 65) (c := 5) (q := 6) (v := F4 (r5) (6 : Int)) rfl rfl (by decide) (by decide) (Or.inl rfl) rfl b9.1 b9.2 rfl ?_
    have b26 : (0 : Int) ≤ F4 (r5) (6 : Int) ∧ F4 (r5) (6 : Int) ≤ 2147483647 := by have z := HC_i (c := 5) (q := 6) hC7 b9.1 b9.2 (by decide) rfl; rw [show F4 (r5) ((6 : Nat) : Int) = F4 (r5) (6 : Int) from rfl] at z; exact z
    refine jx_rt (v := some (.int (i32 (F4 (r5) (6 : Int))))) rfl rfl rfl rfl rfl rfl ?_
    exact Or.inl ⟨m3, tg3, ln3, F4, (F4 (r5) (6 : Int)), rfl, rfl, hX15, hC7, hM13, by omega, by omega, trivial⟩
  by_cases h27 : wh = 3
  · refine jx_swe (tg := 66) h27 rfl rfl rfl rfl ?_
    refine jx_ld (pc' := 67) (l' := L16) (st' := [rv (r5)]) rfl (jl_rvn g19) ?_
    refine cx_gr (pc' := 70) (c := 5) (q := 0) (v := F4 (r5) (0 : Int)) rfl rfl (by decide) (by decide) rfl rfl b9.1 b9.2 rfl ?_
    have y28 : own m3 (F4 (r5) (0 : Int)) ∧ tg3 (F4 (r5) (0 : Int)) = 10 ∧ ((0 : Int) ≠ 0 → ln3 (F4 (r5) (0 : Int)) = 0) := by have z := HC_n (c := 5) (q := 0) hC7 b9.1 b9.2 (own_z b9.1) (by decide) rfl; rw [show F4 (r5) ((0 : Nat) : Int) = F4 (r5) (0 : Int) from rfl] at z; exact ⟨z.1, z.2.1, z.2.2.1⟩
    refine cx_gi (pc' := 73) (c := 9) (q := 8) (v := F4 (F4 (r5) (0 : Int)) (8 : Int)) rfl rfl (by decide) (by decide) (Or.inl rfl) rfl y28.1 y28.2.1 rfl ?_
    have b29 : (0 : Int) ≤ F4 (F4 (r5) (0 : Int)) (8 : Int) ∧ F4 (F4 (r5) (0 : Int)) (8 : Int) ≤ 200 := by have z := HC_i (c := 9) (q := 8) hC7 y28.1 y28.2.1 (by decide) rfl; rw [show F4 (F4 (r5) (0 : Int)) ((8 : Nat) : Int) = F4 (F4 (r5) (0 : Int)) (8 : Int) from rfl] at z; exact z
    refine jx_rt (v := some (.int (i32 (F4 (F4 (r5) (0 : Int)) (8 : Int))))) rfl rfl rfl rfl rfl rfl ?_
    exact Or.inl ⟨m3, tg3, ln3, F4, (F4 (F4 (r5) (0 : Int)) (8 : Int)), rfl, rfl, hX15, hC7, hM13, by omega, by omega, trivial⟩
  by_cases h30 : wh = 4
  · refine jx_swe (tg := 74) h30 rfl rfl rfl rfl ?_
    refine jx_ld (pc' := 75) (l' := L16) (st' := [rv (r5)]) rfl (jl_rvn g19) ?_
    refine cx_gr (pc' := 78) (c := 5) (q := 0) (v := F4 (r5) (0 : Int)) rfl rfl (by decide) (by decide) rfl rfl b9.1 b9.2 rfl ?_
    have y31 : own m3 (F4 (r5) (0 : Int)) ∧ tg3 (F4 (r5) (0 : Int)) = 10 ∧ ((0 : Int) ≠ 0 → ln3 (F4 (r5) (0 : Int)) = 0) := by have z := HC_n (c := 5) (q := 0) hC7 b9.1 b9.2 (own_z b9.1) (by decide) rfl; rw [show F4 (r5) ((0 : Nat) : Int) = F4 (r5) (0 : Int) from rfl] at z; exact ⟨z.1, z.2.1, z.2.2.1⟩
    refine cx_gi (pc' := 81) (c := 9) (q := 5) (v := F4 (F4 (r5) (0 : Int)) (5 : Int)) rfl rfl (by decide) (by decide) (Or.inl rfl) rfl y31.1 y31.2.1 rfl ?_
    have b32 : (0 : Int) ≤ F4 (F4 (r5) (0 : Int)) (5 : Int) ∧ F4 (F4 (r5) (0 : Int)) (5 : Int) ≤ 24 := by have z := HC_i (c := 9) (q := 5) hC7 y31.1 y31.2.1 (by decide) rfl; rw [show F4 (F4 (r5) (0 : Int)) ((5 : Nat) : Int) = F4 (F4 (r5) (0 : Int)) (5 : Int) from rfl] at z; exact z
    refine jx_rt (v := some (.int (i32 (F4 (F4 (r5) (0 : Int)) (5 : Int))))) rfl rfl rfl rfl rfl rfl ?_
    exact Or.inl ⟨m3, tg3, ln3, F4, (F4 (F4 (r5) (0 : Int)) (5 : Int)), rfl, rfl, hX15, hC7, hM13, by omega, by omega, trivial⟩
  by_cases h33 : wh = 5
  · refine jx_swe (tg := 82) h33 rfl rfl rfl rfl ?_
    refine jx_ld (pc' := 83) (l' := L16) (st' := [rv (r5)]) rfl (jl_rvn g19) ?_
    refine cx_gi (pc' := 86) (c := 5) (q := 7) (v := F4 (r5) (7 : Int)) rfl rfl (by decide) (by decide) (Or.inl rfl) rfl b9.1 b9.2 rfl ?_
    have b34 : (-2147483648 : Int) ≤ F4 (r5) (7 : Int) ∧ F4 (r5) (7 : Int) ≤ 2147483647 := by have z := HC_i (c := 5) (q := 7) hC7 b9.1 b9.2 (by decide) rfl; rw [show F4 (r5) ((7 : Nat) : Int) = F4 (r5) (7 : Int) from rfl] at z; exact z
    refine jx_rt (v := some (.int (i32 (F4 (r5) (7 : Int))))) rfl rfl rfl rfl rfl rfl ?_
    exact Or.inl ⟨m3, tg3, ln3, F4, (F4 (r5) (7 : Int)), rfl, rfl, hX15, hC7, hM13, by omega, by omega, trivial⟩
  by_cases h35 : wh = 6
  · refine jx_swe (tg := 87) h35 rfl rfl rfl rfl ?_
    refine jx_ld (pc' := 88) (l' := L16) (st' := [rv (r5)]) rfl (jl_rvn g19) ?_
    refine cx_gi (pc' := 91) (c := 5) (q := 8) (v := F4 (r5) (8 : Int)) rfl rfl (by decide) (by decide) (Or.inl rfl) rfl b9.1 b9.2 rfl ?_
    have b36 : (-2147483648 : Int) ≤ F4 (r5) (8 : Int) ∧ F4 (r5) (8 : Int) ≤ 2147483647 := by have z := HC_i (c := 5) (q := 8) hC7 b9.1 b9.2 (by decide) rfl; rw [show F4 (r5) ((8 : Nat) : Int) = F4 (r5) (8 : Int) from rfl] at z; exact z
    refine jx_rt (v := some (.int (i32 (F4 (r5) (8 : Int))))) rfl rfl rfl rfl rfl rfl ?_
    exact Or.inl ⟨m3, tg3, ln3, F4, (F4 (r5) (8 : Int)), rfl, rfl, hX15, hC7, hM13, by omega, by omega, trivial⟩
  refine jx_swt (tg := 92) (by omega) (by omega) rfl (by omega) rfl ?_
  refine cx_thr2 (c := 13) rfl rfl rfl rfl ⟨by decide, by decide, (Nat.le_of_ble_eq_true rfl), rfl, rfl, rfl⟩ rfl rfl hC7 (fun x37 m37 tg37 ln37 F37 en37 em37 ho37 hx37 hC37 hf37 hs37 => ?_)
  have ex37 : 64 + (m : Int) ≤ (x37 : Int) := by have := hX15.1; omega
  have lm38 := hx37.1
  exact Or.inr ⟨m37, tg37, ln37, F37, x37, rfl, rfl, Ex_t hX15 hx37, hC37, Fq_n hM13 hf37 ex37, ho37.1, Or.inr (ho37.2), by omega, trivial⟩
