set_option maxRecDepth 20000 in
set_option maxHeartbeats 4000000 in
theorem k_LCoder_declare {X : jX} {dd : Nat} {R : Nat → jC} {m : Nat} {tg ln : Int → Int} {F : Int → Int → Int} {me nm : Int} (hd : 3 ≤ dd) (hC : HC 0 m tg ln F) (o_me : own m me) (t_me : tg me = 2) (o_nm : own m nm) (t_nm : tg nm = 7) : wk X dd 67 [rv me, rv nm] (cV R m tg ln F) (fun o V_q => ∃ (F_q : Int → Int → Int), V_q = cV R m tg ln F_q ∧ o = .inl none ∧ HC 0 m tg ln F_q ∧ Fq 0 [(2, 7), (2, 11), (7, 6), (20, -5), (21, -5)] m tg F F_q ∧ True) := by
  obtain ⟨d, rfl⟩ : ∃ d, dd = d + 1 := ⟨dd - 1, by omega⟩
  refine wk_of (e := jm67) rfl (by rw [jS_r, jS_r, jS_0]; exact Nat.le_of_ble_eq_true rfl) ?_
  rw [la_r, la_r, la_0]
  show wj X d jm67 (0, [(0, rv (me)), (1, rv (nm))], [], cV R m tg ln F) _
  have hM0 : Fq 0 [(2, 7), (2, 11), (7, 6), (20, -5), (21, -5)] m tg F F := Fq_r
  obtain ⟨L0, eL0⟩ : ∃ q : jL, q = [(0, rv (me)), (1, rv (nm))] := ⟨_, rfl⟩
  rw [← eL0]
  have g1 : jGet L0 0 = some (rv (me)) := eL0 ▸ (rfl : jGet [(0, rv (me)), (1, rv (nm))] 0 = some (rv (me)))
  have g2 : jGet L0 1 = some (rv (nm)) := eL0 ▸ (rfl : jGet [(0, rv (me)), (1, rv (nm))] 1 = some (rv (nm)))
  clear eL0
  refine jx_ld (pc_q := 1) (l_q := L0) (st_q := [rv (nm)]) rfl (jl_rvn g2) ?_
  refine jx_ld (pc_q := 2) (l_q := L0) (st_q := [rv (me), rv (nm)]) rfl (jl_rvn g1) ?_
  refine cx_gi (pc_q := 5) (c := 1) (q := 10) (v := F (me) (10 : Int)) rfl rfl (by decide) (by decide) (Or.inl rfl) rfl o_me t_me rfl ?_
  have b3 : (-2147483648 : Int) ≤ F (me) (10 : Int) ∧ F (me) (10 : Int) ≤ 2147483647 := by have z := HC_i (c := 1) (q := 10) hC o_me t_me (by decide) rfl; rw [show F (me) ((10 : Nat) : Int) = F (me) (10 : Int) from rfl] at z; exact z
  refine cx_pi (pc_q := 8) (c := 6) (q := 6) (qi := (6 : Int)) (z := F (me) (10 : Int)) rfl rfl (by decide) (by decide) rfl rfl rfl (by decide) rfl o_nm t_nm rfl ?_
  obtain ⟨F4, eF4⟩ : ∃ q, q = uF F (nm) (6 : Int) (F (me) (10 : Int)) := ⟨_, rfl⟩
  rw [← eF4]
  have hC5 : HC 0 m tg ln F4 := by rw [eF4]; exact HC_fi (c := 6) (q := 6) hC t_nm (by decide) rfl (by omega) (by omega) ⟨fun w => absurd w (by decide), fun w => absurd w (by decide)⟩
  have hM6 : Fq 0 [(2, 7), (2, 11), (7, 6), (20, -5), (21, -5)] m tg F F4 := by rw [eF4]; exact Fq_p hM0 t_nm (fun _ => rfl) rfl
  refine jx_ld (pc_q := 9) (l_q := L0) (st_q := [rv (me)]) rfl (jl_rvn g1) ?_
  refine jx_ar (pc_q := 10) (st_q := [.int (i32 (4)), rv (me)]) rfl rfl rfl rfl ?_
  refine jx_ld (pc_q := 11) (l_q := L0) (st_q := [rv (nm), .int (i32 (4)), rv (me)]) rfl (jl_rvn g2) ?_
  refine cx_vi (c := 6) (a := nm) (st := [.int (i32 (4)), rv (me)]) (as := []) rfl rfl rfl o_nm t_nm (by decide) rfl ⟨rfl, rfl, (by rw [jS_i, jS_r, jS_0]; exact Nat.le_of_ble_eq_true rfl)⟩ rfl (k_LName_isChannel (dd := d) (R := R) (m := m) (tg := tg) (ln := ln) (F := F4) (me := nm) (hd := by omega) (hC := hC5) (o_me := o_nm) (t_me := t_nm)) (fun o V_q hq => ?_)
  obtain ⟨r7, rfl, rfl, b8, -⟩ := hq
  refine Or.inr (Or.inl ⟨_, rfl, ?_⟩)
  refine jx_if_eq (pc_q := 17) (tg := 21) rfl rfl rfl (by omega) (by omega) (fun h9 => ?_) (fun h9 => ?_)
  · have _q := h9
    refine jx_ar (pc_q := 22) (st_q := [.int (i32 (0)), .int (i32 (4)), rv (me)]) rfl rfl rfl rfl ?_
    refine cx_vi (c := 1) (a := me) (st := []) (as := [.int (i32 (4)), .int (i32 (0))]) rfl rfl rfl o_me t_me (by decide) rfl ⟨rfl, rfl, (Nat.le_of_ble_eq_true rfl)⟩ rfl (k_LCoder_emit (dd := d) (R := R) (m := m) (tg := tg) (ln := ln) (F := F4) (me := me) (fu := 4) (op := 0) (hd := by omega) (hC := hC5) (o_me := o_me) (t_me := t_me) (h_fu := by omega) (h_op := by omega)) (fun o V_q hq => ?_)
    obtain ⟨F10, rfl, rfl, hC11, hM12, -⟩ := hq
    have hM13 : Fq 0 [(2, 7), (2, 11), (7, 6), (20, -5), (21, -5)] m tg F F10 := Fq_t (ln := ln) (ln1 := ln) hM6 Ex_r hM12 (by decide) (Or.inl rfl)
    refine Or.inl ⟨rfl, ?_⟩
    refine jx_ld (pc_q := 26) (l_q := L0) (st_q := [rv (me)]) rfl (jl_rvn g1) ?_
    refine jx_ar (pc_q := 27) (st_q := [.int (i32 (4)), rv (me)]) rfl rfl rfl rfl ?_
    refine jx_ld (pc_q := 28) (l_q := L0) (st_q := [rv (nm), .int (i32 (4)), rv (me)]) rfl (jl_rvn g2) ?_
    refine cx_gi (pc_q := 31) (c := 6) (q := 3) (v := F (nm) (3 : Int)) rfl rfl (by decide) (by decide) (Or.inl rfl) rfl o_nm t_nm ((show F10 (nm) (3 : Int) = F4 (nm) (3 : Int) from hM12 _ _ o_nm (own_z o_nm) (by rw [t_nm]; rfl)).trans (show F4 (nm) (3 : Int) = F (nm) (3 : Int) from by rw [eF4]; exact uF_j (by decide))) ?_
    have b14 : (-2147483648 : Int) ≤ F (nm) (3 : Int) ∧ F (nm) (3 : Int) ≤ 2147483647 := by have z := HC_i (c := 6) (q := 3) hC11 o_nm t_nm (by decide) rfl; rw [show F10 (nm) ((3 : Nat) : Int) = F (nm) (3 : Int) from ((show F10 (nm) (3 : Int) = F4 (nm) (3 : Int) from hM12 _ _ o_nm (own_z o_nm) (by rw [t_nm]; rfl)).trans (show F4 (nm) (3 : Int) = F (nm) (3 : Int) from by rw [eF4]; exact uF_j (by decide)))] at z; exact z
    refine cx_vi (c := 1) (a := me) (st := []) (as := [.int (i32 (4)), .int (i32 (F (nm) (3 : Int)))]) rfl rfl rfl o_me t_me (by decide) rfl ⟨rfl, rfl, (Nat.le_of_ble_eq_true rfl)⟩ rfl (k_LCoder_emit (dd := d) (R := R) (m := m) (tg := tg) (ln := ln) (F := F10) (me := me) (fu := 4) (op := F (nm) (3 : Int)) (hd := by omega) (hC := hC11) (o_me := o_me) (t_me := t_me) (h_fu := by omega) (h_op := by omega)) (fun o V_q hq => ?_)
    obtain ⟨F15, rfl, rfl, hC16, hM17, -⟩ := hq
    have hM18 : Fq 0 [(2, 7), (2, 11), (7, 6), (20, -5), (21, -5)] m tg F F15 := Fq_t (ln := ln) (ln1 := ln) hM13 Ex_r hM17 (by decide) (Or.inl rfl)
    refine Or.inl ⟨rfl, ?_⟩
    refine jx_ld (pc_q := 35) (l_q := L0) (st_q := [rv (me)]) rfl (jl_rvn g1) ?_
    refine jx_ar (pc_q := 36) (st_q := [.int (i32 (1)), rv (me)]) rfl rfl rfl rfl ?_
    refine jx_ld (pc_q := 37) (l_q := L0) (st_q := [rv (nm), .int (i32 (1)), rv (me)]) rfl (jl_rvn g2) ?_
    refine cx_gi (pc_q := 40) (c := 6) (q := 5) (v := F (nm) (5 : Int)) rfl rfl (by decide) (by decide) (Or.inl rfl) rfl o_nm t_nm ((show F15 (nm) (5 : Int) = F10 (nm) (5 : Int) from hM17 _ _ o_nm (own_z o_nm) (by rw [t_nm]; rfl)).trans ((show F10 (nm) (5 : Int) = F4 (nm) (5 : Int) from hM12 _ _ o_nm (own_z o_nm) (by rw [t_nm]; rfl)).trans (show F4 (nm) (5 : Int) = F (nm) (5 : Int) from by rw [eF4]; exact uF_j (by decide)))) ?_
    have b19 : (-2147483648 : Int) ≤ F (nm) (5 : Int) ∧ F (nm) (5 : Int) ≤ 2147483647 := by have z := HC_i (c := 6) (q := 5) hC16 o_nm t_nm (by decide) rfl; rw [show F15 (nm) ((5 : Nat) : Int) = F (nm) (5 : Int) from ((show F15 (nm) (5 : Int) = F10 (nm) (5 : Int) from hM17 _ _ o_nm (own_z o_nm) (by rw [t_nm]; rfl)).trans ((show F10 (nm) (5 : Int) = F4 (nm) (5 : Int) from hM12 _ _ o_nm (own_z o_nm) (by rw [t_nm]; rfl)).trans (show F4 (nm) (5 : Int) = F (nm) (5 : Int) from by rw [eF4]; exact uF_j (by decide))))] at z; exact z
    refine cx_vi (c := 1) (a := me) (st := []) (as := [.int (i32 (1)), .int (i32 (F (nm) (5 : Int)))]) rfl rfl rfl o_me t_me (by decide) rfl ⟨rfl, rfl, (Nat.le_of_ble_eq_true rfl)⟩ rfl (k_LCoder_emit (dd := d) (R := R) (m := m) (tg := tg) (ln := ln) (F := F15) (me := me) (fu := 1) (op := F (nm) (5 : Int)) (hd := by omega) (hC := hC16) (o_me := o_me) (t_me := t_me) (h_fu := by omega) (h_op := by omega)) (fun o V_q hq => ?_)
    obtain ⟨F20, rfl, rfl, hC21, hM22, -⟩ := hq
    have hM23 : Fq 0 [(2, 7), (2, 11), (7, 6), (20, -5), (21, -5)] m tg F F20 := Fq_t (ln := ln) (ln1 := ln) hM18 Ex_r hM22 (by decide) (Or.inl rfl)
    refine Or.inl ⟨rfl, ?_⟩
    refine jx_ld (pc_q := 44) (l_q := L0) (st_q := [rv (me)]) rfl (jl_rvn g1) ?_
    refine jx_ar (pc_q := 46) (st_q := [.int (i32 (14)), rv (me)]) rfl rfl rfl rfl ?_
    refine cx_vi (c := 1) (a := me) (st := []) (as := [.int (i32 (14))]) rfl rfl rfl o_me t_me (by decide) rfl ⟨rfl, rfl, (Nat.le_of_ble_eq_true rfl)⟩ rfl (k_LCoder_operation (dd := d) (R := R) (m := m) (tg := tg) (ln := ln) (F := F20) (me := me) (op := 14) (hd := by omega) (hC := hC21) (o_me := o_me) (t_me := t_me) (h_op := by omega)) (fun o V_q hq => ?_)
    obtain ⟨F24, rfl, rfl, hC25, hM26, -⟩ := hq
    have hM27 : Fq 0 [(2, 7), (2, 11), (7, 6), (20, -5), (21, -5)] m tg F F24 := Fq_t (ln := ln) (ln1 := ln) hM23 Ex_r hM26 (by decide) (Or.inl rfl)
    refine Or.inl ⟨rfl, ?_⟩
    refine jx_rt (v := none) rfl rfl rfl rfl rfl rfl ?_
    exact ⟨F24, rfl, rfl, hC25, hM27, trivial⟩
  · have _q := h9
    refine jx_ar (pc_q := 18) (st_q := [.int (i32 (-1)), .int (i32 (4)), rv (me)]) rfl rfl rfl rfl ?_
    refine jx_go (tg := 22) rfl rfl ?_
    refine cx_vi (c := 1) (a := me) (st := []) (as := [.int (i32 (4)), .int (i32 (-1))]) rfl rfl rfl o_me t_me (by decide) rfl ⟨rfl, rfl, (Nat.le_of_ble_eq_true rfl)⟩ rfl (k_LCoder_emit (dd := d) (R := R) (m := m) (tg := tg) (ln := ln) (F := F4) (me := me) (fu := 4) (op := -1) (hd := by omega) (hC := hC5) (o_me := o_me) (t_me := t_me) (h_fu := by omega) (h_op := by omega)) (fun o V_q hq => ?_)
    obtain ⟨F28, rfl, rfl, hC29, hM30, -⟩ := hq
    have hM31 : Fq 0 [(2, 7), (2, 11), (7, 6), (20, -5), (21, -5)] m tg F F28 := Fq_t (ln := ln) (ln1 := ln) hM6 Ex_r hM30 (by decide) (Or.inl rfl)
    refine Or.inl ⟨rfl, ?_⟩
    refine jx_ld (pc_q := 26) (l_q := L0) (st_q := [rv (me)]) rfl (jl_rvn g1) ?_
    refine jx_ar (pc_q := 27) (st_q := [.int (i32 (4)), rv (me)]) rfl rfl rfl rfl ?_
    refine jx_ld (pc_q := 28) (l_q := L0) (st_q := [rv (nm), .int (i32 (4)), rv (me)]) rfl (jl_rvn g2) ?_
    refine cx_gi (pc_q := 31) (c := 6) (q := 3) (v := F (nm) (3 : Int)) rfl rfl (by decide) (by decide) (Or.inl rfl) rfl o_nm t_nm ((show F28 (nm) (3 : Int) = F4 (nm) (3 : Int) from hM30 _ _ o_nm (own_z o_nm) (by rw [t_nm]; rfl)).trans (show F4 (nm) (3 : Int) = F (nm) (3 : Int) from by rw [eF4]; exact uF_j (by decide))) ?_
    have b32 : (-2147483648 : Int) ≤ F (nm) (3 : Int) ∧ F (nm) (3 : Int) ≤ 2147483647 := by have z := HC_i (c := 6) (q := 3) hC29 o_nm t_nm (by decide) rfl; rw [show F28 (nm) ((3 : Nat) : Int) = F (nm) (3 : Int) from ((show F28 (nm) (3 : Int) = F4 (nm) (3 : Int) from hM30 _ _ o_nm (own_z o_nm) (by rw [t_nm]; rfl)).trans (show F4 (nm) (3 : Int) = F (nm) (3 : Int) from by rw [eF4]; exact uF_j (by decide)))] at z; exact z
    refine cx_vi (c := 1) (a := me) (st := []) (as := [.int (i32 (4)), .int (i32 (F (nm) (3 : Int)))]) rfl rfl rfl o_me t_me (by decide) rfl ⟨rfl, rfl, (Nat.le_of_ble_eq_true rfl)⟩ rfl (k_LCoder_emit (dd := d) (R := R) (m := m) (tg := tg) (ln := ln) (F := F28) (me := me) (fu := 4) (op := F (nm) (3 : Int)) (hd := by omega) (hC := hC29) (o_me := o_me) (t_me := t_me) (h_fu := by omega) (h_op := by omega)) (fun o V_q hq => ?_)
    obtain ⟨F33, rfl, rfl, hC34, hM35, -⟩ := hq
    have hM36 : Fq 0 [(2, 7), (2, 11), (7, 6), (20, -5), (21, -5)] m tg F F33 := Fq_t (ln := ln) (ln1 := ln) hM31 Ex_r hM35 (by decide) (Or.inl rfl)
    refine Or.inl ⟨rfl, ?_⟩
    refine jx_ld (pc_q := 35) (l_q := L0) (st_q := [rv (me)]) rfl (jl_rvn g1) ?_
    refine jx_ar (pc_q := 36) (st_q := [.int (i32 (1)), rv (me)]) rfl rfl rfl rfl ?_
    refine jx_ld (pc_q := 37) (l_q := L0) (st_q := [rv (nm), .int (i32 (1)), rv (me)]) rfl (jl_rvn g2) ?_
    refine cx_gi (pc_q := 40) (c := 6) (q := 5) (v := F (nm) (5 : Int)) rfl rfl (by decide) (by decide) (Or.inl rfl) rfl o_nm t_nm ((show F33 (nm) (5 : Int) = F28 (nm) (5 : Int) from hM35 _ _ o_nm (own_z o_nm) (by rw [t_nm]; rfl)).trans ((show F28 (nm) (5 : Int) = F4 (nm) (5 : Int) from hM30 _ _ o_nm (own_z o_nm) (by rw [t_nm]; rfl)).trans (show F4 (nm) (5 : Int) = F (nm) (5 : Int) from by rw [eF4]; exact uF_j (by decide)))) ?_
    have b37 : (-2147483648 : Int) ≤ F (nm) (5 : Int) ∧ F (nm) (5 : Int) ≤ 2147483647 := by have z := HC_i (c := 6) (q := 5) hC34 o_nm t_nm (by decide) rfl; rw [show F33 (nm) ((5 : Nat) : Int) = F (nm) (5 : Int) from ((show F33 (nm) (5 : Int) = F28 (nm) (5 : Int) from hM35 _ _ o_nm (own_z o_nm) (by rw [t_nm]; rfl)).trans ((show F28 (nm) (5 : Int) = F4 (nm) (5 : Int) from hM30 _ _ o_nm (own_z o_nm) (by rw [t_nm]; rfl)).trans (show F4 (nm) (5 : Int) = F (nm) (5 : Int) from by rw [eF4]; exact uF_j (by decide))))] at z; exact z
    refine cx_vi (c := 1) (a := me) (st := []) (as := [.int (i32 (1)), .int (i32 (F (nm) (5 : Int)))]) rfl rfl rfl o_me t_me (by decide) rfl ⟨rfl, rfl, (Nat.le_of_ble_eq_true rfl)⟩ rfl (k_LCoder_emit (dd := d) (R := R) (m := m) (tg := tg) (ln := ln) (F := F33) (me := me) (fu := 1) (op := F (nm) (5 : Int)) (hd := by omega) (hC := hC34) (o_me := o_me) (t_me := t_me) (h_fu := by omega) (h_op := by omega)) (fun o V_q hq => ?_)
    obtain ⟨F38, rfl, rfl, hC39, hM40, -⟩ := hq
    have hM41 : Fq 0 [(2, 7), (2, 11), (7, 6), (20, -5), (21, -5)] m tg F F38 := Fq_t (ln := ln) (ln1 := ln) hM36 Ex_r hM40 (by decide) (Or.inl rfl)
    refine Or.inl ⟨rfl, ?_⟩
    refine jx_ld (pc_q := 44) (l_q := L0) (st_q := [rv (me)]) rfl (jl_rvn g1) ?_
    refine jx_ar (pc_q := 46) (st_q := [.int (i32 (14)), rv (me)]) rfl rfl rfl rfl ?_
    refine cx_vi (c := 1) (a := me) (st := []) (as := [.int (i32 (14))]) rfl rfl rfl o_me t_me (by decide) rfl ⟨rfl, rfl, (Nat.le_of_ble_eq_true rfl)⟩ rfl (k_LCoder_operation (dd := d) (R := R) (m := m) (tg := tg) (ln := ln) (F := F38) (me := me) (op := 14) (hd := by omega) (hC := hC39) (o_me := o_me) (t_me := t_me) (h_op := by omega)) (fun o V_q hq => ?_)
    obtain ⟨F42, rfl, rfl, hC43, hM44, -⟩ := hq
    have hM45 : Fq 0 [(2, 7), (2, 11), (7, 6), (20, -5), (21, -5)] m tg F F42 := Fq_t (ln := ln) (ln1 := ln) hM41 Ex_r hM44 (by decide) (Or.inl rfl)
    refine Or.inl ⟨rfl, ?_⟩
    refine jx_rt (v := none) rfl rfl rfl rfl rfl rfl ?_
    exact ⟨F42, rfl, rfl, hC43, hM45, trivial⟩
set_option maxRecDepth 20000 in
set_option maxHeartbeats 4000000 in
theorem k_LCoder_assign {X : jX} {kk : Nat} {dd : Nat} {R : Nat → jC} {m : Nat} {tg ln : Int → Int} {F : Int → Int → Int} {me p : Int} (hd : 3 * kk + 10 ≤ dd) (hC : HC 0 m tg ln F) (o_me : own m me) (t_me : tg me = 2) (o_p : own m p) (t_p : tg p = 8) (c_NT : NT m tg F) (n_p : SN m tg F p (kk)) : wk X dd 68 [rv me, rv p] (cV R m tg ln F) (fun o V_q => ∃ (F_q : Int → Int → Int), V_q = cV R m tg ln F_q ∧ o = .inl none ∧ HC 0 m tg ln F_q ∧ Fq 0 [(2, 7), (2, 8), (2, 11), (20, -5), (21, -5)] m tg F F_q ∧ True) := by
  obtain ⟨d, rfl⟩ : ∃ d, dd = d + 1 := ⟨dd - 1, by omega⟩
  refine wk_of (e := jm68) rfl (by rw [jS_r, jS_r, jS_0]; exact Nat.le_of_ble_eq_true rfl) ?_
  rw [la_r, la_r, la_0]
  show wj X d jm68 (0, [(0, rv (me)), (1, rv (p))], [], cV R m tg ln F) _
  have hM0 : Fq 0 [(2, 7), (2, 8), (2, 11), (20, -5), (21, -5)] m tg F F := Fq_r
  obtain ⟨L0, eL0⟩ : ∃ q : jL, q = [(0, rv (me)), (1, rv (p))] := ⟨_, rfl⟩
  rw [← eL0]
  have g1 : jGet L0 0 = some (rv (me)) := eL0 ▸ (rfl : jGet [(0, rv (me)), (1, rv (p))] 0 = some (rv (me)))
  have g2 : jGet L0 1 = some (rv (p)) := eL0 ▸ (rfl : jGet [(0, rv (me)), (1, rv (p))] 1 = some (rv (p)))
  clear eL0
  have k3 := SN_p n_p (own_z o_p)
  refine jx_ld (pc_q := 1) (l_q := L0) (st_q := [rv (me)]) rfl (jl_rvn g1) ?_
  refine jx_ld (pc_q := 2) (l_q := L0) (st_q := [rv (p), rv (me)]) rfl (jl_rvn g2) ?_
  refine cx_gr (pc_q := 5) (c := 7) (q := 5) (v := F (p) (5 : Int)) rfl rfl (by decide) (by decide) rfl rfl o_p t_p rfl ?_
  have y4 : F (p) (5 : Int) = 0 ∨ (own m (F (p) (5 : Int)) ∧ tg (F (p) (5 : Int)) = 8) := by have z := HC_r (c := 7) (q := 5) hC o_p t_p (by decide) rfl; rw [show F (p) ((5 : Nat) : Int) = F (p) (5 : Int) from rfl] at z; exact z
  refine cx_vi (c := 1) (a := me) (st := []) (as := [rv (F (p) (5 : Int))]) rfl rfl rfl o_me t_me (by decide) rfl ⟨rfl, rfl, (Nat.le_of_ble_eq_true rfl)⟩ rfl (CVx_all X ((kk) - 1) (dd := d) (R := R) (m := m) (tg := tg) (ln := ln) (F := F) (me := me) (e := F (p) (5 : Int)) (hd := by omega) (hC := hC) (o_me := o_me) (t_me := t_me) (y_e := y4) (c_NT := c_NT) (n_e := (SN_w (SN_c hC c_NT n_p (own_z o_p) (by omega)) (by omega)))) (fun o V_q hq => ?_)
  obtain ⟨F5, rfl, rfl, hC6, hM7, -⟩ := hq
  have hM8 : Fq 0 [(2, 7), (2, 8), (2, 11), (20, -5), (21, -5)] m tg F F5 := Fq_t (ln := ln) (ln1 := ln) hM0 Ex_r hM7 (by decide) (Or.inl rfl)
  refine Or.inl ⟨rfl, ?_⟩
  refine jx_ld (pc_q := 9) (l_q := L0) (st_q := [rv (p)]) rfl (jl_rvn g2) ?_
  refine cx_gr (pc_q := 12) (c := 7) (q := 4) (v := F (p) (4 : Int)) rfl rfl (by decide) (by decide) rfl rfl o_p t_p (show F5 (p) (4 : Int) = F (p) (4 : Int) from hM7 _ _ o_p (own_z o_p) (by rw [t_p]; rfl)) ?_
  have y9 : F (p) (4 : Int) = 0 ∨ (own m (F (p) (4 : Int)) ∧ tg (F (p) (4 : Int)) = 8) := by have z := HC_r (c := 7) (q := 4) hC6 o_p t_p (by decide) rfl; rw [show F5 (p) ((4 : Nat) : Int) = F (p) (4 : Int) from (show F5 (p) (4 : Int) = F (p) (4 : Int) from hM7 _ _ o_p (own_z o_p) (by rw [t_p]; rfl))] at z; exact z
  refine cx_nul (pc_q := 15) (tg_q := 25) rfl rfl rfl (fun h10 => ?_) (fun h10 => ?_)
  · have _q := h10
    refine jx_rt (v := none) rfl rfl rfl rfl rfl rfl ?_
    exact ⟨F5, rfl, rfl, hC6, hM8, trivial⟩
  · have _q := h10
    have ho11 : own m (F (p) (4 : Int)) ∧ tg (F (p) (4 : Int)) = 8 := y9.resolve_left h10
    have k12 := SN_p (SN_c hC c_NT n_p (own_z o_p) (by omega)) h10
    refine jx_ld (pc_q := 16) (l_q := L0) (st_q := [rv (p)]) rfl (jl_rvn g2) ?_
    refine cx_gr (pc_q := 19) (c := 7) (q := 4) (v := F (p) (4 : Int)) rfl rfl (by decide) (by decide) rfl rfl o_p t_p (show F5 (p) (4 : Int) = F (p) (4 : Int) from hM7 _ _ o_p (own_z o_p) (by rw [t_p]; rfl)) ?_
    refine cx_gr (pc_q := 22) (c := 7) (q := 3) (v := F5 (F (p) (4 : Int)) (3 : Int)) rfl rfl (by decide) (by decide) rfl rfl ho11.1 ho11.2 rfl ?_
    have y13 : F5 (F (p) (4 : Int)) (3 : Int) = 0 ∨ (own m (F5 (F (p) (4 : Int)) (3 : Int)) ∧ tg (F5 (F (p) (4 : Int)) (3 : Int)) = 7) := by have z := HC_r (c := 7) (q := 3) hC6 ho11.1 ho11.2 (by decide) rfl; rw [show F5 (F (p) (4 : Int)) ((3 : Nat) : Int) = F5 (F (p) (4 : Int)) (3 : Int) from rfl] at z; exact z
    refine cx_non (pc_q := 25) (tg_q := 26) rfl rfl rfl (fun h14 => ?_) (fun h14 => ?_)
    · have _q := h14
      have ho15 : own m (F5 (F (p) (4 : Int)) (3 : Int)) ∧ tg (F5 (F (p) (4 : Int)) (3 : Int)) = 7 := y13.resolve_left h14
      refine jx_ld (pc_q := 27) (l_q := L0) (st_q := [rv (p)]) rfl (jl_rvn g2) ?_
      refine cx_gr (pc_q := 30) (c := 7) (q := 4) (v := F (p) (4 : Int)) rfl rfl (by decide) (by decide) rfl rfl o_p t_p (show F5 (p) (4 : Int) = F (p) (4 : Int) from hM7 _ _ o_p (own_z o_p) (by rw [t_p]; rfl)) ?_
      refine cx_gr (pc_q := 33) (c := 7) (q := 3) (v := F5 (F (p) (4 : Int)) (3 : Int)) rfl rfl (by decide) (by decide) rfl rfl ho11.1 ho11.2 rfl ?_
      refine cx_gi (pc_q := 36) (c := 6) (q := 0) (v := F5 (F5 (F (p) (4 : Int)) (3 : Int)) (0 : Int)) rfl rfl (by decide) (by decide) (Or.inl rfl) rfl ho15.1 ho15.2 rfl ?_
      have b16 : (-2147483648 : Int) ≤ F5 (F5 (F (p) (4 : Int)) (3 : Int)) (0 : Int) ∧ F5 (F5 (F (p) (4 : Int)) (3 : Int)) (0 : Int) ≤ 2147483647 := by have z := HC_i (c := 6) (q := 0) hC6 ho15.1 ho15.2 (by decide) rfl; rw [show F5 (F5 (F (p) (4 : Int)) (3 : Int)) ((0 : Nat) : Int) = F5 (F5 (F (p) (4 : Int)) (3 : Int)) (0 : Int) from rfl] at z; exact z
      refine jx_if_ne (pc_q := 39) (tg := 59) rfl rfl rfl (by omega) (by omega) (fun h17 => ?_) (fun h17 => ?_)
      · have _q := h17
        refine jx_ld (pc_q := 60) (l_q := L0) (st_q := [rv (me)]) rfl (jl_rvn g1) ?_
        refine jx_ld (pc_q := 61) (l_q := L0) (st_q := [rv (p), rv (me)]) rfl (jl_rvn g2) ?_
        refine cx_gr (pc_q := 64) (c := 7) (q := 4) (v := F (p) (4 : Int)) rfl rfl (by decide) (by decide) rfl rfl o_p t_p (show F5 (p) (4 : Int) = F (p) (4 : Int) from hM7 _ _ o_p (own_z o_p) (by rw [t_p]; rfl)) ?_
        refine cx_vi (c := 1) (a := me) (st := []) (as := [rv (F (p) (4 : Int))]) rfl rfl rfl o_me t_me (by decide) rfl ⟨rfl, rfl, (Nat.le_of_ble_eq_true rfl)⟩ rfl (k_LCoder_address (dd := d) (R := R) (m := m) (tg := tg) (ln := ln) (F := F5) (kk := (kk) - 1) (hE := fun _ => CVx_all X _) (me := me) (p := F (p) (4 : Int)) (hd := by omega) (hC := hC6) (o_me := o_me) (t_me := t_me) (y_p := (Or.inr ⟨ho11.1, ho11.2⟩)) (c_NT := NT_q hC c_NT hM8 rfl) (n_p := (SN_q (SN_w (SN_c hC c_NT n_p (own_z o_p) (by omega)) (by omega)) hM8 rfl rfl))) (fun o V_q hq => ?_)
        obtain ⟨F18, rfl, rfl, hC19, hM20, -⟩ := hq
        have hM21 : Fq 0 [(2, 7), (2, 8), (2, 11), (20, -5), (21, -5)] m tg F F18 := Fq_t (ln := ln) (ln1 := ln) hM8 Ex_r hM20 (by decide) (Or.inl rfl)
        refine Or.inl ⟨rfl, ?_⟩
        refine jx_ld (pc_q := 68) (l_q := L0) (st_q := [rv (me)]) rfl (jl_rvn g1) ?_
        refine jx_ar (pc_q := 70) (st_q := [.int (i32 (14)), rv (me)]) rfl rfl rfl rfl ?_
        refine jx_ar (pc_q := 71) (st_q := [.int (i32 (0)), .int (i32 (14)), rv (me)]) rfl rfl rfl rfl ?_
        refine cx_vi (c := 1) (a := me) (st := []) (as := [.int (i32 (14)), .int (i32 (0))]) rfl rfl rfl o_me t_me (by decide) rfl ⟨rfl, rfl, (Nat.le_of_ble_eq_true rfl)⟩ rfl (k_LCoder_emit (dd := d) (R := R) (m := m) (tg := tg) (ln := ln) (F := F18) (me := me) (fu := 14) (op := 0) (hd := by omega) (hC := hC19) (o_me := o_me) (t_me := t_me) (h_fu := by omega) (h_op := by omega)) (fun o V_q hq => ?_)
        obtain ⟨F22, rfl, rfl, hC23, hM24, -⟩ := hq
        have hM25 : Fq 0 [(2, 7), (2, 8), (2, 11), (20, -5), (21, -5)] m tg F F22 := Fq_t (ln := ln) (ln1 := ln) hM21 Ex_r hM24 (by decide) (Or.inl rfl)
        refine Or.inl ⟨rfl, ?_⟩
        refine jx_rt (v := none) rfl rfl rfl rfl rfl rfl ?_
        exact ⟨F22, rfl, rfl, hC23, hM25, trivial⟩
      · have _q := h17
        refine jx_ld (pc_q := 40) (l_q := L0) (st_q := [rv (me)]) rfl (jl_rvn g1) ?_
        refine jx_ar (pc_q := 42) (st_q := [.int (i32 (13)), rv (me)]) rfl rfl rfl rfl ?_
        refine jx_ld (pc_q := 43) (l_q := L0) (st_q := [rv (me), .int (i32 (13)), rv (me)]) rfl (jl_rvn g1) ?_
        refine jx_ld (pc_q := 44) (l_q := L0) (st_q := [rv (p), rv (me), .int (i32 (13)), rv (me)]) rfl (jl_rvn g2) ?_
        refine cx_gr (pc_q := 47) (c := 7) (q := 4) (v := F (p) (4 : Int)) rfl rfl (by decide) (by decide) rfl rfl o_p t_p (show F5 (p) (4 : Int) = F (p) (4 : Int) from hM7 _ _ o_p (own_z o_p) (by rw [t_p]; rfl)) ?_
        refine cx_gr (pc_q := 50) (c := 7) (q := 3) (v := F5 (F (p) (4 : Int)) (3 : Int)) rfl rfl (by decide) (by decide) rfl rfl ho11.1 ho11.2 rfl ?_
        refine cx_vi (c := 1) (a := me) (st := [.int (i32 (13)), rv (me)]) (as := [rv (F5 (F (p) (4 : Int)) (3 : Int))]) rfl rfl rfl o_me t_me (by decide) rfl ⟨rfl, rfl, (by rw [jS_i, jS_r, jS_0]; exact Nat.le_of_ble_eq_true rfl)⟩ rfl (k_LCoder_wordOf (dd := d) (R := R) (m := m) (tg := tg) (ln := ln) (F := F5) (me := me) (nm := F5 (F (p) (4 : Int)) (3 : Int)) (hd := by omega) (hC := hC6) (o_me := o_me) (t_me := t_me) (o_nm := ho15.1) (t_nm := ho15.2)) (fun o V_q hq => ?_)
        obtain ⟨r26, rfl, rfl, b27, -⟩ := hq
        refine Or.inr (Or.inl ⟨_, rfl, ?_⟩)
        refine cx_vi (c := 1) (a := me) (st := []) (as := [.int (i32 (13)), .int (i32 (r26))]) rfl rfl rfl o_me t_me (by decide) rfl ⟨rfl, rfl, (Nat.le_of_ble_eq_true rfl)⟩ rfl (k_LCoder_emit (dd := d) (R := R) (m := m) (tg := tg) (ln := ln) (F := F5) (me := me) (fu := 13) (op := r26) (hd := by omega) (hC := hC6) (o_me := o_me) (t_me := t_me) (h_fu := by omega) (h_op := by omega)) (fun o V_q hq => ?_)
        obtain ⟨F28, rfl, rfl, hC29, hM30, -⟩ := hq
        have hM31 : Fq 0 [(2, 7), (2, 8), (2, 11), (20, -5), (21, -5)] m tg F F28 := Fq_t (ln := ln) (ln1 := ln) hM8 Ex_r hM30 (by decide) (Or.inl rfl)
        refine Or.inl ⟨rfl, ?_⟩
        refine jx_go (tg := 74) rfl rfl ?_
        refine jx_rt (v := none) rfl rfl rfl rfl rfl rfl ?_
        exact ⟨F28, rfl, rfl, hC29, hM31, trivial⟩
    · have _q := h14
      refine jx_rt (v := none) rfl rfl rfl rfl rfl rfl ?_
      exact ⟨F5, rfl, rfl, hC6, hM8, trivial⟩
set_option maxRecDepth 20000 in
set_option maxHeartbeats 4000000 in
theorem k_LCoder_call_at_21 {X : jX} {kk : Nat} {d : Nat} {R : Nat → jC} {m : Nat} {tg ln : Int → Int} {F : Int → Int → Int} {me p : Int} (hd : 3 * kk + 10 ≤ d + 1) (hC : HC 0 m tg ln F) (o_me : own m me) (t_me : tg me = 2) (o_p : own m p) (t_p : tg p = 8) (c_NT : NT m tg F) (n_p : SN m tg F p (kk)) : ∀ (mm : Nat) (L : jL) (Fx : Int → Int → Int) (pa ar : Int), (mz m ar).toNat = mm → jGet L 0 = some (rv (me)) → jGet L 1 = some (rv (p)) → jGet L 2 = some (rv pa) → jGet L 3 = some (rv ar) → HC 0 m tg ln Fx → Fq 0 [(2, 7), (2, 8), (2, 11), (20, -5), (21, -5)] m tg F Fx → (pa = 0 ∨ (own m pa ∧ tg pa = 7)) → (ar = 0 ∨ (own m ar ∧ tg ar = 8)) → (F p (3 : Int) ≠ 0) → (SN m tg F ar (kk - 1)) → wj X d jm69 (21, L, [], cV R m tg ln Fx) (fun o V_q => ∃ (F_q : Int → Int → Int), V_q = cV R m tg ln F_q ∧ o = .inl none ∧ HC 0 m tg ln F_q ∧ Fq 0 [(2, 7), (2, 8), (2, 11), (20, -5), (21, -5)] m tg F F_q ∧ True) := by
  intro mm
  induction mm using Nat.strongRecOn with
  | ind mm ih =>
    intro L Fx pa ar hmm gL_0 gL_1 gL_2 gL_3 hCx hMx yx_pa yx_ar iv_0 sx_ar
    have k1 := SN_p n_p (own_z o_p)
    refine jx_ld (pc_q := 22) (l_q := L) (st_q := [rv (ar)]) rfl (jl_rvn gL_3) ?_
    refine cx_nul (pc_q := 25) (tg_q := 84) rfl rfl rfl (fun h2 => ?_) (fun h2 => ?_)
    · have _q := h2
      refine jx_ld (pc_q := 85) (l_q := L) (st_q := [rv (me)]) rfl (jl_rvn gL_0) ?_
      refine jx_ar (pc_q := 87) (st_q := [.int (i32 (9)), rv (me)]) rfl rfl rfl rfl ?_
      refine jx_ld (pc_q := 88) (l_q := L) (st_q := [rv (p), .int (i32 (9)), rv (me)]) rfl (jl_rvn gL_1) ?_
      refine cx_gr (pc_q := 91) (c := 7) (q := 3) (v := F (p) (3 : Int)) rfl rfl (by decide) (by decide) rfl rfl o_p t_p (show Fx (p) (3 : Int) = F (p) (3 : Int) from hMx _ _ o_p (own_z o_p) (by rw [t_p]; rfl)) ?_
      have y3 : F (p) (3 : Int) = 0 ∨ (own m (F (p) (3 : Int)) ∧ tg (F (p) (3 : Int)) = 7) := by have z := HC_r (c := 7) (q := 3) hCx o_p t_p (by decide) rfl; rw [show Fx (p) ((3 : Nat) : Int) = F (p) (3 : Int) from (show Fx (p) (3 : Int) = F (p) (3 : Int) from hMx _ _ o_p (own_z o_p) (by rw [t_p]; rfl))] at z; exact z
      have hn4 : F (p) (3 : Int) ≠ 0 := iv_0
      have ho5 : own m (F (p) (3 : Int)) ∧ tg (F (p) (3 : Int)) = 7 := y3.resolve_left hn4
      refine cx_gi (pc_q := 94) (c := 6) (q := 10) (v := F (F (p) (3 : Int)) (10 : Int)) rfl rfl (by decide) (by decide) (Or.inl rfl) rfl ho5.1 ho5.2 (show Fx (F (p) (3 : Int)) (10 : Int) = F (F (p) (3 : Int)) (10 : Int) from hMx _ _ ho5.1 (own_z ho5.1) (by rw [ho5.2]; rfl)) ?_
      have b6 : (-2147483648 : Int) ≤ F (F (p) (3 : Int)) (10 : Int) ∧ F (F (p) (3 : Int)) (10 : Int) ≤ 2147483647 := by have z := HC_i (c := 6) (q := 10) hCx ho5.1 ho5.2 (by decide) rfl; rw [show Fx (F (p) (3 : Int)) ((10 : Nat) : Int) = F (F (p) (3 : Int)) (10 : Int) from (show Fx (F (p) (3 : Int)) (10 : Int) = F (F (p) (3 : Int)) (10 : Int) from hMx _ _ ho5.1 (own_z ho5.1) (by rw [ho5.2]; rfl))] at z; exact z
      refine jx_ar (pc_q := 95) (st_q := [.int (i32 (-1)), .int (i32 (F (F (p) (3 : Int)) (10 : Int))), .int (i32 (9)), rv (me)]) rfl rfl rfl rfl ?_
      refine cx_vi (c := 1) (a := me) (st := []) (as := [.int (i32 (9)), .int (i32 (F (F (p) (3 : Int)) (10 : Int))), .int (i32 (-1))]) rfl rfl rfl o_me t_me (by decide) rfl ⟨rfl, rfl, (Nat.le_of_ble_eq_true rfl)⟩ rfl (k_LCoder_way (dd := d) (R := R) (m := m) (tg := tg) (ln := ln) (F := Fx) (me := me) (fu := 9) (lb := F (F (p) (3 : Int)) (10 : Int)) (og := -1) (hd := by omega) (hC := hCx) (o_me := o_me) (t_me := t_me) (h_fu := by omega) (h_lb := by omega) (h_og := by omega)) (fun o V_q hq => ?_)
      obtain ⟨F7, rfl, rfl, hC8, hM9, -⟩ := hq
      have hM10 : Fq 0 [(2, 7), (2, 8), (2, 11), (20, -5), (21, -5)] m tg F F7 := Fq_t (ln := ln) (ln1 := ln) hMx Ex_r hM9 (by decide) (Or.inl rfl)
      refine Or.inl ⟨rfl, ?_⟩
      refine jx_rt (v := none) rfl rfl rfl rfl rfl rfl ?_
      exact ⟨F7, rfl, rfl, hC8, hM10, trivial⟩
    · have _q := h2
      have ho11 : own m (ar) ∧ tg (ar) = 8 := yx_ar.resolve_left h2
      have k12 := SN_p sx_ar h2
      refine jx_ld (pc_q := 26) (l_q := L) (st_q := [rv (pa)]) rfl (jl_rvn gL_2) ?_
      refine cx_nul (pc_q := 29) (tg_q := 84) rfl rfl rfl (fun h13 => ?_) (fun h13 => ?_)
      · have _q := h13
        refine jx_ld (pc_q := 85) (l_q := L) (st_q := [rv (me)]) rfl (jl_rvn gL_0) ?_
        refine jx_ar (pc_q := 87) (st_q := [.int (i32 (9)), rv (me)]) rfl rfl rfl rfl ?_
        refine jx_ld (pc_q := 88) (l_q := L) (st_q := [rv (p), .int (i32 (9)), rv (me)]) rfl (jl_rvn gL_1) ?_
        refine cx_gr (pc_q := 91) (c := 7) (q := 3) (v := F (p) (3 : Int)) rfl rfl (by decide) (by decide) rfl rfl o_p t_p (show Fx (p) (3 : Int) = F (p) (3 : Int) from hMx _ _ o_p (own_z o_p) (by rw [t_p]; rfl)) ?_
        have y14 : F (p) (3 : Int) = 0 ∨ (own m (F (p) (3 : Int)) ∧ tg (F (p) (3 : Int)) = 7) := by have z := HC_r (c := 7) (q := 3) hCx o_p t_p (by decide) rfl; rw [show Fx (p) ((3 : Nat) : Int) = F (p) (3 : Int) from (show Fx (p) (3 : Int) = F (p) (3 : Int) from hMx _ _ o_p (own_z o_p) (by rw [t_p]; rfl))] at z; exact z
        have hn15 : F (p) (3 : Int) ≠ 0 := iv_0
        have ho16 : own m (F (p) (3 : Int)) ∧ tg (F (p) (3 : Int)) = 7 := y14.resolve_left hn15
        refine cx_gi (pc_q := 94) (c := 6) (q := 10) (v := F (F (p) (3 : Int)) (10 : Int)) rfl rfl (by decide) (by decide) (Or.inl rfl) rfl ho16.1 ho16.2 (show Fx (F (p) (3 : Int)) (10 : Int) = F (F (p) (3 : Int)) (10 : Int) from hMx _ _ ho16.1 (own_z ho16.1) (by rw [ho16.2]; rfl)) ?_
        have b17 : (-2147483648 : Int) ≤ F (F (p) (3 : Int)) (10 : Int) ∧ F (F (p) (3 : Int)) (10 : Int) ≤ 2147483647 := by have z := HC_i (c := 6) (q := 10) hCx ho16.1 ho16.2 (by decide) rfl; rw [show Fx (F (p) (3 : Int)) ((10 : Nat) : Int) = F (F (p) (3 : Int)) (10 : Int) from (show Fx (F (p) (3 : Int)) (10 : Int) = F (F (p) (3 : Int)) (10 : Int) from hMx _ _ ho16.1 (own_z ho16.1) (by rw [ho16.2]; rfl))] at z; exact z
        refine jx_ar (pc_q := 95) (st_q := [.int (i32 (-1)), .int (i32 (F (F (p) (3 : Int)) (10 : Int))), .int (i32 (9)), rv (me)]) rfl rfl rfl rfl ?_
        refine cx_vi (c := 1) (a := me) (st := []) (as := [.int (i32 (9)), .int (i32 (F (F (p) (3 : Int)) (10 : Int))), .int (i32 (-1))]) rfl rfl rfl o_me t_me (by decide) rfl ⟨rfl, rfl, (Nat.le_of_ble_eq_true rfl)⟩ rfl (k_LCoder_way (dd := d) (R := R) (m := m) (tg := tg) (ln := ln) (F := Fx) (me := me) (fu := 9) (lb := F (F (p) (3 : Int)) (10 : Int)) (og := -1) (hd := by omega) (hC := hCx) (o_me := o_me) (t_me := t_me) (h_fu := by omega) (h_lb := by omega) (h_og := by omega)) (fun o V_q hq => ?_)
        obtain ⟨F18, rfl, rfl, hC19, hM20, -⟩ := hq
        have hM21 : Fq 0 [(2, 7), (2, 8), (2, 11), (20, -5), (21, -5)] m tg F F18 := Fq_t (ln := ln) (ln1 := ln) hMx Ex_r hM20 (by decide) (Or.inl rfl)
        refine Or.inl ⟨rfl, ?_⟩
        refine jx_rt (v := none) rfl rfl rfl rfl rfl rfl ?_
        exact ⟨F18, rfl, rfl, hC19, hM21, trivial⟩
      · have _q := h13
        have ho22 : own m (pa) ∧ tg (pa) = 7 := yx_pa.resolve_left h13
        refine jx_ld (pc_q := 30) (l_q := L) (st_q := [rv (pa)]) rfl (jl_rvn gL_2) ?_
        refine cx_gi (pc_q := 33) (c := 6) (q := 0) (v := F (pa) (0 : Int)) rfl rfl (by decide) (by decide) (Or.inl rfl) rfl ho22.1 ho22.2 (show Fx (pa) (0 : Int) = F (pa) (0 : Int) from hMx _ _ ho22.1 (own_z ho22.1) (by rw [ho22.2]; rfl)) ?_
        have b23 : (-2147483648 : Int) ≤ F (pa) (0 : Int) ∧ F (pa) (0 : Int) ≤ 2147483647 := by have z := HC_i (c := 6) (q := 0) hCx ho22.1 ho22.2 (by decide) rfl; rw [show Fx (pa) ((0 : Nat) : Int) = F (pa) (0 : Int) from (show Fx (pa) (0 : Int) = F (pa) (0 : Int) from hMx _ _ ho22.1 (own_z ho22.1) (by rw [ho22.2]; rfl))] at z; exact z
        refine jx_ar (pc_q := 34) (st_q := [.int (i32 (1)), .int (i32 (F (pa) (0 : Int)))]) rfl rfl rfl rfl ?_
        refine jx_icmp_ne (pc_q := 37) (tg := 45) rfl rfl rfl (by omega) (by omega) (by decide) (by decide) (fun h24 => ?_) (fun h24 => ?_)
        · have _q := h24
          refine jx_ld (pc_q := 46) (l_q := L) (st_q := [rv (me)]) rfl (jl_rvn gL_0) ?_
          refine jx_ld (pc_q := 47) (l_q := L) (st_q := [rv (ar), rv (me)]) rfl (jl_rvn gL_3) ?_
          refine cx_vi (c := 1) (a := me) (st := []) (as := [rv (ar)]) rfl rfl rfl o_me t_me (by decide) rfl ⟨rfl, rfl, (Nat.le_of_ble_eq_true rfl)⟩ rfl (k_LCoder_address (dd := d) (R := R) (m := m) (tg := tg) (ln := ln) (F := Fx) (kk := kk - 1) (hE := fun _ => CVx_all X _) (me := me) (p := ar) (hd := by omega) (hC := hCx) (o_me := o_me) (t_me := t_me) (y_p := (Or.inr ⟨ho11.1, ho11.2⟩)) (c_NT := NT_q hC c_NT hMx rfl) (n_p := (SN_q (SN_w sx_ar (by omega)) hMx rfl rfl))) (fun o V_q hq => ?_)
          obtain ⟨F25, rfl, rfl, hC26, hM27, -⟩ := hq
          have hM28 : Fq 0 [(2, 7), (2, 8), (2, 11), (20, -5), (21, -5)] m tg F F25 := Fq_t (ln := ln) (ln1 := ln) hMx Ex_r hM27 (by decide) (Or.inl rfl)
          refine Or.inl ⟨rfl, ?_⟩
          refine jx_ld (pc_q := 51) (l_q := L) (st_q := [rv (me)]) rfl (jl_rvn gL_0) ?_
          refine jx_ar (pc_q := 53) (st_q := [.int (i32 (13)), rv (me)]) rfl rfl rfl rfl ?_
          refine jx_ld (pc_q := 54) (l_q := L) (st_q := [rv (pa), .int (i32 (13)), rv (me)]) rfl (jl_rvn gL_2) ?_
          refine cx_gi (pc_q := 57) (c := 6) (q := 5) (v := F (pa) (5 : Int)) rfl rfl (by decide) (by decide) (Or.inl rfl) rfl ho22.1 ho22.2 ((show F25 (pa) (5 : Int) = Fx (pa) (5 : Int) from hM27 _ _ ho22.1 (own_z ho22.1) (by rw [ho22.2]; rfl)).trans (show Fx (pa) (5 : Int) = F (pa) (5 : Int) from hMx _ _ ho22.1 (own_z ho22.1) (by rw [ho22.2]; rfl))) ?_
          have b29 : (-2147483648 : Int) ≤ F (pa) (5 : Int) ∧ F (pa) (5 : Int) ≤ 2147483647 := by have z := HC_i (c := 6) (q := 5) hC26 ho22.1 ho22.2 (by decide) rfl; rw [show F25 (pa) ((5 : Nat) : Int) = F (pa) (5 : Int) from ((show F25 (pa) (5 : Int) = Fx (pa) (5 : Int) from hM27 _ _ ho22.1 (own_z ho22.1) (by rw [ho22.2]; rfl)).trans (show Fx (pa) (5 : Int) = F (pa) (5 : Int) from hMx _ _ ho22.1 (own_z ho22.1) (by rw [ho22.2]; rfl)))] at z; exact z
          refine jx_ar (pc_q := 59) (st_q := [.int (i32 (7)), .int (i32 (F (pa) (5 : Int))), .int (i32 (13)), rv (me)]) rfl rfl rfl rfl ?_
          refine jx_sub (pc_q := 60) rfl rfl ?_
          obtain ⟨z30, ez30⟩ : ∃ q, q = (i32 ((F (pa) (5 : Int) - 7))).toInt := ⟨_, rfl⟩
          have bz30 : (-2147483648 : Int) ≤ z30 ∧ z30 ≤ 2147483647 := ez30 ▸ i32_rg _
          rw [show i32 ((F (pa) (5 : Int) - 7)) = i32 z30 by rw [ez30, i32_of]]
          clear ez30
          refine jx_ld (pc_q := 61) (l_q := L) (st_q := [rv (p), .int (i32 (z30)), .int (i32 (13)), rv (me)]) rfl (jl_rvn gL_1) ?_
          refine cx_gr (pc_q := 64) (c := 7) (q := 3) (v := F (p) (3 : Int)) rfl rfl (by decide) (by decide) rfl rfl o_p t_p ((show F25 (p) (3 : Int) = Fx (p) (3 : Int) from hM27 _ _ o_p (own_z o_p) (by rw [t_p]; rfl)).trans (show Fx (p) (3 : Int) = F (p) (3 : Int) from hMx _ _ o_p (own_z o_p) (by rw [t_p]; rfl))) ?_
          have y31 : F (p) (3 : Int) = 0 ∨ (own m (F (p) (3 : Int)) ∧ tg (F (p) (3 : Int)) = 7) := by have z := HC_r (c := 7) (q := 3) hC26 o_p t_p (by decide) rfl; rw [show F25 (p) ((3 : Nat) : Int) = F (p) (3 : Int) from ((show F25 (p) (3 : Int) = Fx (p) (3 : Int) from hM27 _ _ o_p (own_z o_p) (by rw [t_p]; rfl)).trans (show Fx (p) (3 : Int) = F (p) (3 : Int) from hMx _ _ o_p (own_z o_p) (by rw [t_p]; rfl)))] at z; exact z
          have hn32 : F (p) (3 : Int) ≠ 0 := iv_0
          have ho33 : own m (F (p) (3 : Int)) ∧ tg (F (p) (3 : Int)) = 7 := y31.resolve_left hn32
          refine cx_gi (pc_q := 67) (c := 6) (q := 3) (v := F25 (F (p) (3 : Int)) (3 : Int)) rfl rfl (by decide) (by decide) (Or.inl rfl) rfl ho33.1 ho33.2 rfl ?_
          have b34 : (-2147483648 : Int) ≤ F25 (F (p) (3 : Int)) (3 : Int) ∧ F25 (F (p) (3 : Int)) (3 : Int) ≤ 2147483647 := by have z := HC_i (c := 6) (q := 3) hC26 ho33.1 ho33.2 (by decide) rfl; rw [show F25 (F (p) (3 : Int)) ((3 : Nat) : Int) = F25 (F (p) (3 : Int)) (3 : Int) from rfl] at z; exact z
          refine jx_sub (pc_q := 68) rfl rfl ?_
          obtain ⟨z35, ez35⟩ : ∃ q, q = (i32 ((z30 - F25 (F (p) (3 : Int)) (3 : Int)))).toInt := ⟨_, rfl⟩
          have bz35 : (-2147483648 : Int) ≤ z35 ∧ z35 ≤ 2147483647 := ez35 ▸ i32_rg _
          rw [show i32 ((z30 - F25 (F (p) (3 : Int)) (3 : Int))) = i32 z35 by rw [ez35, i32_of]]
          clear ez35
          refine cx_vi (c := 1) (a := me) (st := []) (as := [.int (i32 (13)), .int (i32 (z35))]) rfl rfl rfl o_me t_me (by decide) rfl ⟨rfl, rfl, (Nat.le_of_ble_eq_true rfl)⟩ rfl (k_LCoder_emit (dd := d) (R := R) (m := m) (tg := tg) (ln := ln) (F := F25) (me := me) (fu := 13) (op := z35) (hd := by omega) (hC := hC26) (o_me := o_me) (t_me := t_me) (h_fu := by omega) (h_op := by omega)) (fun o V_q hq => ?_)
          obtain ⟨F36, rfl, rfl, hC37, hM38, -⟩ := hq
          have hM39 : Fq 0 [(2, 7), (2, 8), (2, 11), (20, -5), (21, -5)] m tg F F36 := Fq_t (ln := ln) (ln1 := ln) hM28 Ex_r hM38 (by decide) (Or.inl rfl)
          refine Or.inl ⟨rfl, ?_⟩
          refine jx_ld (pc_q := 72) (l_q := L) (st_q := [rv (pa)]) rfl (jl_rvn gL_2) ?_
          refine cx_gr (pc_q := 75) (c := 6) (q := 14) (v := F (pa) (14 : Int)) rfl rfl (by decide) (by decide) rfl rfl ho22.1 ho22.2 ((show F36 (pa) (14 : Int) = F25 (pa) (14 : Int) from hM38 _ _ ho22.1 (own_z ho22.1) (by rw [ho22.2]; rfl)).trans ((show F25 (pa) (14 : Int) = Fx (pa) (14 : Int) from hM27 _ _ ho22.1 (own_z ho22.1) (by rw [ho22.2]; rfl)).trans (show Fx (pa) (14 : Int) = F (pa) (14 : Int) from hMx _ _ ho22.1 (own_z ho22.1) (by rw [ho22.2]; rfl)))) ?_
          have y40 : F (pa) (14 : Int) = 0 ∨ (own m (F (pa) (14 : Int)) ∧ tg (F (pa) (14 : Int)) = 7) := by have z := HC_r (c := 6) (q := 14) hC37 ho22.1 ho22.2 (by decide) rfl; rw [show F36 (pa) ((14 : Nat) : Int) = F (pa) (14 : Int) from ((show F36 (pa) (14 : Int) = F25 (pa) (14 : Int) from hM38 _ _ ho22.1 (own_z ho22.1) (by rw [ho22.2]; rfl)).trans ((show F25 (pa) (14 : Int) = Fx (pa) (14 : Int) from hM27 _ _ ho22.1 (own_z ho22.1) (by rw [ho22.2]; rfl)).trans (show Fx (pa) (14 : Int) = F (pa) (14 : Int) from hMx _ _ ho22.1 (own_z ho22.1) (by rw [ho22.2]; rfl))))] at z; exact z
          have z41 := mz_a hC c_NT ho22.1 ho22.2
          refine jx_ld (pc_q := 76) (l_q := jSto1 L 2 (rv (F (pa) (14 : Int)))) (st_q := []) rfl (js_rvn (by decide)) ?_
          obtain ⟨L42, eL42⟩ : ∃ q : jL, q = jSto1 L 2 (rv (F (pa) (14 : Int))) := ⟨_, rfl⟩
          rw [← eL42]
          have g43 : jGet L42 0 = some (rv (me)) := eL42 ▸ jg_nr (by decide) gL_0
          have g44 : jGet L42 1 = some (rv (p)) := eL42 ▸ jg_nr (by decide) gL_1
          have g45 : jGet L42 3 = some (rv (ar)) := eL42 ▸ jg_nr (by decide) gL_3
          have g46 : jGet L42 2 = some (rv (F (pa) (14 : Int))) := eL42 ▸ jg_eq
          clear eL42
          refine jx_ld (pc_q := 77) (l_q := L42) (st_q := [rv (ar)]) rfl (jl_rvn g45) ?_
          refine cx_gr (pc_q := 80) (c := 7) (q := 8) (v := F (ar) (8 : Int)) rfl rfl (by decide) (by decide) rfl rfl ho11.1 ho11.2 ((show F36 (ar) (8 : Int) = F25 (ar) (8 : Int) from hM38 _ _ ho11.1 (own_z ho11.1) (by rw [ho11.2]; rfl)).trans ((show F25 (ar) (8 : Int) = Fx (ar) (8 : Int) from hM27 _ _ ho11.1 (own_z ho11.1) (by rw [ho11.2]; rfl)).trans (show Fx (ar) (8 : Int) = F (ar) (8 : Int) from hMx _ _ ho11.1 (own_z ho11.1) (by rw [ho11.2]; rfl)))) ?_
          have y47 : F (ar) (8 : Int) = 0 ∨ (own m (F (ar) (8 : Int)) ∧ tg (F (ar) (8 : Int)) = 8) := by have z := HC_r (c := 7) (q := 8) hC37 ho11.1 ho11.2 (by decide) rfl; rw [show F36 (ar) ((8 : Nat) : Int) = F (ar) (8 : Int) from ((show F36 (ar) (8 : Int) = F25 (ar) (8 : Int) from hM38 _ _ ho11.1 (own_z ho11.1) (by rw [ho11.2]; rfl)).trans ((show F25 (ar) (8 : Int) = Fx (ar) (8 : Int) from hM27 _ _ ho11.1 (own_z ho11.1) (by rw [ho11.2]; rfl)).trans (show Fx (ar) (8 : Int) = F (ar) (8 : Int) from hMx _ _ ho11.1 (own_z ho11.1) (by rw [ho11.2]; rfl))))] at z; exact z
          have z48 := mz_n hC c_NT sx_ar (own_z ho11.1)
          refine jx_ld (pc_q := 81) (l_q := jSto1 L42 3 (rv (F (ar) (8 : Int)))) (st_q := []) rfl (js_rvn (by decide)) ?_
          obtain ⟨L49, eL49⟩ : ∃ q : jL, q = jSto1 L42 3 (rv (F (ar) (8 : Int))) := ⟨_, rfl⟩
          rw [← eL49]
          have g50 : jGet L49 0 = some (rv (me)) := eL49 ▸ jg_nr (by decide) g43
          have g51 : jGet L49 1 = some (rv (p)) := eL49 ▸ jg_nr (by decide) g44
          have g52 : jGet L49 2 = some (rv (F (pa) (14 : Int))) := eL49 ▸ jg_nr (by decide) g46
          have g53 : jGet L49 3 = some (rv (F (ar) (8 : Int))) := eL49 ▸ jg_eq
          clear eL49
          refine jx_go (tg := 21) rfl rfl ?_
          exact ih _ (by omega) L49 F36 (F (pa) (14 : Int)) (F (ar) (8 : Int)) rfl g50 g51 g52 g53 hC37 hM39 y40 y47 (by omega) (SN_w (SN_n hC c_NT sx_ar (own_z ho11.1)) (by omega))
        · have _q := h24
          refine jx_ld (pc_q := 38) (l_q := L) (st_q := [rv (me)]) rfl (jl_rvn gL_0) ?_
          refine jx_ld (pc_q := 39) (l_q := L) (st_q := [rv (ar), rv (me)]) rfl (jl_rvn gL_3) ?_
          refine cx_vi (c := 1) (a := me) (st := []) (as := [rv (ar)]) rfl rfl rfl o_me t_me (by decide) rfl ⟨rfl, rfl, (Nat.le_of_ble_eq_true rfl)⟩ rfl (CVx_all X (kk - 1) (dd := d) (R := R) (m := m) (tg := tg) (ln := ln) (F := Fx) (me := me) (e := ar) (hd := by omega) (hC := hCx) (o_me := o_me) (t_me := t_me) (y_e := (Or.inr ⟨ho11.1, ho11.2⟩)) (c_NT := NT_q hC c_NT hMx rfl) (n_e := (SN_q (SN_w sx_ar (by omega)) hMx rfl rfl))) (fun o V_q hq => ?_)
          obtain ⟨F54, rfl, rfl, hC55, hM56, -⟩ := hq
          have hM57 : Fq 0 [(2, 7), (2, 8), (2, 11), (20, -5), (21, -5)] m tg F F54 := Fq_t (ln := ln) (ln1 := ln) hMx Ex_r hM56 (by decide) (Or.inl rfl)
          refine Or.inl ⟨rfl, ?_⟩
          refine jx_go (tg := 50) rfl rfl ?_
          refine jx_ld (pc_q := 51) (l_q := L) (st_q := [rv (me)]) rfl (jl_rvn gL_0) ?_
          refine jx_ar (pc_q := 53) (st_q := [.int (i32 (13)), rv (me)]) rfl rfl rfl rfl ?_
          refine jx_ld (pc_q := 54) (l_q := L) (st_q := [rv (pa), .int (i32 (13)), rv (me)]) rfl (jl_rvn gL_2) ?_
          refine cx_gi (pc_q := 57) (c := 6) (q := 5) (v := F (pa) (5 : Int)) rfl rfl (by decide) (by decide) (Or.inl rfl) rfl ho22.1 ho22.2 ((show F54 (pa) (5 : Int) = Fx (pa) (5 : Int) from hM56 _ _ ho22.1 (own_z ho22.1) (by rw [ho22.2]; rfl)).trans (show Fx (pa) (5 : Int) = F (pa) (5 : Int) from hMx _ _ ho22.1 (own_z ho22.1) (by rw [ho22.2]; rfl))) ?_
          have b58 : (-2147483648 : Int) ≤ F (pa) (5 : Int) ∧ F (pa) (5 : Int) ≤ 2147483647 := by have z := HC_i (c := 6) (q := 5) hC55 ho22.1 ho22.2 (by decide) rfl; rw [show F54 (pa) ((5 : Nat) : Int) = F (pa) (5 : Int) from ((show F54 (pa) (5 : Int) = Fx (pa) (5 : Int) from hM56 _ _ ho22.1 (own_z ho22.1) (by rw [ho22.2]; rfl)).trans (show Fx (pa) (5 : Int) = F (pa) (5 : Int) from hMx _ _ ho22.1 (own_z ho22.1) (by rw [ho22.2]; rfl)))] at z; exact z
          refine jx_ar (pc_q := 59) (st_q := [.int (i32 (7)), .int (i32 (F (pa) (5 : Int))), .int (i32 (13)), rv (me)]) rfl rfl rfl rfl ?_
          refine jx_sub (pc_q := 60) rfl rfl ?_
          obtain ⟨z59, ez59⟩ : ∃ q, q = (i32 ((F (pa) (5 : Int) - 7))).toInt := ⟨_, rfl⟩
          have bz59 : (-2147483648 : Int) ≤ z59 ∧ z59 ≤ 2147483647 := ez59 ▸ i32_rg _
          rw [show i32 ((F (pa) (5 : Int) - 7)) = i32 z59 by rw [ez59, i32_of]]
          clear ez59
          refine jx_ld (pc_q := 61) (l_q := L) (st_q := [rv (p), .int (i32 (z59)), .int (i32 (13)), rv (me)]) rfl (jl_rvn gL_1) ?_
          refine cx_gr (pc_q := 64) (c := 7) (q := 3) (v := F (p) (3 : Int)) rfl rfl (by decide) (by decide) rfl rfl o_p t_p ((show F54 (p) (3 : Int) = Fx (p) (3 : Int) from hM56 _ _ o_p (own_z o_p) (by rw [t_p]; rfl)).trans (show Fx (p) (3 : Int) = F (p) (3 : Int) from hMx _ _ o_p (own_z o_p) (by rw [t_p]; rfl))) ?_
          have y60 : F (p) (3 : Int) = 0 ∨ (own m (F (p) (3 : Int)) ∧ tg (F (p) (3 : Int)) = 7) := by have z := HC_r (c := 7) (q := 3) hC55 o_p t_p (by decide) rfl; rw [show F54 (p) ((3 : Nat) : Int) = F (p) (3 : Int) from ((show F54 (p) (3 : Int) = Fx (p) (3 : Int) from hM56 _ _ o_p (own_z o_p) (by rw [t_p]; rfl)).trans (show Fx (p) (3 : Int) = F (p) (3 : Int) from hMx _ _ o_p (own_z o_p) (by rw [t_p]; rfl)))] at z; exact z
          have hn61 : F (p) (3 : Int) ≠ 0 := iv_0
          have ho62 : own m (F (p) (3 : Int)) ∧ tg (F (p) (3 : Int)) = 7 := y60.resolve_left hn61
          refine cx_gi (pc_q := 67) (c := 6) (q := 3) (v := F54 (F (p) (3 : Int)) (3 : Int)) rfl rfl (by decide) (by decide) (Or.inl rfl) rfl ho62.1 ho62.2 rfl ?_
          have b63 : (-2147483648 : Int) ≤ F54 (F (p) (3 : Int)) (3 : Int) ∧ F54 (F (p) (3 : Int)) (3 : Int) ≤ 2147483647 := by have z := HC_i (c := 6) (q := 3) hC55 ho62.1 ho62.2 (by decide) rfl; rw [show F54 (F (p) (3 : Int)) ((3 : Nat) : Int) = F54 (F (p) (3 : Int)) (3 : Int) from rfl] at z; exact z
          refine jx_sub (pc_q := 68) rfl rfl ?_
          obtain ⟨z64, ez64⟩ : ∃ q, q = (i32 ((z59 - F54 (F (p) (3 : Int)) (3 : Int)))).toInt := ⟨_, rfl⟩
          have bz64 : (-2147483648 : Int) ≤ z64 ∧ z64 ≤ 2147483647 := ez64 ▸ i32_rg _
          rw [show i32 ((z59 - F54 (F (p) (3 : Int)) (3 : Int))) = i32 z64 by rw [ez64, i32_of]]
          clear ez64
          refine cx_vi (c := 1) (a := me) (st := []) (as := [.int (i32 (13)), .int (i32 (z64))]) rfl rfl rfl o_me t_me (by decide) rfl ⟨rfl, rfl, (Nat.le_of_ble_eq_true rfl)⟩ rfl (k_LCoder_emit (dd := d) (R := R) (m := m) (tg := tg) (ln := ln) (F := F54) (me := me) (fu := 13) (op := z64) (hd := by omega) (hC := hC55) (o_me := o_me) (t_me := t_me) (h_fu := by omega) (h_op := by omega)) (fun o V_q hq => ?_)
          obtain ⟨F65, rfl, rfl, hC66, hM67, -⟩ := hq
          have hM68 : Fq 0 [(2, 7), (2, 8), (2, 11), (20, -5), (21, -5)] m tg F F65 := Fq_t (ln := ln) (ln1 := ln) hM57 Ex_r hM67 (by decide) (Or.inl rfl)
          refine Or.inl ⟨rfl, ?_⟩
          refine jx_ld (pc_q := 72) (l_q := L) (st_q := [rv (pa)]) rfl (jl_rvn gL_2) ?_
          refine cx_gr (pc_q := 75) (c := 6) (q := 14) (v := F (pa) (14 : Int)) rfl rfl (by decide) (by decide) rfl rfl ho22.1 ho22.2 ((show F65 (pa) (14 : Int) = F54 (pa) (14 : Int) from hM67 _ _ ho22.1 (own_z ho22.1) (by rw [ho22.2]; rfl)).trans ((show F54 (pa) (14 : Int) = Fx (pa) (14 : Int) from hM56 _ _ ho22.1 (own_z ho22.1) (by rw [ho22.2]; rfl)).trans (show Fx (pa) (14 : Int) = F (pa) (14 : Int) from hMx _ _ ho22.1 (own_z ho22.1) (by rw [ho22.2]; rfl)))) ?_
          have y69 : F (pa) (14 : Int) = 0 ∨ (own m (F (pa) (14 : Int)) ∧ tg (F (pa) (14 : Int)) = 7) := by have z := HC_r (c := 6) (q := 14) hC66 ho22.1 ho22.2 (by decide) rfl; rw [show F65 (pa) ((14 : Nat) : Int) = F (pa) (14 : Int) from ((show F65 (pa) (14 : Int) = F54 (pa) (14 : Int) from hM67 _ _ ho22.1 (own_z ho22.1) (by rw [ho22.2]; rfl)).trans ((show F54 (pa) (14 : Int) = Fx (pa) (14 : Int) from hM56 _ _ ho22.1 (own_z ho22.1) (by rw [ho22.2]; rfl)).trans (show Fx (pa) (14 : Int) = F (pa) (14 : Int) from hMx _ _ ho22.1 (own_z ho22.1) (by rw [ho22.2]; rfl))))] at z; exact z
          have z70 := mz_a hC c_NT ho22.1 ho22.2
          refine jx_ld (pc_q := 76) (l_q := jSto1 L 2 (rv (F (pa) (14 : Int)))) (st_q := []) rfl (js_rvn (by decide)) ?_
          obtain ⟨L71, eL71⟩ : ∃ q : jL, q = jSto1 L 2 (rv (F (pa) (14 : Int))) := ⟨_, rfl⟩
          rw [← eL71]
          have g72 : jGet L71 0 = some (rv (me)) := eL71 ▸ jg_nr (by decide) gL_0
          have g73 : jGet L71 1 = some (rv (p)) := eL71 ▸ jg_nr (by decide) gL_1
          have g74 : jGet L71 3 = some (rv (ar)) := eL71 ▸ jg_nr (by decide) gL_3
          have g75 : jGet L71 2 = some (rv (F (pa) (14 : Int))) := eL71 ▸ jg_eq
          clear eL71
          refine jx_ld (pc_q := 77) (l_q := L71) (st_q := [rv (ar)]) rfl (jl_rvn g74) ?_
          refine cx_gr (pc_q := 80) (c := 7) (q := 8) (v := F (ar) (8 : Int)) rfl rfl (by decide) (by decide) rfl rfl ho11.1 ho11.2 ((show F65 (ar) (8 : Int) = F54 (ar) (8 : Int) from hM67 _ _ ho11.1 (own_z ho11.1) (by rw [ho11.2]; rfl)).trans ((show F54 (ar) (8 : Int) = Fx (ar) (8 : Int) from hM56 _ _ ho11.1 (own_z ho11.1) (by rw [ho11.2]; rfl)).trans (show Fx (ar) (8 : Int) = F (ar) (8 : Int) from hMx _ _ ho11.1 (own_z ho11.1) (by rw [ho11.2]; rfl)))) ?_
          have y76 : F (ar) (8 : Int) = 0 ∨ (own m (F (ar) (8 : Int)) ∧ tg (F (ar) (8 : Int)) = 8) := by have z := HC_r (c := 7) (q := 8) hC66 ho11.1 ho11.2 (by decide) rfl; rw [show F65 (ar) ((8 : Nat) : Int) = F (ar) (8 : Int) from ((show F65 (ar) (8 : Int) = F54 (ar) (8 : Int) from hM67 _ _ ho11.1 (own_z ho11.1) (by rw [ho11.2]; rfl)).trans ((show F54 (ar) (8 : Int) = Fx (ar) (8 : Int) from hM56 _ _ ho11.1 (own_z ho11.1) (by rw [ho11.2]; rfl)).trans (show Fx (ar) (8 : Int) = F (ar) (8 : Int) from hMx _ _ ho11.1 (own_z ho11.1) (by rw [ho11.2]; rfl))))] at z; exact z
          have z77 := mz_n hC c_NT sx_ar (own_z ho11.1)
          refine jx_ld (pc_q := 81) (l_q := jSto1 L71 3 (rv (F (ar) (8 : Int)))) (st_q := []) rfl (js_rvn (by decide)) ?_
          obtain ⟨L78, eL78⟩ : ∃ q : jL, q = jSto1 L71 3 (rv (F (ar) (8 : Int))) := ⟨_, rfl⟩
          rw [← eL78]
          have g79 : jGet L78 0 = some (rv (me)) := eL78 ▸ jg_nr (by decide) g72
          have g80 : jGet L78 1 = some (rv (p)) := eL78 ▸ jg_nr (by decide) g73
          have g81 : jGet L78 2 = some (rv (F (pa) (14 : Int))) := eL78 ▸ jg_nr (by decide) g75
          have g82 : jGet L78 3 = some (rv (F (ar) (8 : Int))) := eL78 ▸ jg_eq
          clear eL78
          refine jx_go (tg := 21) rfl rfl ?_
          exact ih _ (by omega) L78 F65 (F (pa) (14 : Int)) (F (ar) (8 : Int)) rfl g79 g80 g81 g82 hC66 hM68 y69 y76 (by omega) (SN_w (SN_n hC c_NT sx_ar (own_z ho11.1)) (by omega))
set_option maxRecDepth 20000 in
set_option maxHeartbeats 4000000 in
theorem k_LCoder_call {X : jX} {kk : Nat} {dd : Nat} {R : Nat → jC} {m : Nat} {tg ln : Int → Int} {F : Int → Int → Int} {me p : Int} (hd : 3 * kk + 10 ≤ dd) (hC : HC 0 m tg ln F) (o_me : own m me) (t_me : tg me = 2) (o_p : own m p) (t_p : tg p = 8) (c_NT : NT m tg F) (n_p : SN m tg F p (kk)) : wk X dd 69 [rv me, rv p] (cV R m tg ln F) (fun o V_q => ∃ (F_q : Int → Int → Int), V_q = cV R m tg ln F_q ∧ o = .inl none ∧ HC 0 m tg ln F_q ∧ Fq 0 [(2, 7), (2, 8), (2, 11), (20, -5), (21, -5)] m tg F F_q ∧ True) := by
  obtain ⟨d, rfl⟩ : ∃ d, dd = d + 1 := ⟨dd - 1, by omega⟩
  refine wk_of (e := jm69) rfl (by rw [jS_r, jS_r, jS_0]; exact Nat.le_of_ble_eq_true rfl) ?_
  rw [la_r, la_r, la_0]
  show wj X d jm69 (0, [(0, rv (me)), (1, rv (p))], [], cV R m tg ln F) _
  have hM0 : Fq 0 [(2, 7), (2, 8), (2, 11), (20, -5), (21, -5)] m tg F F := Fq_r
  obtain ⟨L0, eL0⟩ : ∃ q : jL, q = [(0, rv (me)), (1, rv (p))] := ⟨_, rfl⟩
  rw [← eL0]
  have g83 : jGet L0 0 = some (rv (me)) := eL0 ▸ (rfl : jGet [(0, rv (me)), (1, rv (p))] 0 = some (rv (me)))
  have g84 : jGet L0 1 = some (rv (p)) := eL0 ▸ (rfl : jGet [(0, rv (me)), (1, rv (p))] 1 = some (rv (p)))
  clear eL0
  have k85 := SN_p n_p (own_z o_p)
  refine jx_ld (pc_q := 1) (l_q := L0) (st_q := [rv (p)]) rfl (jl_rvn g84) ?_
  refine cx_gr (pc_q := 4) (c := 7) (q := 3) (v := F (p) (3 : Int)) rfl rfl (by decide) (by decide) rfl rfl o_p t_p rfl ?_
  have y86 : F (p) (3 : Int) = 0 ∨ (own m (F (p) (3 : Int)) ∧ tg (F (p) (3 : Int)) = 7) := by have z := HC_r (c := 7) (q := 3) hC o_p t_p (by decide) rfl; rw [show F (p) ((3 : Nat) : Int) = F (p) (3 : Int) from rfl] at z; exact z
  refine cx_non (pc_q := 7) (tg_q := 8) rfl rfl rfl (fun h87 => ?_) (fun h87 => ?_)
  · have _q := h87
    have ho88 : own m (F (p) (3 : Int)) ∧ tg (F (p) (3 : Int)) = 7 := y86.resolve_left h87
    refine jx_ld (pc_q := 9) (l_q := L0) (st_q := [rv (p)]) rfl (jl_rvn g84) ?_
    refine cx_gr (pc_q := 12) (c := 7) (q := 3) (v := F (p) (3 : Int)) rfl rfl (by decide) (by decide) rfl rfl o_p t_p rfl ?_
    refine cx_gr (pc_q := 15) (c := 6) (q := 13) (v := F (F (p) (3 : Int)) (13 : Int)) rfl rfl (by decide) (by decide) rfl rfl ho88.1 ho88.2 rfl ?_
    have y89 : F (F (p) (3 : Int)) (13 : Int) = 0 ∨ (own m (F (F (p) (3 : Int)) (13 : Int)) ∧ tg (F (F (p) (3 : Int)) (13 : Int)) = 7) := by have z := HC_r (c := 6) (q := 13) hC ho88.1 ho88.2 (by decide) rfl; rw [show F (F (p) (3 : Int)) ((13 : Nat) : Int) = F (F (p) (3 : Int)) (13 : Int) from rfl] at z; exact z
    refine jx_ld (pc_q := 16) (l_q := jSto1 L0 2 (rv (F (F (p) (3 : Int)) (13 : Int)))) (st_q := []) rfl (js_rvn (by decide)) ?_
    obtain ⟨L90, eL90⟩ : ∃ q : jL, q = jSto1 L0 2 (rv (F (F (p) (3 : Int)) (13 : Int))) := ⟨_, rfl⟩
    rw [← eL90]
    have g91 : jGet L90 0 = some (rv (me)) := eL90 ▸ jg_nr (by decide) g83
    have g92 : jGet L90 1 = some (rv (p)) := eL90 ▸ jg_nr (by decide) g84
    have g93 : jGet L90 2 = some (rv (F (F (p) (3 : Int)) (13 : Int))) := eL90 ▸ jg_eq
    clear eL90
    refine jx_ld (pc_q := 17) (l_q := L90) (st_q := [rv (p)]) rfl (jl_rvn g92) ?_
    refine cx_gr (pc_q := 20) (c := 7) (q := 4) (v := F (p) (4 : Int)) rfl rfl (by decide) (by decide) rfl rfl o_p t_p rfl ?_
    have y94 : F (p) (4 : Int) = 0 ∨ (own m (F (p) (4 : Int)) ∧ tg (F (p) (4 : Int)) = 8) := by have z := HC_r (c := 7) (q := 4) hC o_p t_p (by decide) rfl; rw [show F (p) ((4 : Nat) : Int) = F (p) (4 : Int) from rfl] at z; exact z
    refine jx_ld (pc_q := 21) (l_q := jSto1 L90 3 (rv (F (p) (4 : Int)))) (st_q := []) rfl (js_rvn (by decide)) ?_
    obtain ⟨L95, eL95⟩ : ∃ q : jL, q = jSto1 L90 3 (rv (F (p) (4 : Int))) := ⟨_, rfl⟩
    rw [← eL95]
    have g96 : jGet L95 0 = some (rv (me)) := eL95 ▸ jg_nr (by decide) g91
    have g97 : jGet L95 1 = some (rv (p)) := eL95 ▸ jg_nr (by decide) g92
    have g98 : jGet L95 2 = some (rv (F (F (p) (3 : Int)) (13 : Int))) := eL95 ▸ jg_nr (by decide) g93
    have g99 : jGet L95 3 = some (rv (F (p) (4 : Int))) := eL95 ▸ jg_eq
    clear eL95
    exact k_LCoder_call_at_21 (X := X) (kk := kk) (d := d) (R := R) (m := m) (tg := tg) (ln := ln) (F := F) (me := me) (p := p) (hd := hd) (hC := hC) (o_me := o_me) (t_me := t_me) (o_p := o_p) (t_p := t_p) (c_NT := c_NT) (n_p := n_p) _ L95 F (F (F (p) (3 : Int)) (13 : Int)) (F (p) (4 : Int)) rfl g96 g97 g98 g99 hC hM0 y89 y94 (by omega) (SN_w (SN_c hC c_NT n_p (own_z o_p) (by omega)) (by omega))
  · have _q := h87
    refine jx_rt (v := none) rfl rfl rfl rfl rfl rfl ?_
    exact ⟨F, rfl, rfl, hC, hM0, trivial⟩
set_option maxRecDepth 20000 in
set_option maxHeartbeats 4000000 in
theorem k_LCoder_prepare {X : jX} {kk : Nat} {dd : Nat} {R : Nat → jC} {m : Nat} {tg ln : Int → Int} {F : Int → Int → Int} {me g wd : Int} (hd : 3 * kk + 10 ≤ dd) (hC : HC 0 m tg ln F) (o_me : own m me) (t_me : tg me = 2) (o_g : own m g) (t_g : tg g = 8) (h_wd : (-2147483648 : Int) ≤ wd ∧ wd ≤ 2147483647) (c_NT : NT m tg F) (n_g : SN m tg F g (kk)) : wk X dd 77 [rv me, rv g, .int (i32 wd)] (cV R m tg ln F) (fun o V_q => ∃ (F_q : Int → Int → Int), V_q = cV R m tg ln F_q ∧ o = .inl none ∧ HC 0 m tg ln F_q ∧ Fq 0 [(2, 7), (2, 8), (2, 11), (20, -5), (21, -5)] m tg F F_q ∧ True) := by
  obtain ⟨d, rfl⟩ : ∃ d, dd = d + 1 := ⟨dd - 1, by omega⟩
  refine wk_of (e := jm77) rfl (by rw [jS_r, jS_r, jS_i, jS_0]; exact Nat.le_of_ble_eq_true rfl) ?_
  rw [la_r, la_r, la_i, la_0]
  show wj X d jm77 (0, [(0, rv (me)), (1, rv (g)), (2, .int (i32 (wd)))], [], cV R m tg ln F) _
  have hM0 : Fq 0 [(2, 7), (2, 8), (2, 11), (20, -5), (21, -5)] m tg F F := Fq_r
  obtain ⟨L0, eL0⟩ : ∃ q : jL, q = [(0, rv (me)), (1, rv (g)), (2, .int (i32 (wd)))] := ⟨_, rfl⟩
  rw [← eL0]
  have g1 : jGet L0 0 = some (rv (me)) := eL0 ▸ (rfl : jGet [(0, rv (me)), (1, rv (g)), (2, .int (i32 (wd)))] 0 = some (rv (me)))
  have g2 : jGet L0 1 = some (rv (g)) := eL0 ▸ (rfl : jGet [(0, rv (me)), (1, rv (g)), (2, .int (i32 (wd)))] 1 = some (rv (g)))
  have g3 : jGet L0 2 = some (.int (i32 (wd))) := eL0 ▸ (rfl : jGet [(0, rv (me)), (1, rv (g)), (2, .int (i32 (wd)))] 2 = some (.int (i32 (wd))))
  clear eL0
  have k4 := SN_p n_g (own_z o_g)
  refine jx_ld (pc_q := 1) (l_q := L0) (st_q := [rv (g)]) rfl (jl_rvn g2) ?_
  refine cx_gr (pc_q := 4) (c := 7) (q := 4) (v := F (g) (4 : Int)) rfl rfl (by decide) (by decide) rfl rfl o_g t_g rfl ?_
  have y5 : F (g) (4 : Int) = 0 ∨ (own m (F (g) (4 : Int)) ∧ tg (F (g) (4 : Int)) = 8) := by have z := HC_r (c := 7) (q := 4) hC o_g t_g (by decide) rfl; rw [show F (g) ((4 : Nat) : Int) = F (g) (4 : Int) from rfl] at z; exact z
  refine cx_non (pc_q := 7) (tg_q := 16) rfl rfl rfl (fun h6 => ?_) (fun h6 => ?_)
  · have _q := h6
    have ho7 : own m (F (g) (4 : Int)) ∧ tg (F (g) (4 : Int)) = 8 := y5.resolve_left h6
    have k8 := SN_p (SN_c hC c_NT n_g (own_z o_g) (by omega)) h6
    refine jx_ld (pc_q := 17) (l_q := L0) (st_q := [rv (me)]) rfl (jl_rvn g1) ?_
    refine jx_ld (pc_q := 18) (l_q := L0) (st_q := [rv (g), rv (me)]) rfl (jl_rvn g2) ?_
    refine cx_gr (pc_q := 21) (c := 7) (q := 4) (v := F (g) (4 : Int)) rfl rfl (by decide) (by decide) rfl rfl o_g t_g rfl ?_
    refine cx_vi (c := 1) (a := me) (st := []) (as := [rv (F (g) (4 : Int))]) rfl rfl rfl o_me t_me (by decide) rfl ⟨rfl, rfl, (Nat.le_of_ble_eq_true rfl)⟩ rfl (CVx_all X ((kk) - 1) (dd := d) (R := R) (m := m) (tg := tg) (ln := ln) (F := F) (me := me) (e := F (g) (4 : Int)) (hd := by omega) (hC := hC) (o_me := o_me) (t_me := t_me) (y_e := (Or.inr ⟨ho7.1, ho7.2⟩)) (c_NT := c_NT) (n_e := (SN_w (SN_c hC c_NT n_g (own_z o_g) (by omega)) (by omega)))) (fun o V_q hq => ?_)
    obtain ⟨F9, rfl, rfl, hC10, hM11, -⟩ := hq
    have hM12 : Fq 0 [(2, 7), (2, 8), (2, 11), (20, -5), (21, -5)] m tg F F9 := Fq_t (ln := ln) (ln1 := ln) hM0 Ex_r hM11 (by decide) (Or.inl rfl)
    refine Or.inl ⟨rfl, ?_⟩
    refine jx_ld (pc_q := 25) (l_q := L0) (st_q := [rv (me)]) rfl (jl_rvn g1) ?_
    refine jx_ar (pc_q := 27) (st_q := [.int (i32 (13)), rv (me)]) rfl rfl rfl rfl ?_
    refine jx_ld (pc_q := 28) (l_q := L0) (st_q := [.int (i32 (wd)), .int (i32 (13)), rv (me)]) rfl (jl_iloadn g3) ?_
    refine cx_vi (c := 1) (a := me) (st := []) (as := [.int (i32 (13)), .int (i32 (wd))]) rfl rfl rfl o_me t_me (by decide) rfl ⟨rfl, rfl, (Nat.le_of_ble_eq_true rfl)⟩ rfl (k_LCoder_emit (dd := d) (R := R) (m := m) (tg := tg) (ln := ln) (F := F9) (me := me) (fu := 13) (op := wd) (hd := by omega) (hC := hC10) (o_me := o_me) (t_me := t_me) (h_fu := by omega) (h_op := by omega)) (fun o V_q hq => ?_)
    obtain ⟨F13, rfl, rfl, hC14, hM15, -⟩ := hq
    have hM16 : Fq 0 [(2, 7), (2, 8), (2, 11), (20, -5), (21, -5)] m tg F F13 := Fq_t (ln := ln) (ln1 := ln) hM12 Ex_r hM15 (by decide) (Or.inl rfl)
    refine Or.inl ⟨rfl, ?_⟩
    refine jx_ld (pc_q := 32) (l_q := L0) (st_q := [rv (g)]) rfl (jl_rvn g2) ?_
    refine cx_gr (pc_q := 35) (c := 7) (q := 5) (v := F (g) (5 : Int)) rfl rfl (by decide) (by decide) rfl rfl o_g t_g ((show F13 (g) (5 : Int) = F9 (g) (5 : Int) from hM15 _ _ o_g (own_z o_g) (by rw [t_g]; rfl)).trans (show F9 (g) (5 : Int) = F (g) (5 : Int) from hM11 _ _ o_g (own_z o_g) (by rw [t_g]; rfl))) ?_
    have y17 : F (g) (5 : Int) = 0 ∨ (own m (F (g) (5 : Int)) ∧ tg (F (g) (5 : Int)) = 8) := by have z := HC_r (c := 7) (q := 5) hC14 o_g t_g (by decide) rfl; rw [show F13 (g) ((5 : Nat) : Int) = F (g) (5 : Int) from ((show F13 (g) (5 : Int) = F9 (g) (5 : Int) from hM15 _ _ o_g (own_z o_g) (by rw [t_g]; rfl)).trans (show F9 (g) (5 : Int) = F (g) (5 : Int) from hM11 _ _ o_g (own_z o_g) (by rw [t_g]; rfl)))] at z; exact z
    refine cx_nul (pc_q := 38) (tg_q := 55) rfl rfl rfl (fun h18 => ?_) (fun h18 => ?_)
    · have _q := h18
      refine jx_rt (v := none) rfl rfl rfl rfl rfl rfl ?_
      exact ⟨F13, rfl, rfl, hC14, hM16, trivial⟩
    · have _q := h18
      have ho19 : own m (F (g) (5 : Int)) ∧ tg (F (g) (5 : Int)) = 8 := y17.resolve_left h18
      have k20 := SN_p (SN_c hC c_NT n_g (own_z o_g) (by omega)) h18
      refine jx_ld (pc_q := 39) (l_q := L0) (st_q := [rv (me)]) rfl (jl_rvn g1) ?_
      refine jx_ld (pc_q := 40) (l_q := L0) (st_q := [rv (g), rv (me)]) rfl (jl_rvn g2) ?_
      refine cx_gr (pc_q := 43) (c := 7) (q := 5) (v := F (g) (5 : Int)) rfl rfl (by decide) (by decide) rfl rfl o_g t_g ((show F13 (g) (5 : Int) = F9 (g) (5 : Int) from hM15 _ _ o_g (own_z o_g) (by rw [t_g]; rfl)).trans (show F9 (g) (5 : Int) = F (g) (5 : Int) from hM11 _ _ o_g (own_z o_g) (by rw [t_g]; rfl))) ?_
      refine cx_vi (c := 1) (a := me) (st := []) (as := [rv (F (g) (5 : Int))]) rfl rfl rfl o_me t_me (by decide) rfl ⟨rfl, rfl, (Nat.le_of_ble_eq_true rfl)⟩ rfl (k_LCoder_address (dd := d) (R := R) (m := m) (tg := tg) (ln := ln) (F := F13) (kk := (kk) - 1) (hE := fun _ => CVx_all X _) (me := me) (p := F (g) (5 : Int)) (hd := by omega) (hC := hC14) (o_me := o_me) (t_me := t_me) (y_p := (Or.inr ⟨ho19.1, ho19.2⟩)) (c_NT := NT_q hC c_NT hM16 rfl) (n_p := (SN_q (SN_w (SN_c hC c_NT n_g (own_z o_g) (by omega)) (by omega)) hM16 rfl rfl))) (fun o V_q hq => ?_)
      obtain ⟨F21, rfl, rfl, hC22, hM23, -⟩ := hq
      have hM24 : Fq 0 [(2, 7), (2, 8), (2, 11), (20, -5), (21, -5)] m tg F F21 := Fq_t (ln := ln) (ln1 := ln) hM16 Ex_r hM23 (by decide) (Or.inl rfl)
      refine Or.inl ⟨rfl, ?_⟩
      refine jx_ld (pc_q := 47) (l_q := L0) (st_q := [rv (me)]) rfl (jl_rvn g1) ?_
      refine jx_ar (pc_q := 49) (st_q := [.int (i32 (13)), rv (me)]) rfl rfl rfl rfl ?_
      refine jx_ld (pc_q := 50) (l_q := L0) (st_q := [.int (i32 (wd)), .int (i32 (13)), rv (me)]) rfl (jl_iloadn g3) ?_
      refine jx_ar (pc_q := 51) (st_q := [.int (i32 (1)), .int (i32 (wd)), .int (i32 (13)), rv (me)]) rfl rfl rfl rfl ?_
      refine jx_add (pc_q := 52) rfl rfl ?_
      obtain ⟨z25, ez25⟩ : ∃ q, q = (i32 ((wd + 1))).toInt := ⟨_, rfl⟩
      have bz25 : (-2147483648 : Int) ≤ z25 ∧ z25 ≤ 2147483647 := ez25 ▸ i32_rg _
      rw [show i32 ((wd + 1)) = i32 z25 by rw [ez25, i32_of]]
      clear ez25
      refine cx_vi (c := 1) (a := me) (st := []) (as := [.int (i32 (13)), .int (i32 (z25))]) rfl rfl rfl o_me t_me (by decide) rfl ⟨rfl, rfl, (Nat.le_of_ble_eq_true rfl)⟩ rfl (k_LCoder_emit (dd := d) (R := R) (m := m) (tg := tg) (ln := ln) (F := F21) (me := me) (fu := 13) (op := z25) (hd := by omega) (hC := hC22) (o_me := o_me) (t_me := t_me) (h_fu := by omega) (h_op := by omega)) (fun o V_q hq => ?_)
      obtain ⟨F26, rfl, rfl, hC27, hM28, -⟩ := hq
      have hM29 : Fq 0 [(2, 7), (2, 8), (2, 11), (20, -5), (21, -5)] m tg F F26 := Fq_t (ln := ln) (ln1 := ln) hM24 Ex_r hM28 (by decide) (Or.inl rfl)
      refine Or.inl ⟨rfl, ?_⟩
      refine jx_rt (v := none) rfl rfl rfl rfl rfl rfl ?_
      exact ⟨F26, rfl, rfl, hC27, hM29, trivial⟩
  · have _q := h6
    refine jx_ld (pc_q := 8) (l_q := L0) (st_q := [rv (me)]) rfl (jl_rvn g1) ?_
    refine jx_ar (pc_q := 9) (st_q := [.int (i32 (4)), rv (me)]) rfl rfl rfl rfl ?_
    refine jx_ar (pc_q := 10) (st_q := [.int (i32 (1)), .int (i32 (4)), rv (me)]) rfl rfl rfl rfl ?_
    refine cx_vi (c := 1) (a := me) (st := []) (as := [.int (i32 (4)), .int (i32 (1))]) rfl rfl rfl o_me t_me (by decide) rfl ⟨rfl, rfl, (Nat.le_of_ble_eq_true rfl)⟩ rfl (k_LCoder_emit (dd := d) (R := R) (m := m) (tg := tg) (ln := ln) (F := F) (me := me) (fu := 4) (op := 1) (hd := by omega) (hC := hC) (o_me := o_me) (t_me := t_me) (h_fu := by omega) (h_op := by omega)) (fun o V_q hq => ?_)
    obtain ⟨F30, rfl, rfl, hC31, hM32, -⟩ := hq
    have hM33 : Fq 0 [(2, 7), (2, 8), (2, 11), (20, -5), (21, -5)] m tg F F30 := Fq_t (ln := ln) (ln1 := ln) hM0 Ex_r hM32 (by decide) (Or.inl rfl)
    refine Or.inl ⟨rfl, ?_⟩
    refine jx_go (tg := 24) rfl rfl ?_
    refine jx_ld (pc_q := 25) (l_q := L0) (st_q := [rv (me)]) rfl (jl_rvn g1) ?_
    refine jx_ar (pc_q := 27) (st_q := [.int (i32 (13)), rv (me)]) rfl rfl rfl rfl ?_
    refine jx_ld (pc_q := 28) (l_q := L0) (st_q := [.int (i32 (wd)), .int (i32 (13)), rv (me)]) rfl (jl_iloadn g3) ?_
    refine cx_vi (c := 1) (a := me) (st := []) (as := [.int (i32 (13)), .int (i32 (wd))]) rfl rfl rfl o_me t_me (by decide) rfl ⟨rfl, rfl, (Nat.le_of_ble_eq_true rfl)⟩ rfl (k_LCoder_emit (dd := d) (R := R) (m := m) (tg := tg) (ln := ln) (F := F30) (me := me) (fu := 13) (op := wd) (hd := by omega) (hC := hC31) (o_me := o_me) (t_me := t_me) (h_fu := by omega) (h_op := by omega)) (fun o V_q hq => ?_)
    obtain ⟨F34, rfl, rfl, hC35, hM36, -⟩ := hq
    have hM37 : Fq 0 [(2, 7), (2, 8), (2, 11), (20, -5), (21, -5)] m tg F F34 := Fq_t (ln := ln) (ln1 := ln) hM33 Ex_r hM36 (by decide) (Or.inl rfl)
    refine Or.inl ⟨rfl, ?_⟩
    refine jx_ld (pc_q := 32) (l_q := L0) (st_q := [rv (g)]) rfl (jl_rvn g2) ?_
    refine cx_gr (pc_q := 35) (c := 7) (q := 5) (v := F (g) (5 : Int)) rfl rfl (by decide) (by decide) rfl rfl o_g t_g ((show F34 (g) (5 : Int) = F30 (g) (5 : Int) from hM36 _ _ o_g (own_z o_g) (by rw [t_g]; rfl)).trans (show F30 (g) (5 : Int) = F (g) (5 : Int) from hM32 _ _ o_g (own_z o_g) (by rw [t_g]; rfl))) ?_
    have y38 : F (g) (5 : Int) = 0 ∨ (own m (F (g) (5 : Int)) ∧ tg (F (g) (5 : Int)) = 8) := by have z := HC_r (c := 7) (q := 5) hC35 o_g t_g (by decide) rfl; rw [show F34 (g) ((5 : Nat) : Int) = F (g) (5 : Int) from ((show F34 (g) (5 : Int) = F30 (g) (5 : Int) from hM36 _ _ o_g (own_z o_g) (by rw [t_g]; rfl)).trans (show F30 (g) (5 : Int) = F (g) (5 : Int) from hM32 _ _ o_g (own_z o_g) (by rw [t_g]; rfl)))] at z; exact z
    refine cx_nul (pc_q := 38) (tg_q := 55) rfl rfl rfl (fun h39 => ?_) (fun h39 => ?_)
    · have _q := h39
      refine jx_rt (v := none) rfl rfl rfl rfl rfl rfl ?_
      exact ⟨F34, rfl, rfl, hC35, hM37, trivial⟩
    · have _q := h39
      have ho40 : own m (F (g) (5 : Int)) ∧ tg (F (g) (5 : Int)) = 8 := y38.resolve_left h39
      have k41 := SN_p (SN_c hC c_NT n_g (own_z o_g) (by omega)) h39
      refine jx_ld (pc_q := 39) (l_q := L0) (st_q := [rv (me)]) rfl (jl_rvn g1) ?_
      refine jx_ld (pc_q := 40) (l_q := L0) (st_q := [rv (g), rv (me)]) rfl (jl_rvn g2) ?_
      refine cx_gr (pc_q := 43) (c := 7) (q := 5) (v := F (g) (5 : Int)) rfl rfl (by decide) (by decide) rfl rfl o_g t_g ((show F34 (g) (5 : Int) = F30 (g) (5 : Int) from hM36 _ _ o_g (own_z o_g) (by rw [t_g]; rfl)).trans (show F30 (g) (5 : Int) = F (g) (5 : Int) from hM32 _ _ o_g (own_z o_g) (by rw [t_g]; rfl))) ?_
      refine cx_vi (c := 1) (a := me) (st := []) (as := [rv (F (g) (5 : Int))]) rfl rfl rfl o_me t_me (by decide) rfl ⟨rfl, rfl, (Nat.le_of_ble_eq_true rfl)⟩ rfl (k_LCoder_address (dd := d) (R := R) (m := m) (tg := tg) (ln := ln) (F := F34) (kk := (kk) - 1) (hE := fun _ => CVx_all X _) (me := me) (p := F (g) (5 : Int)) (hd := by omega) (hC := hC35) (o_me := o_me) (t_me := t_me) (y_p := (Or.inr ⟨ho40.1, ho40.2⟩)) (c_NT := NT_q hC c_NT hM37 rfl) (n_p := (SN_q (SN_w (SN_c hC c_NT n_g (own_z o_g) (by omega)) (by omega)) hM37 rfl rfl))) (fun o V_q hq => ?_)
      obtain ⟨F42, rfl, rfl, hC43, hM44, -⟩ := hq
      have hM45 : Fq 0 [(2, 7), (2, 8), (2, 11), (20, -5), (21, -5)] m tg F F42 := Fq_t (ln := ln) (ln1 := ln) hM37 Ex_r hM44 (by decide) (Or.inl rfl)
      refine Or.inl ⟨rfl, ?_⟩
      refine jx_ld (pc_q := 47) (l_q := L0) (st_q := [rv (me)]) rfl (jl_rvn g1) ?_
      refine jx_ar (pc_q := 49) (st_q := [.int (i32 (13)), rv (me)]) rfl rfl rfl rfl ?_
      refine jx_ld (pc_q := 50) (l_q := L0) (st_q := [.int (i32 (wd)), .int (i32 (13)), rv (me)]) rfl (jl_iloadn g3) ?_
      refine jx_ar (pc_q := 51) (st_q := [.int (i32 (1)), .int (i32 (wd)), .int (i32 (13)), rv (me)]) rfl rfl rfl rfl ?_
      refine jx_add (pc_q := 52) rfl rfl ?_
      obtain ⟨z46, ez46⟩ : ∃ q, q = (i32 ((wd + 1))).toInt := ⟨_, rfl⟩
      have bz46 : (-2147483648 : Int) ≤ z46 ∧ z46 ≤ 2147483647 := ez46 ▸ i32_rg _
      rw [show i32 ((wd + 1)) = i32 z46 by rw [ez46, i32_of]]
      clear ez46
      refine cx_vi (c := 1) (a := me) (st := []) (as := [.int (i32 (13)), .int (i32 (z46))]) rfl rfl rfl o_me t_me (by decide) rfl ⟨rfl, rfl, (Nat.le_of_ble_eq_true rfl)⟩ rfl (k_LCoder_emit (dd := d) (R := R) (m := m) (tg := tg) (ln := ln) (F := F42) (me := me) (fu := 13) (op := z46) (hd := by omega) (hC := hC43) (o_me := o_me) (t_me := t_me) (h_fu := by omega) (h_op := by omega)) (fun o V_q hq => ?_)
      obtain ⟨F47, rfl, rfl, hC48, hM49, -⟩ := hq
      have hM50 : Fq 0 [(2, 7), (2, 8), (2, 11), (20, -5), (21, -5)] m tg F F47 := Fq_t (ln := ln) (ln1 := ln) hM45 Ex_r hM49 (by decide) (Or.inl rfl)
      refine Or.inl ⟨rfl, ?_⟩
      refine jx_rt (v := none) rfl rfl rfl rfl rfl rfl ?_
      exact ⟨F47, rfl, rfl, hC48, hM50, trivial⟩
set_option maxRecDepth 20000 in
set_option maxHeartbeats 4000000 in
theorem k_LCoder_loadGuard {X : jX} {dd : Nat} {R : Nat → jC} {m : Nat} {tg ln : Int → Int} {F : Int → Int → Int} {me g wd oc os : Int} (hd : 3 ≤ dd) (hC : HC 0 m tg ln F) (o_me : own m me) (t_me : tg me = 2) (o_g : own m g) (t_g : tg g = 8) (h_wd : (-2147483648 : Int) ≤ wd ∧ wd ≤ 2147483647) (h_oc : (-2147483648 : Int) ≤ oc ∧ oc ≤ 2147483647) (h_os : (-2147483648 : Int) ≤ os ∧ os ≤ 2147483647) : wk X dd 78 [rv me, rv g, .int (i32 wd), .int (i32 oc), .int (i32 os)] (cV R m tg ln F) (fun o V_q => ∃ (F_q : Int → Int → Int), V_q = cV R m tg ln F_q ∧ o = .inl none ∧ HC 0 m tg ln F_q ∧ Fq 0 [(2, 7), (2, 11), (20, -5), (21, -5)] m tg F F_q ∧ True) := by
  obtain ⟨d, rfl⟩ : ∃ d, dd = d + 1 := ⟨dd - 1, by omega⟩
  refine wk_of (e := jm78) rfl (by rw [jS_r, jS_r, jS_i, jS_i, jS_i, jS_0]; exact Nat.le_of_ble_eq_true rfl) ?_
  rw [la_r, la_r, la_i, la_i, la_i, la_0]
  show wj X d jm78 (0, [(0, rv (me)), (1, rv (g)), (2, .int (i32 (wd))), (3, .int (i32 (oc))), (4, .int (i32 (os)))], [], cV R m tg ln F) _
  have hM0 : Fq 0 [(2, 7), (2, 11), (20, -5), (21, -5)] m tg F F := Fq_r
  obtain ⟨L0, eL0⟩ : ∃ q : jL, q = [(0, rv (me)), (1, rv (g)), (2, .int (i32 (wd))), (3, .int (i32 (oc))), (4, .int (i32 (os)))] := ⟨_, rfl⟩
  rw [← eL0]
  have g1 : jGet L0 0 = some (rv (me)) := eL0 ▸ (rfl : jGet [(0, rv (me)), (1, rv (g)), (2, .int (i32 (wd))), (3, .int (i32 (oc))), (4, .int (i32 (os)))] 0 = some (rv (me)))
  have g2 : jGet L0 1 = some (rv (g)) := eL0 ▸ (rfl : jGet [(0, rv (me)), (1, rv (g)), (2, .int (i32 (wd))), (3, .int (i32 (oc))), (4, .int (i32 (os)))] 1 = some (rv (g)))
  have g3 : jGet L0 2 = some (.int (i32 (wd))) := eL0 ▸ (rfl : jGet [(0, rv (me)), (1, rv (g)), (2, .int (i32 (wd))), (3, .int (i32 (oc))), (4, .int (i32 (os)))] 2 = some (.int (i32 (wd))))
  have g4 : jGet L0 3 = some (.int (i32 (oc))) := eL0 ▸ (rfl : jGet [(0, rv (me)), (1, rv (g)), (2, .int (i32 (wd))), (3, .int (i32 (oc))), (4, .int (i32 (os)))] 3 = some (.int (i32 (oc))))
  have g5 : jGet L0 4 = some (.int (i32 (os))) := eL0 ▸ (rfl : jGet [(0, rv (me)), (1, rv (g)), (2, .int (i32 (wd))), (3, .int (i32 (oc))), (4, .int (i32 (os)))] 4 = some (.int (i32 (os))))
  clear eL0
  refine jx_ld (pc_q := 1) (l_q := L0) (st_q := [rv (me)]) rfl (jl_rvn g1) ?_
  refine jx_ar (pc_q := 3) (st_q := [.int (i32 (7)), rv (me)]) rfl rfl rfl rfl ?_
  refine jx_ld (pc_q := 4) (l_q := L0) (st_q := [.int (i32 (wd)), .int (i32 (7)), rv (me)]) rfl (jl_iloadn g3) ?_
  refine cx_vi (c := 1) (a := me) (st := []) (as := [.int (i32 (7)), .int (i32 (wd))]) rfl rfl rfl o_me t_me (by decide) rfl ⟨rfl, rfl, (Nat.le_of_ble_eq_true rfl)⟩ rfl (k_LCoder_emit (dd := d) (R := R) (m := m) (tg := tg) (ln := ln) (F := F) (me := me) (fu := 7) (op := wd) (hd := by omega) (hC := hC) (o_me := o_me) (t_me := t_me) (h_fu := by omega) (h_op := by omega)) (fun o V_q hq => ?_)
  obtain ⟨F6, rfl, rfl, hC7, hM8, -⟩ := hq
  have hM9 : Fq 0 [(2, 7), (2, 11), (20, -5), (21, -5)] m tg F F6 := Fq_t (ln := ln) (ln1 := ln) hM0 Ex_r hM8 (by decide) (Or.inl rfl)
  refine Or.inl ⟨rfl, ?_⟩
  refine jx_ld (pc_q := 8) (l_q := L0) (st_q := [rv (g)]) rfl (jl_rvn g2) ?_
  refine cx_gr (pc_q := 11) (c := 7) (q := 5) (v := F (g) (5 : Int)) rfl rfl (by decide) (by decide) rfl rfl o_g t_g (show F6 (g) (5 : Int) = F (g) (5 : Int) from hM8 _ _ o_g (own_z o_g) (by rw [t_g]; rfl)) ?_
  have y10 : F (g) (5 : Int) = 0 ∨ (own m (F (g) (5 : Int)) ∧ tg (F (g) (5 : Int)) = 8) := by have z := HC_r (c := 7) (q := 5) hC7 o_g t_g (by decide) rfl; rw [show F6 (g) ((5 : Nat) : Int) = F (g) (5 : Int) from (show F6 (g) (5 : Int) = F (g) (5 : Int) from hM8 _ _ o_g (own_z o_g) (by rw [t_g]; rfl))] at z; exact z
  refine cx_nul (pc_q := 14) (tg_q := 23) rfl rfl rfl (fun h11 => ?_) (fun h11 => ?_)
  · have _q := h11
    refine jx_ld (pc_q := 24) (l_q := L0) (st_q := [rv (me)]) rfl (jl_rvn g1) ?_
    refine jx_ld (pc_q := 25) (l_q := L0) (st_q := [rv (g), rv (me)]) rfl (jl_rvn g2) ?_
    refine cx_gr (pc_q := 28) (c := 7) (q := 5) (v := F (g) (5 : Int)) rfl rfl (by decide) (by decide) rfl rfl o_g t_g (show F6 (g) (5 : Int) = F (g) (5 : Int) from hM8 _ _ o_g (own_z o_g) (by rw [t_g]; rfl)) ?_
    refine cx_nul (pc_q := 31) (tg_q := 35) rfl rfl rfl (fun h12 => ?_) (fun h12 => ?_)
    · have _q := h12
      refine jx_ld (pc_q := 37) (l_q := L0) (st_q := [.int (i32 (os)), rv (me)]) rfl (jl_iload g5) ?_
      refine cx_vi (c := 1) (a := me) (st := []) (as := [.int (i32 (os))]) rfl rfl rfl o_me t_me (by decide) rfl ⟨rfl, rfl, (Nat.le_of_ble_eq_true rfl)⟩ rfl (k_LCoder_operation (dd := d) (R := R) (m := m) (tg := tg) (ln := ln) (F := F6) (me := me) (op := os) (hd := by omega) (hC := hC7) (o_me := o_me) (t_me := t_me) (h_op := by omega)) (fun o V_q hq => ?_)
      obtain ⟨F13, rfl, rfl, hC14, hM15, -⟩ := hq
      have hM16 : Fq 0 [(2, 7), (2, 11), (20, -5), (21, -5)] m tg F F13 := Fq_t (ln := ln) (ln1 := ln) hM9 Ex_r hM15 (by decide) (Or.inl rfl)
      refine Or.inl ⟨rfl, ?_⟩
      refine jx_rt (v := none) rfl rfl rfl rfl rfl rfl ?_
      exact ⟨F13, rfl, rfl, hC14, hM16, trivial⟩
    · have _q := h12
      have ho17 : own m (F (g) (5 : Int)) ∧ tg (F (g) (5 : Int)) = 8 := y10.resolve_left h12
      refine jx_ld (pc_q := 32) (l_q := L0) (st_q := [.int (i32 (oc)), rv (me)]) rfl (jl_iloadn g4) ?_
      refine jx_go (tg := 37) rfl rfl ?_
      refine cx_vi (c := 1) (a := me) (st := []) (as := [.int (i32 (oc))]) rfl rfl rfl o_me t_me (by decide) rfl ⟨rfl, rfl, (Nat.le_of_ble_eq_true rfl)⟩ rfl (k_LCoder_operation (dd := d) (R := R) (m := m) (tg := tg) (ln := ln) (F := F6) (me := me) (op := oc) (hd := by omega) (hC := hC7) (o_me := o_me) (t_me := t_me) (h_op := by omega)) (fun o V_q hq => ?_)
      obtain ⟨F18, rfl, rfl, hC19, hM20, -⟩ := hq
      have hM21 : Fq 0 [(2, 7), (2, 11), (20, -5), (21, -5)] m tg F F18 := Fq_t (ln := ln) (ln1 := ln) hM9 Ex_r hM20 (by decide) (Or.inl rfl)
      refine Or.inl ⟨rfl, ?_⟩
      refine jx_rt (v := none) rfl rfl rfl rfl rfl rfl ?_
      exact ⟨F18, rfl, rfl, hC19, hM21, trivial⟩
  · have _q := h11
    have ho22 : own m (F (g) (5 : Int)) ∧ tg (F (g) (5 : Int)) = 8 := y10.resolve_left h11
    refine jx_ld (pc_q := 15) (l_q := L0) (st_q := [rv (me)]) rfl (jl_rvn g1) ?_
    refine jx_ar (pc_q := 17) (st_q := [.int (i32 (7)), rv (me)]) rfl rfl rfl rfl ?_
    refine jx_ld (pc_q := 18) (l_q := L0) (st_q := [.int (i32 (wd)), .int (i32 (7)), rv (me)]) rfl (jl_iloadn g3) ?_
    refine jx_ar (pc_q := 19) (st_q := [.int (i32 (1)), .int (i32 (wd)), .int (i32 (7)), rv (me)]) rfl rfl rfl rfl ?_
    refine jx_add (pc_q := 20) rfl rfl ?_
    obtain ⟨z23, ez23⟩ : ∃ q, q = (i32 ((wd + 1))).toInt := ⟨_, rfl⟩
    have bz23 : (-2147483648 : Int) ≤ z23 ∧ z23 ≤ 2147483647 := ez23 ▸ i32_rg _
    rw [show i32 ((wd + 1)) = i32 z23 by rw [ez23, i32_of]]
    clear ez23
    refine cx_vi (c := 1) (a := me) (st := []) (as := [.int (i32 (7)), .int (i32 (z23))]) rfl rfl rfl o_me t_me (by decide) rfl ⟨rfl, rfl, (Nat.le_of_ble_eq_true rfl)⟩ rfl (k_LCoder_emit (dd := d) (R := R) (m := m) (tg := tg) (ln := ln) (F := F6) (me := me) (fu := 7) (op := z23) (hd := by omega) (hC := hC7) (o_me := o_me) (t_me := t_me) (h_fu := by omega) (h_op := by omega)) (fun o V_q hq => ?_)
    obtain ⟨F24, rfl, rfl, hC25, hM26, -⟩ := hq
    have hM27 : Fq 0 [(2, 7), (2, 11), (20, -5), (21, -5)] m tg F F24 := Fq_t (ln := ln) (ln1 := ln) hM9 Ex_r hM26 (by decide) (Or.inl rfl)
    refine Or.inl ⟨rfl, ?_⟩
    refine jx_ld (pc_q := 24) (l_q := L0) (st_q := [rv (me)]) rfl (jl_rvn g1) ?_
    refine jx_ld (pc_q := 25) (l_q := L0) (st_q := [rv (g), rv (me)]) rfl (jl_rvn g2) ?_
    refine cx_gr (pc_q := 28) (c := 7) (q := 5) (v := F (g) (5 : Int)) rfl rfl (by decide) (by decide) rfl rfl o_g t_g ((show F24 (g) (5 : Int) = F6 (g) (5 : Int) from hM26 _ _ o_g (own_z o_g) (by rw [t_g]; rfl)).trans (show F6 (g) (5 : Int) = F (g) (5 : Int) from hM8 _ _ o_g (own_z o_g) (by rw [t_g]; rfl))) ?_
    refine cx_nul (pc_q := 31) (tg_q := 35) rfl rfl rfl (fun h28 => ?_) (fun h28 => ?_)
    · have _q := h28
      exact absurd h28 (by have := ho22.1.1; omega)
    · have _q := h28
      refine jx_ld (pc_q := 32) (l_q := L0) (st_q := [.int (i32 (oc)), rv (me)]) rfl (jl_iloadn g4) ?_
      refine jx_go (tg := 37) rfl rfl ?_
      refine cx_vi (c := 1) (a := me) (st := []) (as := [.int (i32 (oc))]) rfl rfl rfl o_me t_me (by decide) rfl ⟨rfl, rfl, (Nat.le_of_ble_eq_true rfl)⟩ rfl (k_LCoder_operation (dd := d) (R := R) (m := m) (tg := tg) (ln := ln) (F := F24) (me := me) (op := oc) (hd := by omega) (hC := hC25) (o_me := o_me) (t_me := t_me) (h_op := by omega)) (fun o V_q hq => ?_)
      obtain ⟨F29, rfl, rfl, hC30, hM31, -⟩ := hq
      have hM32 : Fq 0 [(2, 7), (2, 11), (20, -5), (21, -5)] m tg F F29 := Fq_t (ln := ln) (ln1 := ln) hM27 Ex_r hM31 (by decide) (Or.inl rfl)
      refine Or.inl ⟨rfl, ?_⟩
      refine jx_rt (v := none) rfl rfl rfl rfl rfl rfl ?_
      exact ⟨F29, rfl, rfl, hC30, hM32, trivial⟩
set_option maxRecDepth 20000 in
set_option maxHeartbeats 4000000 in
theorem k_LCoder_startBranches_at_10 {X : jX} {kk : Nat} {d : Nat} {R : Nat → jC} {m : Nat} {tg ln : Int → Int} {F : Int → Int → Int} {me p : Int} (hd : 3 * kk + 10 ≤ d + 1) (hC : HC 0 m tg ln F) (o_me : own m me) (t_me : tg me = 2) (o_p : own m p) (t_p : tg p = 8) (c_NT : NT m tg F) (n_p : SN m tg F p (kk)) : ∀ (mm : Nat) (L : jL) (Fx : Int → Int → Int) (be k b : Int), (2147483647 - k).toNat = mm → jGet L 0 = some (rv (me)) → jGet L 1 = some (rv (p)) → jGet L 2 = some (.int (i32 be)) → jGet L 4 = some (.int (i32 k)) → jGet L 3 = some (rv b) → HC 0 m tg ln Fx → Fq 0 [(2, 7), (2, 8), (2, 11), (20, -5), (21, -5)] m tg F Fx → ((-2147483648 : Int) ≤ be ∧ be ≤ 2147483647) → ((-2147483648 : Int) ≤ k ∧ k ≤ 2147483647) → (b = 0 ∨ (own m b ∧ tg b = 8)) → (0 ≤ k) → (SN m tg F b (kk - 1)) → wj X d jm74 (10, L, [], cV R m tg ln Fx) (fun o V_q => ∃ (F_q : Int → Int → Int), V_q = cV R m tg ln F_q ∧ o = .inl none ∧ HC 0 m tg ln F_q ∧ Fq 0 [(2, 7), (2, 8), (2, 11), (20, -5), (21, -5)] m tg F F_q ∧ True) := by
  intro mm
  induction mm using Nat.strongRecOn with
  | ind mm ih =>
    intro L Fx be k b hmm gL_0 gL_1 gL_2 gL_4 gL_3 hCx hMx rx_be rx_k yx_b iv_0 sx_b
    have k1 := SN_p n_p (own_z o_p)
    refine jx_ld (pc_q := 12) (l_q := L) (st_q := [.int (i32 (k))]) rfl (jl_iload gL_4) ?_
    refine jx_ld (pc_q := 13) (l_q := L) (st_q := [rv (p), .int (i32 (k))]) rfl (jl_rvn gL_1) ?_
    refine cx_gi (pc_q := 16) (c := 7) (q := 2) (v := F (p) (2 : Int)) rfl rfl (by decide) (by decide) (Or.inl rfl) rfl o_p t_p (show Fx (p) (2 : Int) = F (p) (2 : Int) from hMx _ _ o_p (own_z o_p) (by rw [t_p]; rfl)) ?_
    have b2 : (-2147483648 : Int) ≤ F (p) (2 : Int) ∧ F (p) (2 : Int) ≤ 2147483647 := by have z := HC_i (c := 7) (q := 2) hCx o_p t_p (by decide) rfl; rw [show Fx (p) ((2 : Nat) : Int) = F (p) (2 : Int) from (show Fx (p) (2 : Int) = F (p) (2 : Int) from hMx _ _ o_p (own_z o_p) (by rw [t_p]; rfl))] at z; exact z
    refine jx_icmp_ge (pc_q := 19) (tg := 115) rfl rfl rfl (by omega) (by omega) (by omega) (by omega) (fun h3 => ?_) (fun h3 => ?_)
    · have _q := h3
      refine jx_rt (v := none) rfl rfl rfl rfl rfl rfl ?_
      exact ⟨Fx, rfl, rfl, hCx, hMx, trivial⟩
    · have _q := h3
      refine jx_ld (pc_q := 20) (l_q := L) (st_q := [rv (b)]) rfl (jl_rvn gL_3) ?_
      refine cx_nul (pc_q := 23) (tg_q := 115) rfl rfl rfl (fun h4 => ?_) (fun h4 => ?_)
      · have _q := h4
        refine jx_rt (v := none) rfl rfl rfl rfl rfl rfl ?_
        exact ⟨Fx, rfl, rfl, hCx, hMx, trivial⟩
      · have _q := h4
        have ho5 : own m (b) ∧ tg (b) = 8 := yx_b.resolve_left h4
        have k6 := SN_p sx_b h4
        refine jx_ld (pc_q := 24) (l_q := L) (st_q := [rv (me)]) rfl (jl_rvn gL_0) ?_
        refine jx_ar (pc_q := 25) (st_q := [.int (i32 (4)), rv (me)]) rfl rfl rfl rfl ?_
        refine jx_ld (pc_q := 26) (l_q := L) (st_q := [rv (me), .int (i32 (4)), rv (me)]) rfl (jl_rvn gL_0) ?_
        refine cx_vi (c := 1) (a := me) (st := [.int (i32 (4)), rv (me)]) (as := []) rfl rfl rfl o_me t_me (by decide) rfl ⟨rfl, rfl, (by rw [jS_i, jS_r, jS_0]; exact Nat.le_of_ble_eq_true rfl)⟩ rfl (k_LCoder_newLabel (dd := d) (R := R) (m := m) (tg := tg) (ln := ln) (F := Fx) (me := me) (hd := by omega) (hC := hCx) (o_me := o_me) (t_me := t_me)) (fun o V_q hq => ?_)
        obtain ⟨F7, r8, rfl, rfl, hC9, hM10, b11, -⟩ := hq
        have hM12 : Fq 0 [(2, 7), (2, 8), (2, 11), (20, -5), (21, -5)] m tg F F7 := Fq_t (ln := ln) (ln1 := ln) hMx Ex_r hM10 (by decide) (Or.inl rfl)
        refine Or.inr (Or.inl ⟨_, rfl, ?_⟩)
        refine jx_ar (pc_q := 31) (st_q := [.int (i32 (-2)), .int (i32 (r8)), .int (i32 (4)), rv (me)]) rfl rfl rfl rfl ?_
        refine cx_vi (c := 1) (a := me) (st := []) (as := [.int (i32 (4)), .int (i32 (r8)), .int (i32 (-2))]) rfl rfl rfl o_me t_me (by decide) rfl ⟨rfl, rfl, (Nat.le_of_ble_eq_true rfl)⟩ rfl (k_LCoder_way (dd := d) (R := R) (m := m) (tg := tg) (ln := ln) (F := F7) (me := me) (fu := 4) (lb := r8) (og := -2) (hd := by omega) (hC := hC9) (o_me := o_me) (t_me := t_me) (h_fu := by omega) (h_lb := by omega) (h_og := by omega)) (fun o V_q hq => ?_)
        obtain ⟨F13, rfl, rfl, hC14, hM15, -⟩ := hq
        have hM16 : Fq 0 [(2, 7), (2, 8), (2, 11), (20, -5), (21, -5)] m tg F F13 := Fq_t (ln := ln) (ln1 := ln) hM12 Ex_r hM15 (by decide) (Or.inl rfl)
        refine Or.inl ⟨rfl, ?_⟩
        refine jx_ld (pc_q := 35) (l_q := L) (st_q := [rv (me)]) rfl (jl_rvn gL_0) ?_
        refine jx_ar (pc_q := 37) (st_q := [.int (i32 (13)), rv (me)]) rfl rfl rfl rfl ?_
        refine cx_vi (c := 1) (a := me) (st := []) (as := [.int (i32 (13))]) rfl rfl rfl o_me t_me (by decide) rfl ⟨rfl, rfl, (Nat.le_of_ble_eq_true rfl)⟩ rfl (k_LCoder_operation (dd := d) (R := R) (m := m) (tg := tg) (ln := ln) (F := F13) (me := me) (op := 13) (hd := by omega) (hC := hC14) (o_me := o_me) (t_me := t_me) (h_op := by omega)) (fun o V_q hq => ?_)
        obtain ⟨F17, rfl, rfl, hC18, hM19, -⟩ := hq
        have hM20 : Fq 0 [(2, 7), (2, 8), (2, 11), (20, -5), (21, -5)] m tg F F17 := Fq_t (ln := ln) (ln1 := ln) hM16 Ex_r hM19 (by decide) (Or.inl rfl)
        refine Or.inl ⟨rfl, ?_⟩
        refine jx_ld (pc_q := 41) (l_q := L) (st_q := [rv (me)]) rfl (jl_rvn gL_0) ?_
        refine jx_ar (pc_q := 42) (st_q := [.int (i32 (1)), rv (me)]) rfl rfl rfl rfl ?_
        refine jx_ld (pc_q := 43) (l_q := L) (st_q := [.int (i32 (be)), .int (i32 (1)), rv (me)]) rfl (jl_iloadn gL_2) ?_
        refine jx_ld (pc_q := 44) (l_q := L) (st_q := [rv (b), .int (i32 (be)), .int (i32 (1)), rv (me)]) rfl (jl_rvn gL_3) ?_
        refine cx_gi (pc_q := 47) (c := 7) (q := 11) (v := F (b) (11 : Int)) rfl rfl (by decide) (by decide) (Or.inl rfl) rfl ho5.1 ho5.2 ((show F17 (b) (11 : Int) = F13 (b) (11 : Int) from hM19 _ _ ho5.1 (own_z ho5.1) (by rw [ho5.2]; rfl)).trans ((show F13 (b) (11 : Int) = F7 (b) (11 : Int) from hM15 _ _ ho5.1 (own_z ho5.1) (by rw [ho5.2]; rfl)).trans ((show F7 (b) (11 : Int) = Fx (b) (11 : Int) from hM10 _ _ ho5.1 (own_z ho5.1) (by rw [ho5.2]; rfl)).trans (show Fx (b) (11 : Int) = F (b) (11 : Int) from hMx _ _ ho5.1 (own_z ho5.1) (by rw [ho5.2]; rfl))))) ?_
        have b21 : (-2147483648 : Int) ≤ F (b) (11 : Int) ∧ F (b) (11 : Int) ≤ 2147483647 := by have z := HC_i (c := 7) (q := 11) hC18 ho5.1 ho5.2 (by decide) rfl; rw [show F17 (b) ((11 : Nat) : Int) = F (b) (11 : Int) from ((show F17 (b) (11 : Int) = F13 (b) (11 : Int) from hM19 _ _ ho5.1 (own_z ho5.1) (by rw [ho5.2]; rfl)).trans ((show F13 (b) (11 : Int) = F7 (b) (11 : Int) from hM15 _ _ ho5.1 (own_z ho5.1) (by rw [ho5.2]; rfl)).trans ((show F7 (b) (11 : Int) = Fx (b) (11 : Int) from hM10 _ _ ho5.1 (own_z ho5.1) (by rw [ho5.2]; rfl)).trans (show Fx (b) (11 : Int) = F (b) (11 : Int) from hMx _ _ ho5.1 (own_z ho5.1) (by rw [ho5.2]; rfl)))))] at z; exact z
        refine jx_add (pc_q := 48) rfl rfl ?_
        obtain ⟨z22, ez22⟩ : ∃ q, q = (i32 ((be + F (b) (11 : Int)))).toInt := ⟨_, rfl⟩
        have bz22 : (-2147483648 : Int) ≤ z22 ∧ z22 ≤ 2147483647 := ez22 ▸ i32_rg _
        rw [show i32 ((be + F (b) (11 : Int))) = i32 z22 by rw [ez22, i32_of]]
        clear ez22
        refine jx_neg (pc_q := 49) rfl rfl ?_
        obtain ⟨z23, ez23⟩ : ∃ q, q = (i32 ((-z22))).toInt := ⟨_, rfl⟩
        have bz23 : (-2147483648 : Int) ≤ z23 ∧ z23 ≤ 2147483647 := ez23 ▸ i32_rg _
        rw [show i32 ((-z22)) = i32 z23 by rw [ez23, i32_of]]
        clear ez23
        refine cx_vi (c := 1) (a := me) (st := []) (as := [.int (i32 (1)), .int (i32 (z23))]) rfl rfl rfl o_me t_me (by decide) rfl ⟨rfl, rfl, (Nat.le_of_ble_eq_true rfl)⟩ rfl (k_LCoder_emit (dd := d) (R := R) (m := m) (tg := tg) (ln := ln) (F := F17) (me := me) (fu := 1) (op := z23) (hd := by omega) (hC := hC18) (o_me := o_me) (t_me := t_me) (h_fu := by omega) (h_op := by omega)) (fun o V_q hq => ?_)
        obtain ⟨F24, rfl, rfl, hC25, hM26, -⟩ := hq
        have hM27 : Fq 0 [(2, 7), (2, 8), (2, 11), (20, -5), (21, -5)] m tg F F24 := Fq_t (ln := ln) (ln1 := ln) hM20 Ex_r hM26 (by decide) (Or.inl rfl)
        refine Or.inl ⟨rfl, ?_⟩
        refine jx_ld (pc_q := 53) (l_q := L) (st_q := [rv (me)]) rfl (jl_rvn gL_0) ?_
        refine jx_ld (pc_q := 54) (l_q := L) (st_q := [rv (p), rv (me)]) rfl (jl_rvn gL_1) ?_
        refine cx_gi (pc_q := 57) (c := 7) (q := 0) (v := F (p) (0 : Int)) rfl rfl (by decide) (by decide) (Or.inl rfl) rfl o_p t_p ((show F24 (p) (0 : Int) = F17 (p) (0 : Int) from hM26 _ _ o_p (own_z o_p) (by rw [t_p]; rfl)).trans ((show F17 (p) (0 : Int) = F13 (p) (0 : Int) from hM19 _ _ o_p (own_z o_p) (by rw [t_p]; rfl)).trans ((show F13 (p) (0 : Int) = F7 (p) (0 : Int) from hM15 _ _ o_p (own_z o_p) (by rw [t_p]; rfl)).trans ((show F7 (p) (0 : Int) = Fx (p) (0 : Int) from hM10 _ _ o_p (own_z o_p) (by rw [t_p]; rfl)).trans (show Fx (p) (0 : Int) = F (p) (0 : Int) from hMx _ _ o_p (own_z o_p) (by rw [t_p]; rfl)))))) ?_
        have b28 : (-2147483648 : Int) ≤ F (p) (0 : Int) ∧ F (p) (0 : Int) ≤ 2147483647 := by have z := HC_i (c := 7) (q := 0) hC25 o_p t_p (by decide) rfl; rw [show F24 (p) ((0 : Nat) : Int) = F (p) (0 : Int) from ((show F24 (p) (0 : Int) = F17 (p) (0 : Int) from hM26 _ _ o_p (own_z o_p) (by rw [t_p]; rfl)).trans ((show F17 (p) (0 : Int) = F13 (p) (0 : Int) from hM19 _ _ o_p (own_z o_p) (by rw [t_p]; rfl)).trans ((show F13 (p) (0 : Int) = F7 (p) (0 : Int) from hM15 _ _ o_p (own_z o_p) (by rw [t_p]; rfl)).trans ((show F7 (p) (0 : Int) = Fx (p) (0 : Int) from hM10 _ _ o_p (own_z o_p) (by rw [t_p]; rfl)).trans (show Fx (p) (0 : Int) = F (p) (0 : Int) from hMx _ _ o_p (own_z o_p) (by rw [t_p]; rfl))))))] at z; exact z
        refine jx_ar (pc_q := 59) (st_q := [.int (i32 (9)), .int (i32 (F (p) (0 : Int))), rv (me)]) rfl rfl rfl rfl ?_
        refine jx_icmp_ne (pc_q := 62) (tg := 72) rfl rfl rfl (by omega) (by omega) (by decide) (by decide) (fun h29 => ?_) (fun h29 => ?_)
        · have _q := h29
          refine jx_ar (pc_q := 74) (st_q := [.int (i32 (15)), rv (me)]) rfl rfl rfl rfl ?_
          refine cx_vi (c := 1) (a := me) (st := []) (as := [.int (i32 (15))]) rfl rfl rfl o_me t_me (by decide) rfl ⟨rfl, rfl, (Nat.le_of_ble_eq_true rfl)⟩ rfl (k_LCoder_operation (dd := d) (R := R) (m := m) (tg := tg) (ln := ln) (F := F24) (me := me) (op := 15) (hd := by omega) (hC := hC25) (o_me := o_me) (t_me := t_me) (h_op := by omega)) (fun o V_q hq => ?_)
          obtain ⟨F30, rfl, rfl, hC31, hM32, -⟩ := hq
          have hM33 : Fq 0 [(2, 7), (2, 8), (2, 11), (20, -5), (21, -5)] m tg F F30 := Fq_t (ln := ln) (ln1 := ln) hM27 Ex_r hM32 (by decide) (Or.inl rfl)
          refine Or.inl ⟨rfl, ?_⟩
          refine jx_ld (pc_q := 78) (l_q := L) (st_q := [.int (i32 (be))]) rfl (jl_iloadn gL_2) ?_
          refine jx_ld (pc_q := 79) (l_q := L) (st_q := [rv (b), .int (i32 (be))]) rfl (jl_rvn gL_3) ?_
          refine cx_gi (pc_q := 82) (c := 7) (q := 11) (v := F (b) (11 : Int)) rfl rfl (by decide) (by decide) (Or.inl rfl) rfl ho5.1 ho5.2 ((show F30 (b) (11 : Int) = F24 (b) (11 : Int) from hM32 _ _ ho5.1 (own_z ho5.1) (by rw [ho5.2]; rfl)).trans ((show F24 (b) (11 : Int) = F17 (b) (11 : Int) from hM26 _ _ ho5.1 (own_z ho5.1) (by rw [ho5.2]; rfl)).trans ((show F17 (b) (11 : Int) = F13 (b) (11 : Int) from hM19 _ _ ho5.1 (own_z ho5.1) (by rw [ho5.2]; rfl)).trans ((show F13 (b) (11 : Int) = F7 (b) (11 : Int) from hM15 _ _ ho5.1 (own_z ho5.1) (by rw [ho5.2]; rfl)).trans ((show F7 (b) (11 : Int) = Fx (b) (11 : Int) from hM10 _ _ ho5.1 (own_z ho5.1) (by rw [ho5.2]; rfl)).trans (show Fx (b) (11 : Int) = F (b) (11 : Int) from hMx _ _ ho5.1 (own_z ho5.1) (by rw [ho5.2]; rfl))))))) ?_
          refine jx_ld (pc_q := 83) (l_q := L) (st_q := [rv (b), .int (i32 (F (b) (11 : Int))), .int (i32 (be))]) rfl (jl_rvn gL_3) ?_
          refine cx_gi (pc_q := 86) (c := 7) (q := 12) (v := F (b) (12 : Int)) rfl rfl (by decide) (by decide) (Or.inl rfl) rfl ho5.1 ho5.2 ((show F30 (b) (12 : Int) = F24 (b) (12 : Int) from hM32 _ _ ho5.1 (own_z ho5.1) (by rw [ho5.2]; rfl)).trans ((show F24 (b) (12 : Int) = F17 (b) (12 : Int) from hM26 _ _ ho5.1 (own_z ho5.1) (by rw [ho5.2]; rfl)).trans ((show F17 (b) (12 : Int) = F13 (b) (12 : Int) from hM19 _ _ ho5.1 (own_z ho5.1) (by rw [ho5.2]; rfl)).trans ((show F13 (b) (12 : Int) = F7 (b) (12 : Int) from hM15 _ _ ho5.1 (own_z ho5.1) (by rw [ho5.2]; rfl)).trans ((show F7 (b) (12 : Int) = Fx (b) (12 : Int) from hM10 _ _ ho5.1 (own_z ho5.1) (by rw [ho5.2]; rfl)).trans (show Fx (b) (12 : Int) = F (b) (12 : Int) from hMx _ _ ho5.1 (own_z ho5.1) (by rw [ho5.2]; rfl))))))) ?_
          have b34 : (-2147483648 : Int) ≤ F (b) (12 : Int) ∧ F (b) (12 : Int) ≤ 2147483647 := by have z := HC_i (c := 7) (q := 12) hC31 ho5.1 ho5.2 (by decide) rfl; rw [show F30 (b) ((12 : Nat) : Int) = F (b) (12 : Int) from ((show F30 (b) (12 : Int) = F24 (b) (12 : Int) from hM32 _ _ ho5.1 (own_z ho5.1) (by rw [ho5.2]; rfl)).trans ((show F24 (b) (12 : Int) = F17 (b) (12 : Int) from hM26 _ _ ho5.1 (own_z ho5.1) (by rw [ho5.2]; rfl)).trans ((show F17 (b) (12 : Int) = F13 (b) (12 : Int) from hM19 _ _ ho5.1 (own_z ho5.1) (by rw [ho5.2]; rfl)).trans ((show F13 (b) (12 : Int) = F7 (b) (12 : Int) from hM15 _ _ ho5.1 (own_z ho5.1) (by rw [ho5.2]; rfl)).trans ((show F7 (b) (12 : Int) = Fx (b) (12 : Int) from hM10 _ _ ho5.1 (own_z ho5.1) (by rw [ho5.2]; rfl)).trans (show Fx (b) (12 : Int) = F (b) (12 : Int) from hMx _ _ ho5.1 (own_z ho5.1) (by rw [ho5.2]; rfl)))))))] at z; exact z
          refine jx_add (pc_q := 87) rfl rfl ?_
          obtain ⟨z35, ez35⟩ : ∃ q, q = (i32 ((F (b) (11 : Int) + F (b) (12 : Int)))).toInt := ⟨_, rfl⟩
          have bz35 : (-2147483648 : Int) ≤ z35 ∧ z35 ≤ 2147483647 := ez35 ▸ i32_rg _
          rw [show i32 ((F (b) (11 : Int) + F (b) (12 : Int))) = i32 z35 by rw [ez35, i32_of]]
          clear ez35
          refine jx_ar (pc_q := 88) (st_q := [.int (i32 (3)), .int (i32 (z35)), .int (i32 (be))]) rfl rfl rfl rfl ?_
          refine jx_add (pc_q := 89) rfl rfl ?_
          obtain ⟨z36, ez36⟩ : ∃ q, q = (i32 ((z35 + 3))).toInt := ⟨_, rfl⟩
          have bz36 : (-2147483648 : Int) ≤ z36 ∧ z36 ≤ 2147483647 := ez36 ▸ i32_rg _
          rw [show i32 ((z35 + 3)) = i32 z36 by rw [ez36, i32_of]]
          clear ez36
          refine jx_add (pc_q := 90) rfl rfl ?_
          obtain ⟨z37, ez37⟩ : ∃ q, q = (i32 ((be + z36))).toInt := ⟨_, rfl⟩
          have bz37 : (-2147483648 : Int) ≤ z37 ∧ z37 ≤ 2147483647 := ez37 ▸ i32_rg _
          rw [show i32 ((be + z36)) = i32 z37 by rw [ez37, i32_of]]
          clear ez37
          refine jx_ld (pc_q := 91) (l_q := jSto1 L 2 (.int (i32 (z37)))) (st_q := []) rfl rfl ?_
          obtain ⟨L38, eL38⟩ : ∃ q : jL, q = jSto1 L 2 (.int (i32 (z37))) := ⟨_, rfl⟩
          rw [← eL38]
          have g39 : jGet L38 0 = some (rv (me)) := eL38 ▸ jg_nr (by decide) gL_0
          have g40 : jGet L38 1 = some (rv (p)) := eL38 ▸ jg_nr (by decide) gL_1
          have g41 : jGet L38 4 = some (.int (i32 (k))) := eL38 ▸ jg_ne (by decide) gL_4 rfl
          have g42 : jGet L38 3 = some (rv (b)) := eL38 ▸ jg_nr (by decide) gL_3
          have g43 : jGet L38 2 = some (.int (i32 (z37))) := eL38 ▸ jg_eq
          clear eL38
          refine jx_ld (pc_q := 92) (l_q := L38) (st_q := [rv (p)]) rfl (jl_rvn g40) ?_
          refine cx_gi (pc_q := 95) (c := 7) (q := 0) (v := F (p) (0 : Int)) rfl rfl (by decide) (by decide) (Or.inl rfl) rfl o_p t_p ((show F30 (p) (0 : Int) = F24 (p) (0 : Int) from hM32 _ _ o_p (own_z o_p) (by rw [t_p]; rfl)).trans ((show F24 (p) (0 : Int) = F17 (p) (0 : Int) from hM26 _ _ o_p (own_z o_p) (by rw [t_p]; rfl)).trans ((show F17 (p) (0 : Int) = F13 (p) (0 : Int) from hM19 _ _ o_p (own_z o_p) (by rw [t_p]; rfl)).trans ((show F13 (p) (0 : Int) = F7 (p) (0 : Int) from hM15 _ _ o_p (own_z o_p) (by rw [t_p]; rfl)).trans ((show F7 (p) (0 : Int) = Fx (p) (0 : Int) from hM10 _ _ o_p (own_z o_p) (by rw [t_p]; rfl)).trans (show Fx (p) (0 : Int) = F (p) (0 : Int) from hMx _ _ o_p (own_z o_p) (by rw [t_p]; rfl))))))) ?_
          refine jx_ar (pc_q := 97) (st_q := [.int (i32 (10)), .int (i32 (F (p) (0 : Int)))]) rfl rfl rfl rfl ?_
          refine jx_icmp_ne (pc_q := 100) (tg := 104) rfl rfl rfl (by omega) (by omega) (by decide) (by decide) (fun h44 => ?_) (fun h44 => ?_)
          · have _q := h44
            refine jx_ld (pc_q := 105) (l_q := L38) (st_q := [rv (b)]) rfl (jl_rvn g42) ?_
            refine cx_gr (pc_q := 108) (c := 7) (q := 8) (v := F (b) (8 : Int)) rfl rfl (by decide) (by decide) rfl rfl ho5.1 ho5.2 ((show F30 (b) (8 : Int) = F24 (b) (8 : Int) from hM32 _ _ ho5.1 (own_z ho5.1) (by rw [ho5.2]; rfl)).trans ((show F24 (b) (8 : Int) = F17 (b) (8 : Int) from hM26 _ _ ho5.1 (own_z ho5.1) (by rw [ho5.2]; rfl)).trans ((show F17 (b) (8 : Int) = F13 (b) (8 : Int) from hM19 _ _ ho5.1 (own_z ho5.1) (by rw [ho5.2]; rfl)).trans ((show F13 (b) (8 : Int) = F7 (b) (8 : Int) from hM15 _ _ ho5.1 (own_z ho5.1) (by rw [ho5.2]; rfl)).trans ((show F7 (b) (8 : Int) = Fx (b) (8 : Int) from hM10 _ _ ho5.1 (own_z ho5.1) (by rw [ho5.2]; rfl)).trans (show Fx (b) (8 : Int) = F (b) (8 : Int) from hMx _ _ ho5.1 (own_z ho5.1) (by rw [ho5.2]; rfl))))))) ?_
            have y45 : F (b) (8 : Int) = 0 ∨ (own m (F (b) (8 : Int)) ∧ tg (F (b) (8 : Int)) = 8) := by have z := HC_r (c := 7) (q := 8) hC31 ho5.1 ho5.2 (by decide) rfl; rw [show F30 (b) ((8 : Nat) : Int) = F (b) (8 : Int) from ((show F30 (b) (8 : Int) = F24 (b) (8 : Int) from hM32 _ _ ho5.1 (own_z ho5.1) (by rw [ho5.2]; rfl)).trans ((show F24 (b) (8 : Int) = F17 (b) (8 : Int) from hM26 _ _ ho5.1 (own_z ho5.1) (by rw [ho5.2]; rfl)).trans ((show F17 (b) (8 : Int) = F13 (b) (8 : Int) from hM19 _ _ ho5.1 (own_z ho5.1) (by rw [ho5.2]; rfl)).trans ((show F13 (b) (8 : Int) = F7 (b) (8 : Int) from hM15 _ _ ho5.1 (own_z ho5.1) (by rw [ho5.2]; rfl)).trans ((show F7 (b) (8 : Int) = Fx (b) (8 : Int) from hM10 _ _ ho5.1 (own_z ho5.1) (by rw [ho5.2]; rfl)).trans (show Fx (b) (8 : Int) = F (b) (8 : Int) from hMx _ _ ho5.1 (own_z ho5.1) (by rw [ho5.2]; rfl)))))))] at z; exact z
            have z46 := mz_n hC c_NT sx_b (own_z ho5.1)
            refine jx_ld (pc_q := 109) (l_q := jSto1 L38 3 (rv (F (b) (8 : Int)))) (st_q := []) rfl (js_rvn (by decide)) ?_
            obtain ⟨L47, eL47⟩ : ∃ q : jL, q = jSto1 L38 3 (rv (F (b) (8 : Int))) := ⟨_, rfl⟩
            rw [← eL47]
            have g48 : jGet L47 0 = some (rv (me)) := eL47 ▸ jg_nr (by decide) g39
            have g49 : jGet L47 1 = some (rv (p)) := eL47 ▸ jg_nr (by decide) g40
            have g50 : jGet L47 4 = some (.int (i32 (k))) := eL47 ▸ jg_ne (by decide) g41 rfl
            have g51 : jGet L47 2 = some (.int (i32 (z37))) := eL47 ▸ jg_ne (by decide) g43 rfl
            have g52 : jGet L47 3 = some (rv (F (b) (8 : Int))) := eL47 ▸ jg_eq
            clear eL47
            refine jx_inc (pc_q := 112) (l_q := jSto1 L47 4 (.int (i32 (k + (1))))) (x := k) rfl g50 (by decide) rfl rfl ?_
            obtain ⟨L53, eL53⟩ : ∃ q : jL, q = jSto1 L47 4 (.int (i32 ((k + (1))))) := ⟨_, rfl⟩
            rw [← eL53]
            have g54 : jGet L53 0 = some (rv (me)) := eL53 ▸ jg_nr (by decide) g48
            have g55 : jGet L53 1 = some (rv (p)) := eL53 ▸ jg_nr (by decide) g49
            have g56 : jGet L53 2 = some (.int (i32 (z37))) := eL53 ▸ jg_ne (by decide) g51 rfl
            have g57 : jGet L53 3 = some (rv (F (b) (8 : Int))) := eL53 ▸ jg_nr (by decide) g52
            have g58 : jGet L53 4 = some (.int (i32 ((k + (1))))) := eL53 ▸ jg_eq
            clear eL53
            refine jx_go (tg := 10) rfl rfl ?_
            exact ih _ (by omega) L53 F30 (z37) ((k + (1))) (F (b) (8 : Int)) rfl g54 g55 g56 g58 g57 hC31 hM33 (by omega) (by omega) y45 (by omega) (SN_w (SN_n hC c_NT sx_b (own_z ho5.1)) (by omega))
          · have _q := h44
            refine jx_ld (pc_q := 101) (l_q := L38) (st_q := [rv (b)]) rfl (jl_rvn g42) ?_
            refine jx_go (tg := 108) rfl rfl ?_
            refine jx_ld (pc_q := 109) (l_q := jSto1 L38 3 (rv (b))) (st_q := []) rfl (js_rvn (by decide)) ?_
            obtain ⟨L59, eL59⟩ : ∃ q : jL, q = jSto1 L38 3 (rv (b)) := ⟨_, rfl⟩
            rw [← eL59]
            have g60 : jGet L59 0 = some (rv (me)) := eL59 ▸ jg_nr (by decide) g39
            have g61 : jGet L59 1 = some (rv (p)) := eL59 ▸ jg_nr (by decide) g40
            have g62 : jGet L59 4 = some (.int (i32 (k))) := eL59 ▸ jg_ne (by decide) g41 rfl
            have g63 : jGet L59 2 = some (.int (i32 (z37))) := eL59 ▸ jg_ne (by decide) g43 rfl
            have g64 : jGet L59 3 = some (rv (b)) := eL59 ▸ jg_eq
            clear eL59
            refine jx_inc (pc_q := 112) (l_q := jSto1 L59 4 (.int (i32 (k + (1))))) (x := k) rfl g62 (by decide) rfl rfl ?_
            obtain ⟨L65, eL65⟩ : ∃ q : jL, q = jSto1 L59 4 (.int (i32 ((k + (1))))) := ⟨_, rfl⟩
            rw [← eL65]
            have g66 : jGet L65 0 = some (rv (me)) := eL65 ▸ jg_nr (by decide) g60
            have g67 : jGet L65 1 = some (rv (p)) := eL65 ▸ jg_nr (by decide) g61
            have g68 : jGet L65 2 = some (.int (i32 (z37))) := eL65 ▸ jg_ne (by decide) g63 rfl
            have g69 : jGet L65 3 = some (rv (b)) := eL65 ▸ jg_nr (by decide) g64
            have g70 : jGet L65 4 = some (.int (i32 ((k + (1))))) := eL65 ▸ jg_eq
            clear eL65
            refine jx_go (tg := 10) rfl rfl ?_
            exact ih _ (by omega) L65 F30 (z37) ((k + (1))) (b) rfl g66 g67 g68 g70 g69 hC31 hM33 (by omega) (by omega) (Or.inr ⟨ho5.1, ho5.2⟩) (by omega) (SN_w sx_b (by omega))
        · have _q := h29
          refine jx_ld (pc_q := 64) (l_q := L) (st_q := [.int (i32 (k)), rv (me)]) rfl (jl_iload gL_4) ?_
          refine jx_if_ne (pc_q := 67) (tg := 72) rfl rfl rfl (by omega) (by omega) (fun h71 => ?_) (fun h71 => ?_)
          · have _q := h71
            refine jx_ar (pc_q := 74) (st_q := [.int (i32 (15)), rv (me)]) rfl rfl rfl rfl ?_
            refine cx_vi (c := 1) (a := me) (st := []) (as := [.int (i32 (15))]) rfl rfl rfl o_me t_me (by decide) rfl ⟨rfl, rfl, (Nat.le_of_ble_eq_true rfl)⟩ rfl (k_LCoder_operation (dd := d) (R := R) (m := m) (tg := tg) (ln := ln) (F := F24) (me := me) (op := 15) (hd := by omega) (hC := hC25) (o_me := o_me) (t_me := t_me) (h_op := by omega)) (fun o V_q hq => ?_)
            obtain ⟨F72, rfl, rfl, hC73, hM74, -⟩ := hq
            have hM75 : Fq 0 [(2, 7), (2, 8), (2, 11), (20, -5), (21, -5)] m tg F F72 := Fq_t (ln := ln) (ln1 := ln) hM27 Ex_r hM74 (by decide) (Or.inl rfl)
            refine Or.inl ⟨rfl, ?_⟩
            refine jx_ld (pc_q := 78) (l_q := L) (st_q := [.int (i32 (be))]) rfl (jl_iloadn gL_2) ?_
            refine jx_ld (pc_q := 79) (l_q := L) (st_q := [rv (b), .int (i32 (be))]) rfl (jl_rvn gL_3) ?_
            refine cx_gi (pc_q := 82) (c := 7) (q := 11) (v := F (b) (11 : Int)) rfl rfl (by decide) (by decide) (Or.inl rfl) rfl ho5.1 ho5.2 ((show F72 (b) (11 : Int) = F24 (b) (11 : Int) from hM74 _ _ ho5.1 (own_z ho5.1) (by rw [ho5.2]; rfl)).trans ((show F24 (b) (11 : Int) = F17 (b) (11 : Int) from hM26 _ _ ho5.1 (own_z ho5.1) (by rw [ho5.2]; rfl)).trans ((show F17 (b) (11 : Int) = F13 (b) (11 : Int) from hM19 _ _ ho5.1 (own_z ho5.1) (by rw [ho5.2]; rfl)).trans ((show F13 (b) (11 : Int) = F7 (b) (11 : Int) from hM15 _ _ ho5.1 (own_z ho5.1) (by rw [ho5.2]; rfl)).trans ((show F7 (b) (11 : Int) = Fx (b) (11 : Int) from hM10 _ _ ho5.1 (own_z ho5.1) (by rw [ho5.2]; rfl)).trans (show Fx (b) (11 : Int) = F (b) (11 : Int) from hMx _ _ ho5.1 (own_z ho5.1) (by rw [ho5.2]; rfl))))))) ?_
            refine jx_ld (pc_q := 83) (l_q := L) (st_q := [rv (b), .int (i32 (F (b) (11 : Int))), .int (i32 (be))]) rfl (jl_rvn gL_3) ?_
            refine cx_gi (pc_q := 86) (c := 7) (q := 12) (v := F (b) (12 : Int)) rfl rfl (by decide) (by decide) (Or.inl rfl) rfl ho5.1 ho5.2 ((show F72 (b) (12 : Int) = F24 (b) (12 : Int) from hM74 _ _ ho5.1 (own_z ho5.1) (by rw [ho5.2]; rfl)).trans ((show F24 (b) (12 : Int) = F17 (b) (12 : Int) from hM26 _ _ ho5.1 (own_z ho5.1) (by rw [ho5.2]; rfl)).trans ((show F17 (b) (12 : Int) = F13 (b) (12 : Int) from hM19 _ _ ho5.1 (own_z ho5.1) (by rw [ho5.2]; rfl)).trans ((show F13 (b) (12 : Int) = F7 (b) (12 : Int) from hM15 _ _ ho5.1 (own_z ho5.1) (by rw [ho5.2]; rfl)).trans ((show F7 (b) (12 : Int) = Fx (b) (12 : Int) from hM10 _ _ ho5.1 (own_z ho5.1) (by rw [ho5.2]; rfl)).trans (show Fx (b) (12 : Int) = F (b) (12 : Int) from hMx _ _ ho5.1 (own_z ho5.1) (by rw [ho5.2]; rfl))))))) ?_
            have b76 : (-2147483648 : Int) ≤ F (b) (12 : Int) ∧ F (b) (12 : Int) ≤ 2147483647 := by have z := HC_i (c := 7) (q := 12) hC73 ho5.1 ho5.2 (by decide) rfl; rw [show F72 (b) ((12 : Nat) : Int) = F (b) (12 : Int) from ((show F72 (b) (12 : Int) = F24 (b) (12 : Int) from hM74 _ _ ho5.1 (own_z ho5.1) (by rw [ho5.2]; rfl)).trans ((show F24 (b) (12 : Int) = F17 (b) (12 : Int) from hM26 _ _ ho5.1 (own_z ho5.1) (by rw [ho5.2]; rfl)).trans ((show F17 (b) (12 : Int) = F13 (b) (12 : Int) from hM19 _ _ ho5.1 (own_z ho5.1) (by rw [ho5.2]; rfl)).trans ((show F13 (b) (12 : Int) = F7 (b) (12 : Int) from hM15 _ _ ho5.1 (own_z ho5.1) (by rw [ho5.2]; rfl)).trans ((show F7 (b) (12 : Int) = Fx (b) (12 : Int) from hM10 _ _ ho5.1 (own_z ho5.1) (by rw [ho5.2]; rfl)).trans (show Fx (b) (12 : Int) = F (b) (12 : Int) from hMx _ _ ho5.1 (own_z ho5.1) (by rw [ho5.2]; rfl)))))))] at z; exact z
            refine jx_add (pc_q := 87) rfl rfl ?_
            obtain ⟨z77, ez77⟩ : ∃ q, q = (i32 ((F (b) (11 : Int) + F (b) (12 : Int)))).toInt := ⟨_, rfl⟩
            have bz77 : (-2147483648 : Int) ≤ z77 ∧ z77 ≤ 2147483647 := ez77 ▸ i32_rg _
            rw [show i32 ((F (b) (11 : Int) + F (b) (12 : Int))) = i32 z77 by rw [ez77, i32_of]]
            clear ez77
            refine jx_ar (pc_q := 88) (st_q := [.int (i32 (3)), .int (i32 (z77)), .int (i32 (be))]) rfl rfl rfl rfl ?_
            refine jx_add (pc_q := 89) rfl rfl ?_
            obtain ⟨z78, ez78⟩ : ∃ q, q = (i32 ((z77 + 3))).toInt := ⟨_, rfl⟩
            have bz78 : (-2147483648 : Int) ≤ z78 ∧ z78 ≤ 2147483647 := ez78 ▸ i32_rg _
            rw [show i32 ((z77 + 3)) = i32 z78 by rw [ez78, i32_of]]
            clear ez78
            refine jx_add (pc_q := 90) rfl rfl ?_
            obtain ⟨z79, ez79⟩ : ∃ q, q = (i32 ((be + z78))).toInt := ⟨_, rfl⟩
            have bz79 : (-2147483648 : Int) ≤ z79 ∧ z79 ≤ 2147483647 := ez79 ▸ i32_rg _
            rw [show i32 ((be + z78)) = i32 z79 by rw [ez79, i32_of]]
            clear ez79
            refine jx_ld (pc_q := 91) (l_q := jSto1 L 2 (.int (i32 (z79)))) (st_q := []) rfl rfl ?_
            obtain ⟨L80, eL80⟩ : ∃ q : jL, q = jSto1 L 2 (.int (i32 (z79))) := ⟨_, rfl⟩
            rw [← eL80]
            have g81 : jGet L80 0 = some (rv (me)) := eL80 ▸ jg_nr (by decide) gL_0
            have g82 : jGet L80 1 = some (rv (p)) := eL80 ▸ jg_nr (by decide) gL_1
            have g83 : jGet L80 4 = some (.int (i32 (k))) := eL80 ▸ jg_ne (by decide) gL_4 rfl
            have g84 : jGet L80 3 = some (rv (b)) := eL80 ▸ jg_nr (by decide) gL_3
            have g85 : jGet L80 2 = some (.int (i32 (z79))) := eL80 ▸ jg_eq
            clear eL80
            refine jx_ld (pc_q := 92) (l_q := L80) (st_q := [rv (p)]) rfl (jl_rvn g82) ?_
            refine cx_gi (pc_q := 95) (c := 7) (q := 0) (v := F (p) (0 : Int)) rfl rfl (by decide) (by decide) (Or.inl rfl) rfl o_p t_p ((show F72 (p) (0 : Int) = F24 (p) (0 : Int) from hM74 _ _ o_p (own_z o_p) (by rw [t_p]; rfl)).trans ((show F24 (p) (0 : Int) = F17 (p) (0 : Int) from hM26 _ _ o_p (own_z o_p) (by rw [t_p]; rfl)).trans ((show F17 (p) (0 : Int) = F13 (p) (0 : Int) from hM19 _ _ o_p (own_z o_p) (by rw [t_p]; rfl)).trans ((show F13 (p) (0 : Int) = F7 (p) (0 : Int) from hM15 _ _ o_p (own_z o_p) (by rw [t_p]; rfl)).trans ((show F7 (p) (0 : Int) = Fx (p) (0 : Int) from hM10 _ _ o_p (own_z o_p) (by rw [t_p]; rfl)).trans (show Fx (p) (0 : Int) = F (p) (0 : Int) from hMx _ _ o_p (own_z o_p) (by rw [t_p]; rfl))))))) ?_
            refine jx_ar (pc_q := 97) (st_q := [.int (i32 (10)), .int (i32 (F (p) (0 : Int)))]) rfl rfl rfl rfl ?_
            refine jx_icmp_ne (pc_q := 100) (tg := 104) rfl rfl rfl (by omega) (by omega) (by decide) (by decide) (fun h86 => ?_) (fun h86 => ?_)
            · have _q := h86
              refine jx_ld (pc_q := 105) (l_q := L80) (st_q := [rv (b)]) rfl (jl_rvn g84) ?_
              refine cx_gr (pc_q := 108) (c := 7) (q := 8) (v := F (b) (8 : Int)) rfl rfl (by decide) (by decide) rfl rfl ho5.1 ho5.2 ((show F72 (b) (8 : Int) = F24 (b) (8 : Int) from hM74 _ _ ho5.1 (own_z ho5.1) (by rw [ho5.2]; rfl)).trans ((show F24 (b) (8 : Int) = F17 (b) (8 : Int) from hM26 _ _ ho5.1 (own_z ho5.1) (by rw [ho5.2]; rfl)).trans ((show F17 (b) (8 : Int) = F13 (b) (8 : Int) from hM19 _ _ ho5.1 (own_z ho5.1) (by rw [ho5.2]; rfl)).trans ((show F13 (b) (8 : Int) = F7 (b) (8 : Int) from hM15 _ _ ho5.1 (own_z ho5.1) (by rw [ho5.2]; rfl)).trans ((show F7 (b) (8 : Int) = Fx (b) (8 : Int) from hM10 _ _ ho5.1 (own_z ho5.1) (by rw [ho5.2]; rfl)).trans (show Fx (b) (8 : Int) = F (b) (8 : Int) from hMx _ _ ho5.1 (own_z ho5.1) (by rw [ho5.2]; rfl))))))) ?_
              have y87 : F (b) (8 : Int) = 0 ∨ (own m (F (b) (8 : Int)) ∧ tg (F (b) (8 : Int)) = 8) := by have z := HC_r (c := 7) (q := 8) hC73 ho5.1 ho5.2 (by decide) rfl; rw [show F72 (b) ((8 : Nat) : Int) = F (b) (8 : Int) from ((show F72 (b) (8 : Int) = F24 (b) (8 : Int) from hM74 _ _ ho5.1 (own_z ho5.1) (by rw [ho5.2]; rfl)).trans ((show F24 (b) (8 : Int) = F17 (b) (8 : Int) from hM26 _ _ ho5.1 (own_z ho5.1) (by rw [ho5.2]; rfl)).trans ((show F17 (b) (8 : Int) = F13 (b) (8 : Int) from hM19 _ _ ho5.1 (own_z ho5.1) (by rw [ho5.2]; rfl)).trans ((show F13 (b) (8 : Int) = F7 (b) (8 : Int) from hM15 _ _ ho5.1 (own_z ho5.1) (by rw [ho5.2]; rfl)).trans ((show F7 (b) (8 : Int) = Fx (b) (8 : Int) from hM10 _ _ ho5.1 (own_z ho5.1) (by rw [ho5.2]; rfl)).trans (show Fx (b) (8 : Int) = F (b) (8 : Int) from hMx _ _ ho5.1 (own_z ho5.1) (by rw [ho5.2]; rfl)))))))] at z; exact z
              have z88 := mz_n hC c_NT sx_b (own_z ho5.1)
              refine jx_ld (pc_q := 109) (l_q := jSto1 L80 3 (rv (F (b) (8 : Int)))) (st_q := []) rfl (js_rvn (by decide)) ?_
              obtain ⟨L89, eL89⟩ : ∃ q : jL, q = jSto1 L80 3 (rv (F (b) (8 : Int))) := ⟨_, rfl⟩
              rw [← eL89]
              have g90 : jGet L89 0 = some (rv (me)) := eL89 ▸ jg_nr (by decide) g81
              have g91 : jGet L89 1 = some (rv (p)) := eL89 ▸ jg_nr (by decide) g82
              have g92 : jGet L89 4 = some (.int (i32 (k))) := eL89 ▸ jg_ne (by decide) g83 rfl
              have g93 : jGet L89 2 = some (.int (i32 (z79))) := eL89 ▸ jg_ne (by decide) g85 rfl
              have g94 : jGet L89 3 = some (rv (F (b) (8 : Int))) := eL89 ▸ jg_eq
              clear eL89
              refine jx_inc (pc_q := 112) (l_q := jSto1 L89 4 (.int (i32 (k + (1))))) (x := k) rfl g92 (by decide) rfl rfl ?_
              obtain ⟨L95, eL95⟩ : ∃ q : jL, q = jSto1 L89 4 (.int (i32 ((k + (1))))) := ⟨_, rfl⟩
              rw [← eL95]
              have g96 : jGet L95 0 = some (rv (me)) := eL95 ▸ jg_nr (by decide) g90
              have g97 : jGet L95 1 = some (rv (p)) := eL95 ▸ jg_nr (by decide) g91
              have g98 : jGet L95 2 = some (.int (i32 (z79))) := eL95 ▸ jg_ne (by decide) g93 rfl
              have g99 : jGet L95 3 = some (rv (F (b) (8 : Int))) := eL95 ▸ jg_nr (by decide) g94
              have g100 : jGet L95 4 = some (.int (i32 ((k + (1))))) := eL95 ▸ jg_eq
              clear eL95
              refine jx_go (tg := 10) rfl rfl ?_
              exact ih _ (by omega) L95 F72 (z79) ((k + (1))) (F (b) (8 : Int)) rfl g96 g97 g98 g100 g99 hC73 hM75 (by omega) (by omega) y87 (by omega) (SN_w (SN_n hC c_NT sx_b (own_z ho5.1)) (by omega))
            · have _q := h86
              refine jx_ld (pc_q := 101) (l_q := L80) (st_q := [rv (b)]) rfl (jl_rvn g84) ?_
              refine jx_go (tg := 108) rfl rfl ?_
              refine jx_ld (pc_q := 109) (l_q := jSto1 L80 3 (rv (b))) (st_q := []) rfl (js_rvn (by decide)) ?_
              obtain ⟨L101, eL101⟩ : ∃ q : jL, q = jSto1 L80 3 (rv (b)) := ⟨_, rfl⟩
              rw [← eL101]
              have g102 : jGet L101 0 = some (rv (me)) := eL101 ▸ jg_nr (by decide) g81
              have g103 : jGet L101 1 = some (rv (p)) := eL101 ▸ jg_nr (by decide) g82
              have g104 : jGet L101 4 = some (.int (i32 (k))) := eL101 ▸ jg_ne (by decide) g83 rfl
              have g105 : jGet L101 2 = some (.int (i32 (z79))) := eL101 ▸ jg_ne (by decide) g85 rfl
              have g106 : jGet L101 3 = some (rv (b)) := eL101 ▸ jg_eq
              clear eL101
              refine jx_inc (pc_q := 112) (l_q := jSto1 L101 4 (.int (i32 (k + (1))))) (x := k) rfl g104 (by decide) rfl rfl ?_
              obtain ⟨L107, eL107⟩ : ∃ q : jL, q = jSto1 L101 4 (.int (i32 ((k + (1))))) := ⟨_, rfl⟩
              rw [← eL107]
              have g108 : jGet L107 0 = some (rv (me)) := eL107 ▸ jg_nr (by decide) g102
              have g109 : jGet L107 1 = some (rv (p)) := eL107 ▸ jg_nr (by decide) g103
              have g110 : jGet L107 2 = some (.int (i32 (z79))) := eL107 ▸ jg_ne (by decide) g105 rfl
              have g111 : jGet L107 3 = some (rv (b)) := eL107 ▸ jg_nr (by decide) g106
              have g112 : jGet L107 4 = some (.int (i32 ((k + (1))))) := eL107 ▸ jg_eq
              clear eL107
              refine jx_go (tg := 10) rfl rfl ?_
              exact ih _ (by omega) L107 F72 (z79) ((k + (1))) (b) rfl g108 g109 g110 g112 g111 hC73 hM75 (by omega) (by omega) (Or.inr ⟨ho5.1, ho5.2⟩) (by omega) (SN_w sx_b (by omega))
          · have _q := h71
            refine jx_ar (pc_q := 69) (st_q := [.int (i32 (16)), rv (me)]) rfl rfl rfl rfl ?_
            refine jx_go (tg := 74) rfl rfl ?_
            refine cx_vi (c := 1) (a := me) (st := []) (as := [.int (i32 (16))]) rfl rfl rfl o_me t_me (by decide) rfl ⟨rfl, rfl, (Nat.le_of_ble_eq_true rfl)⟩ rfl (k_LCoder_operation (dd := d) (R := R) (m := m) (tg := tg) (ln := ln) (F := F24) (me := me) (op := 16) (hd := by omega) (hC := hC25) (o_me := o_me) (t_me := t_me) (h_op := by omega)) (fun o V_q hq => ?_)
            obtain ⟨F113, rfl, rfl, hC114, hM115, -⟩ := hq
            have hM116 : Fq 0 [(2, 7), (2, 8), (2, 11), (20, -5), (21, -5)] m tg F F113 := Fq_t (ln := ln) (ln1 := ln) hM27 Ex_r hM115 (by decide) (Or.inl rfl)
            refine Or.inl ⟨rfl, ?_⟩
            refine jx_ld (pc_q := 78) (l_q := L) (st_q := [.int (i32 (be))]) rfl (jl_iloadn gL_2) ?_
            refine jx_ld (pc_q := 79) (l_q := L) (st_q := [rv (b), .int (i32 (be))]) rfl (jl_rvn gL_3) ?_
            refine cx_gi (pc_q := 82) (c := 7) (q := 11) (v := F (b) (11 : Int)) rfl rfl (by decide) (by decide) (Or.inl rfl) rfl ho5.1 ho5.2 ((show F113 (b) (11 : Int) = F24 (b) (11 : Int) from hM115 _ _ ho5.1 (own_z ho5.1) (by rw [ho5.2]; rfl)).trans ((show F24 (b) (11 : Int) = F17 (b) (11 : Int) from hM26 _ _ ho5.1 (own_z ho5.1) (by rw [ho5.2]; rfl)).trans ((show F17 (b) (11 : Int) = F13 (b) (11 : Int) from hM19 _ _ ho5.1 (own_z ho5.1) (by rw [ho5.2]; rfl)).trans ((show F13 (b) (11 : Int) = F7 (b) (11 : Int) from hM15 _ _ ho5.1 (own_z ho5.1) (by rw [ho5.2]; rfl)).trans ((show F7 (b) (11 : Int) = Fx (b) (11 : Int) from hM10 _ _ ho5.1 (own_z ho5.1) (by rw [ho5.2]; rfl)).trans (show Fx (b) (11 : Int) = F (b) (11 : Int) from hMx _ _ ho5.1 (own_z ho5.1) (by rw [ho5.2]; rfl))))))) ?_
            refine jx_ld (pc_q := 83) (l_q := L) (st_q := [rv (b), .int (i32 (F (b) (11 : Int))), .int (i32 (be))]) rfl (jl_rvn gL_3) ?_
            refine cx_gi (pc_q := 86) (c := 7) (q := 12) (v := F (b) (12 : Int)) rfl rfl (by decide) (by decide) (Or.inl rfl) rfl ho5.1 ho5.2 ((show F113 (b) (12 : Int) = F24 (b) (12 : Int) from hM115 _ _ ho5.1 (own_z ho5.1) (by rw [ho5.2]; rfl)).trans ((show F24 (b) (12 : Int) = F17 (b) (12 : Int) from hM26 _ _ ho5.1 (own_z ho5.1) (by rw [ho5.2]; rfl)).trans ((show F17 (b) (12 : Int) = F13 (b) (12 : Int) from hM19 _ _ ho5.1 (own_z ho5.1) (by rw [ho5.2]; rfl)).trans ((show F13 (b) (12 : Int) = F7 (b) (12 : Int) from hM15 _ _ ho5.1 (own_z ho5.1) (by rw [ho5.2]; rfl)).trans ((show F7 (b) (12 : Int) = Fx (b) (12 : Int) from hM10 _ _ ho5.1 (own_z ho5.1) (by rw [ho5.2]; rfl)).trans (show Fx (b) (12 : Int) = F (b) (12 : Int) from hMx _ _ ho5.1 (own_z ho5.1) (by rw [ho5.2]; rfl))))))) ?_
            have b117 : (-2147483648 : Int) ≤ F (b) (12 : Int) ∧ F (b) (12 : Int) ≤ 2147483647 := by have z := HC_i (c := 7) (q := 12) hC114 ho5.1 ho5.2 (by decide) rfl; rw [show F113 (b) ((12 : Nat) : Int) = F (b) (12 : Int) from ((show F113 (b) (12 : Int) = F24 (b) (12 : Int) from hM115 _ _ ho5.1 (own_z ho5.1) (by rw [ho5.2]; rfl)).trans ((show F24 (b) (12 : Int) = F17 (b) (12 : Int) from hM26 _ _ ho5.1 (own_z ho5.1) (by rw [ho5.2]; rfl)).trans ((show F17 (b) (12 : Int) = F13 (b) (12 : Int) from hM19 _ _ ho5.1 (own_z ho5.1) (by rw [ho5.2]; rfl)).trans ((show F13 (b) (12 : Int) = F7 (b) (12 : Int) from hM15 _ _ ho5.1 (own_z ho5.1) (by rw [ho5.2]; rfl)).trans ((show F7 (b) (12 : Int) = Fx (b) (12 : Int) from hM10 _ _ ho5.1 (own_z ho5.1) (by rw [ho5.2]; rfl)).trans (show Fx (b) (12 : Int) = F (b) (12 : Int) from hMx _ _ ho5.1 (own_z ho5.1) (by rw [ho5.2]; rfl)))))))] at z; exact z
            refine jx_add (pc_q := 87) rfl rfl ?_
            obtain ⟨z118, ez118⟩ : ∃ q, q = (i32 ((F (b) (11 : Int) + F (b) (12 : Int)))).toInt := ⟨_, rfl⟩
            have bz118 : (-2147483648 : Int) ≤ z118 ∧ z118 ≤ 2147483647 := ez118 ▸ i32_rg _
            rw [show i32 ((F (b) (11 : Int) + F (b) (12 : Int))) = i32 z118 by rw [ez118, i32_of]]
            clear ez118
            refine jx_ar (pc_q := 88) (st_q := [.int (i32 (3)), .int (i32 (z118)), .int (i32 (be))]) rfl rfl rfl rfl ?_
            refine jx_add (pc_q := 89) rfl rfl ?_
            obtain ⟨z119, ez119⟩ : ∃ q, q = (i32 ((z118 + 3))).toInt := ⟨_, rfl⟩
            have bz119 : (-2147483648 : Int) ≤ z119 ∧ z119 ≤ 2147483647 := ez119 ▸ i32_rg _
            rw [show i32 ((z118 + 3)) = i32 z119 by rw [ez119, i32_of]]
            clear ez119
            refine jx_add (pc_q := 90) rfl rfl ?_
            obtain ⟨z120, ez120⟩ : ∃ q, q = (i32 ((be + z119))).toInt := ⟨_, rfl⟩
            have bz120 : (-2147483648 : Int) ≤ z120 ∧ z120 ≤ 2147483647 := ez120 ▸ i32_rg _
            rw [show i32 ((be + z119)) = i32 z120 by rw [ez120, i32_of]]
            clear ez120
            refine jx_ld (pc_q := 91) (l_q := jSto1 L 2 (.int (i32 (z120)))) (st_q := []) rfl rfl ?_
            obtain ⟨L121, eL121⟩ : ∃ q : jL, q = jSto1 L 2 (.int (i32 (z120))) := ⟨_, rfl⟩
            rw [← eL121]
            have g122 : jGet L121 0 = some (rv (me)) := eL121 ▸ jg_nr (by decide) gL_0
            have g123 : jGet L121 1 = some (rv (p)) := eL121 ▸ jg_nr (by decide) gL_1
            have g124 : jGet L121 4 = some (.int (i32 (k))) := eL121 ▸ jg_ne (by decide) gL_4 rfl
            have g125 : jGet L121 3 = some (rv (b)) := eL121 ▸ jg_nr (by decide) gL_3
            have g126 : jGet L121 2 = some (.int (i32 (z120))) := eL121 ▸ jg_eq
            clear eL121
            refine jx_ld (pc_q := 92) (l_q := L121) (st_q := [rv (p)]) rfl (jl_rvn g123) ?_
            refine cx_gi (pc_q := 95) (c := 7) (q := 0) (v := F (p) (0 : Int)) rfl rfl (by decide) (by decide) (Or.inl rfl) rfl o_p t_p ((show F113 (p) (0 : Int) = F24 (p) (0 : Int) from hM115 _ _ o_p (own_z o_p) (by rw [t_p]; rfl)).trans ((show F24 (p) (0 : Int) = F17 (p) (0 : Int) from hM26 _ _ o_p (own_z o_p) (by rw [t_p]; rfl)).trans ((show F17 (p) (0 : Int) = F13 (p) (0 : Int) from hM19 _ _ o_p (own_z o_p) (by rw [t_p]; rfl)).trans ((show F13 (p) (0 : Int) = F7 (p) (0 : Int) from hM15 _ _ o_p (own_z o_p) (by rw [t_p]; rfl)).trans ((show F7 (p) (0 : Int) = Fx (p) (0 : Int) from hM10 _ _ o_p (own_z o_p) (by rw [t_p]; rfl)).trans (show Fx (p) (0 : Int) = F (p) (0 : Int) from hMx _ _ o_p (own_z o_p) (by rw [t_p]; rfl))))))) ?_
            refine jx_ar (pc_q := 97) (st_q := [.int (i32 (10)), .int (i32 (F (p) (0 : Int)))]) rfl rfl rfl rfl ?_
            refine jx_icmp_ne (pc_q := 100) (tg := 104) rfl rfl rfl (by omega) (by omega) (by decide) (by decide) (fun h127 => ?_) (fun h127 => ?_)
            · have _q := h127
              refine jx_ld (pc_q := 105) (l_q := L121) (st_q := [rv (b)]) rfl (jl_rvn g125) ?_
              refine cx_gr (pc_q := 108) (c := 7) (q := 8) (v := F (b) (8 : Int)) rfl rfl (by decide) (by decide) rfl rfl ho5.1 ho5.2 ((show F113 (b) (8 : Int) = F24 (b) (8 : Int) from hM115 _ _ ho5.1 (own_z ho5.1) (by rw [ho5.2]; rfl)).trans ((show F24 (b) (8 : Int) = F17 (b) (8 : Int) from hM26 _ _ ho5.1 (own_z ho5.1) (by rw [ho5.2]; rfl)).trans ((show F17 (b) (8 : Int) = F13 (b) (8 : Int) from hM19 _ _ ho5.1 (own_z ho5.1) (by rw [ho5.2]; rfl)).trans ((show F13 (b) (8 : Int) = F7 (b) (8 : Int) from hM15 _ _ ho5.1 (own_z ho5.1) (by rw [ho5.2]; rfl)).trans ((show F7 (b) (8 : Int) = Fx (b) (8 : Int) from hM10 _ _ ho5.1 (own_z ho5.1) (by rw [ho5.2]; rfl)).trans (show Fx (b) (8 : Int) = F (b) (8 : Int) from hMx _ _ ho5.1 (own_z ho5.1) (by rw [ho5.2]; rfl))))))) ?_
              have y128 : F (b) (8 : Int) = 0 ∨ (own m (F (b) (8 : Int)) ∧ tg (F (b) (8 : Int)) = 8) := by have z := HC_r (c := 7) (q := 8) hC114 ho5.1 ho5.2 (by decide) rfl; rw [show F113 (b) ((8 : Nat) : Int) = F (b) (8 : Int) from ((show F113 (b) (8 : Int) = F24 (b) (8 : Int) from hM115 _ _ ho5.1 (own_z ho5.1) (by rw [ho5.2]; rfl)).trans ((show F24 (b) (8 : Int) = F17 (b) (8 : Int) from hM26 _ _ ho5.1 (own_z ho5.1) (by rw [ho5.2]; rfl)).trans ((show F17 (b) (8 : Int) = F13 (b) (8 : Int) from hM19 _ _ ho5.1 (own_z ho5.1) (by rw [ho5.2]; rfl)).trans ((show F13 (b) (8 : Int) = F7 (b) (8 : Int) from hM15 _ _ ho5.1 (own_z ho5.1) (by rw [ho5.2]; rfl)).trans ((show F7 (b) (8 : Int) = Fx (b) (8 : Int) from hM10 _ _ ho5.1 (own_z ho5.1) (by rw [ho5.2]; rfl)).trans (show Fx (b) (8 : Int) = F (b) (8 : Int) from hMx _ _ ho5.1 (own_z ho5.1) (by rw [ho5.2]; rfl)))))))] at z; exact z
              have z129 := mz_n hC c_NT sx_b (own_z ho5.1)
              refine jx_ld (pc_q := 109) (l_q := jSto1 L121 3 (rv (F (b) (8 : Int)))) (st_q := []) rfl (js_rvn (by decide)) ?_
              obtain ⟨L130, eL130⟩ : ∃ q : jL, q = jSto1 L121 3 (rv (F (b) (8 : Int))) := ⟨_, rfl⟩
              rw [← eL130]
              have g131 : jGet L130 0 = some (rv (me)) := eL130 ▸ jg_nr (by decide) g122
              have g132 : jGet L130 1 = some (rv (p)) := eL130 ▸ jg_nr (by decide) g123
              have g133 : jGet L130 4 = some (.int (i32 (k))) := eL130 ▸ jg_ne (by decide) g124 rfl
              have g134 : jGet L130 2 = some (.int (i32 (z120))) := eL130 ▸ jg_ne (by decide) g126 rfl
              have g135 : jGet L130 3 = some (rv (F (b) (8 : Int))) := eL130 ▸ jg_eq
              clear eL130
              refine jx_inc (pc_q := 112) (l_q := jSto1 L130 4 (.int (i32 (k + (1))))) (x := k) rfl g133 (by decide) rfl rfl ?_
              obtain ⟨L136, eL136⟩ : ∃ q : jL, q = jSto1 L130 4 (.int (i32 ((k + (1))))) := ⟨_, rfl⟩
              rw [← eL136]
              have g137 : jGet L136 0 = some (rv (me)) := eL136 ▸ jg_nr (by decide) g131
              have g138 : jGet L136 1 = some (rv (p)) := eL136 ▸ jg_nr (by decide) g132
              have g139 : jGet L136 2 = some (.int (i32 (z120))) := eL136 ▸ jg_ne (by decide) g134 rfl
              have g140 : jGet L136 3 = some (rv (F (b) (8 : Int))) := eL136 ▸ jg_nr (by decide) g135
              have g141 : jGet L136 4 = some (.int (i32 ((k + (1))))) := eL136 ▸ jg_eq
              clear eL136
              refine jx_go (tg := 10) rfl rfl ?_
              exact ih _ (by omega) L136 F113 (z120) ((k + (1))) (F (b) (8 : Int)) rfl g137 g138 g139 g141 g140 hC114 hM116 (by omega) (by omega) y128 (by omega) (SN_w (SN_n hC c_NT sx_b (own_z ho5.1)) (by omega))
            · have _q := h127
              refine jx_ld (pc_q := 101) (l_q := L121) (st_q := [rv (b)]) rfl (jl_rvn g125) ?_
              refine jx_go (tg := 108) rfl rfl ?_
              refine jx_ld (pc_q := 109) (l_q := jSto1 L121 3 (rv (b))) (st_q := []) rfl (js_rvn (by decide)) ?_
              obtain ⟨L142, eL142⟩ : ∃ q : jL, q = jSto1 L121 3 (rv (b)) := ⟨_, rfl⟩
              rw [← eL142]
              have g143 : jGet L142 0 = some (rv (me)) := eL142 ▸ jg_nr (by decide) g122
              have g144 : jGet L142 1 = some (rv (p)) := eL142 ▸ jg_nr (by decide) g123
              have g145 : jGet L142 4 = some (.int (i32 (k))) := eL142 ▸ jg_ne (by decide) g124 rfl
              have g146 : jGet L142 2 = some (.int (i32 (z120))) := eL142 ▸ jg_ne (by decide) g126 rfl
              have g147 : jGet L142 3 = some (rv (b)) := eL142 ▸ jg_eq
              clear eL142
              refine jx_inc (pc_q := 112) (l_q := jSto1 L142 4 (.int (i32 (k + (1))))) (x := k) rfl g145 (by decide) rfl rfl ?_
              obtain ⟨L148, eL148⟩ : ∃ q : jL, q = jSto1 L142 4 (.int (i32 ((k + (1))))) := ⟨_, rfl⟩
              rw [← eL148]
              have g149 : jGet L148 0 = some (rv (me)) := eL148 ▸ jg_nr (by decide) g143
              have g150 : jGet L148 1 = some (rv (p)) := eL148 ▸ jg_nr (by decide) g144
              have g151 : jGet L148 2 = some (.int (i32 (z120))) := eL148 ▸ jg_ne (by decide) g146 rfl
              have g152 : jGet L148 3 = some (rv (b)) := eL148 ▸ jg_nr (by decide) g147
              have g153 : jGet L148 4 = some (.int (i32 ((k + (1))))) := eL148 ▸ jg_eq
              clear eL148
              refine jx_go (tg := 10) rfl rfl ?_
              exact ih _ (by omega) L148 F113 (z120) ((k + (1))) (b) rfl g149 g150 g151 g153 g152 hC114 hM116 (by omega) (by omega) (Or.inr ⟨ho5.1, ho5.2⟩) (by omega) (SN_w sx_b (by omega))
set_option maxRecDepth 20000 in
set_option maxHeartbeats 4000000 in
theorem k_LCoder_startBranches {X : jX} {kk : Nat} {dd : Nat} {R : Nat → jC} {m : Nat} {tg ln : Int → Int} {F : Int → Int → Int} {me p : Int} (hd : 3 * kk + 10 ≤ dd) (hC : HC 0 m tg ln F) (o_me : own m me) (t_me : tg me = 2) (o_p : own m p) (t_p : tg p = 8) (c_NT : NT m tg F) (n_p : SN m tg F p (kk)) : wk X dd 74 [rv me, rv p] (cV R m tg ln F) (fun o V_q => ∃ (F_q : Int → Int → Int), V_q = cV R m tg ln F_q ∧ o = .inl none ∧ HC 0 m tg ln F_q ∧ Fq 0 [(2, 7), (2, 8), (2, 11), (20, -5), (21, -5)] m tg F F_q ∧ True) := by
  obtain ⟨d, rfl⟩ : ∃ d, dd = d + 1 := ⟨dd - 1, by omega⟩
  refine wk_of (e := jm74) rfl (by rw [jS_r, jS_r, jS_0]; exact Nat.le_of_ble_eq_true rfl) ?_
  rw [la_r, la_r, la_0]
  show wj X d jm74 (0, [(0, rv (me)), (1, rv (p))], [], cV R m tg ln F) _
  have hM0 : Fq 0 [(2, 7), (2, 8), (2, 11), (20, -5), (21, -5)] m tg F F := Fq_r
  obtain ⟨L0, eL0⟩ : ∃ q : jL, q = [(0, rv (me)), (1, rv (p))] := ⟨_, rfl⟩
  rw [← eL0]
  have g154 : jGet L0 0 = some (rv (me)) := eL0 ▸ (rfl : jGet [(0, rv (me)), (1, rv (p))] 0 = some (rv (me)))
  have g155 : jGet L0 1 = some (rv (p)) := eL0 ▸ (rfl : jGet [(0, rv (me)), (1, rv (p))] 1 = some (rv (p)))
  clear eL0
  have k156 := SN_p n_p (own_z o_p)
  refine jx_ar (pc_q := 1) (st_q := [.int (i32 (3))]) rfl rfl rfl rfl ?_
  refine jx_ld (pc_q := 2) (l_q := jSto1 L0 2 (.int (i32 (3)))) (st_q := []) rfl rfl ?_
  obtain ⟨L157, eL157⟩ : ∃ q : jL, q = jSto1 L0 2 (.int (i32 (3))) := ⟨_, rfl⟩
  rw [← eL157]
  have g158 : jGet L157 0 = some (rv (me)) := eL157 ▸ jg_nr (by decide) g154
  have g159 : jGet L157 1 = some (rv (p)) := eL157 ▸ jg_nr (by decide) g155
  have g160 : jGet L157 2 = some (.int (i32 (3))) := eL157 ▸ jg_eq
  clear eL157
  refine jx_ld (pc_q := 3) (l_q := L157) (st_q := [rv (p)]) rfl (jl_rvn g159) ?_
  refine cx_gr (pc_q := 6) (c := 7) (q := 4) (v := F (p) (4 : Int)) rfl rfl (by decide) (by decide) rfl rfl o_p t_p rfl ?_
  have y161 : F (p) (4 : Int) = 0 ∨ (own m (F (p) (4 : Int)) ∧ tg (F (p) (4 : Int)) = 8) := by have z := HC_r (c := 7) (q := 4) hC o_p t_p (by decide) rfl; rw [show F (p) ((4 : Nat) : Int) = F (p) (4 : Int) from rfl] at z; exact z
  refine jx_ld (pc_q := 7) (l_q := jSto1 L157 3 (rv (F (p) (4 : Int)))) (st_q := []) rfl (js_rvn (by decide)) ?_
  obtain ⟨L162, eL162⟩ : ∃ q : jL, q = jSto1 L157 3 (rv (F (p) (4 : Int))) := ⟨_, rfl⟩
  rw [← eL162]
  have g163 : jGet L162 0 = some (rv (me)) := eL162 ▸ jg_nr (by decide) g158
  have g164 : jGet L162 1 = some (rv (p)) := eL162 ▸ jg_nr (by decide) g159
  have g165 : jGet L162 2 = some (.int (i32 (3))) := eL162 ▸ jg_ne (by decide) g160 rfl
  have g166 : jGet L162 3 = some (rv (F (p) (4 : Int))) := eL162 ▸ jg_eq
  clear eL162
  refine jx_ar (pc_q := 8) (st_q := [.int (i32 (0))]) rfl rfl rfl rfl ?_
  refine jx_ld (pc_q := 10) (l_q := jSto1 L162 4 (.int (i32 (0)))) (st_q := []) rfl rfl ?_
  obtain ⟨L167, eL167⟩ : ∃ q : jL, q = jSto1 L162 4 (.int (i32 (0))) := ⟨_, rfl⟩
  rw [← eL167]
  have g168 : jGet L167 0 = some (rv (me)) := eL167 ▸ jg_nr (by decide) g163
  have g169 : jGet L167 1 = some (rv (p)) := eL167 ▸ jg_nr (by decide) g164
  have g170 : jGet L167 2 = some (.int (i32 (3))) := eL167 ▸ jg_ne (by decide) g165 rfl
  have g171 : jGet L167 3 = some (rv (F (p) (4 : Int))) := eL167 ▸ jg_nr (by decide) g166
  have g172 : jGet L167 4 = some (.int (i32 (0))) := eL167 ▸ jg_eq
  clear eL167
  exact k_LCoder_startBranches_at_10 (X := X) (kk := kk) (d := d) (R := R) (m := m) (tg := tg) (ln := ln) (F := F) (me := me) (p := p) (hd := hd) (hC := hC) (o_me := o_me) (t_me := t_me) (o_p := o_p) (t_p := t_p) (c_NT := c_NT) (n_p := n_p) _ L167 F (3) (0) (F (p) (4 : Int)) rfl g168 g169 g170 g172 g171 hC hM0 (by omega) (by omega) y161 (by omega) (SN_w (SN_c hC c_NT n_p (own_z o_p) (by omega)) (by omega))
def CPx (X : jX) (kk : Nat) : Prop := ∀ ⦃dd : Nat⦄ ⦃R : Nat → jC⦄ ⦃m : Nat⦄ ⦃tg ln : Int → Int⦄ ⦃F : Int → Int → Int⦄ ⦃me p : Int⦄ (hd : 3 * kk + 16 ≤ dd) (hC : HC 0 m tg ln F) (o_me : own m me) (t_me : tg me = 2) (y_p : p = 0 ∨ (own m p ∧ tg p = 8)) (c_NT : NT m tg F) (n_p : SN m tg F p (kk)), wk X dd 66 [rv me, rv p] (cV R m tg ln F) (fun o V_q => ∃ (F_q : Int → Int → Int), V_q = cV R m tg ln F_q ∧ o = .inl none ∧ HC 0 m tg ln F_q ∧ Fq 0 [(2, 7), (2, 8), (2, 11), (20, -5), (21, -5), (2, 10), (7, 6), (7, 9)] m tg F F_q ∧ True)
set_option maxRecDepth 20000 in
set_option maxHeartbeats 4000000 in
theorem k_LCoder_branch {X : jX} {kk : Nat} (hE : 1 ≤ kk → CPx X (kk - 1)) {dd : Nat} {R : Nat → jC} {m : Nat} {tg ln : Int → Int} {F : Int → Int → Int} {me p b be : Int} (hd : 3 * kk + 14 ≤ dd) (hC : HC 0 m tg ln F) (o_me : own m me) (t_me : tg me = 2) (o_p : own m p) (t_p : tg p = 8) (o_b : own m b) (t_b : tg b = 8) (h_be : (-2147483648 : Int) ≤ be ∧ be ≤ 2147483647) (c_NT : NT m tg F) (n_p : SN m tg F p (kk)) (n_b : SN m tg F b (kk - 1)) : wk X dd 75 [rv me, rv p, rv b, .int (i32 be)] (cV R m tg ln F) (fun o V_q => ∃ (F_q : Int → Int → Int), V_q = cV R m tg ln F_q ∧ o = .inl none ∧ HC 0 m tg ln F_q ∧ Fq 0 [(2, 7), (2, 8), (2, 11), (20, -5), (21, -5), (2, 10), (7, 6), (7, 9)] m tg F F_q ∧ True) := by
  obtain ⟨d, rfl⟩ : ∃ d, dd = d + 1 := ⟨dd - 1, by omega⟩
  refine wk_of (e := jm75) rfl (by rw [jS_r, jS_r, jS_r, jS_i, jS_0]; exact Nat.le_of_ble_eq_true rfl) ?_
  rw [la_r, la_r, la_r, la_i, la_0]
  show wj X d jm75 (0, [(0, rv (me)), (1, rv (p)), (2, rv (b)), (3, .int (i32 (be)))], [], cV R m tg ln F) _
  have hM0 : Fq 0 [(2, 7), (2, 8), (2, 11), (20, -5), (21, -5), (2, 10), (7, 6), (7, 9)] m tg F F := Fq_r
  obtain ⟨L0, eL0⟩ : ∃ q : jL, q = [(0, rv (me)), (1, rv (p)), (2, rv (b)), (3, .int (i32 (be)))] := ⟨_, rfl⟩
  rw [← eL0]
  have g1 : jGet L0 0 = some (rv (me)) := eL0 ▸ (rfl : jGet [(0, rv (me)), (1, rv (p)), (2, rv (b)), (3, .int (i32 (be)))] 0 = some (rv (me)))
  have g2 : jGet L0 1 = some (rv (p)) := eL0 ▸ (rfl : jGet [(0, rv (me)), (1, rv (p)), (2, rv (b)), (3, .int (i32 (be)))] 1 = some (rv (p)))
  have g3 : jGet L0 2 = some (rv (b)) := eL0 ▸ (rfl : jGet [(0, rv (me)), (1, rv (p)), (2, rv (b)), (3, .int (i32 (be)))] 2 = some (rv (b)))
  have g4 : jGet L0 3 = some (.int (i32 (be))) := eL0 ▸ (rfl : jGet [(0, rv (me)), (1, rv (p)), (2, rv (b)), (3, .int (i32 (be)))] 3 = some (.int (i32 (be))))
  clear eL0
  have k5 := SN_p n_p (own_z o_p)
  have hE6 := hE (by omega)
  have k7 := SN_p n_b (own_z o_b)
  refine jx_ld (pc_q := 1) (l_q := L0) (st_q := [rv (me)]) rfl (jl_rvn g1) ?_
  refine cx_gi (pc_q := 4) (c := 1) (q := 10) (v := F (me) (10 : Int)) rfl rfl (by decide) (by decide) (Or.inl rfl) rfl o_me t_me rfl ?_
  have b8 : (-2147483648 : Int) ≤ F (me) (10 : Int) ∧ F (me) (10 : Int) ≤ 2147483647 := by have z := HC_i (c := 1) (q := 10) hC o_me t_me (by decide) rfl; rw [show F (me) ((10 : Nat) : Int) = F (me) (10 : Int) from rfl] at z; exact z
  refine jx_ld (pc_q := 6) (l_q := jSto1 L0 4 (.int (i32 (F (me) (10 : Int))))) (st_q := []) rfl rfl ?_
  obtain ⟨L9, eL9⟩ : ∃ q : jL, q = jSto1 L0 4 (.int (i32 (F (me) (10 : Int)))) := ⟨_, rfl⟩
  rw [← eL9]
  have g10 : jGet L9 0 = some (rv (me)) := eL9 ▸ jg_nr (by decide) g1
  have g11 : jGet L9 1 = some (rv (p)) := eL9 ▸ jg_nr (by decide) g2
  have g12 : jGet L9 2 = some (rv (b)) := eL9 ▸ jg_nr (by decide) g3
  have g13 : jGet L9 3 = some (.int (i32 (be))) := eL9 ▸ jg_ne (by decide) g4 rfl
  have g14 : jGet L9 4 = some (.int (i32 (F (me) (10 : Int)))) := eL9 ▸ jg_eq
  clear eL9
  refine jx_ld (pc_q := 7) (l_q := L9) (st_q := [rv (me)]) rfl (jl_rvn g10) ?_
  refine jx_ld (pc_q := 9) (l_q := L9) (st_q := [.int (i32 (F (me) (10 : Int))), rv (me)]) rfl (jl_iload g14) ?_
  refine jx_ld (pc_q := 10) (l_q := L9) (st_q := [.int (i32 (be)), .int (i32 (F (me) (10 : Int))), rv (me)]) rfl (jl_iloadn g13) ?_
  refine jx_sub (pc_q := 11) rfl rfl ?_
  obtain ⟨z15, ez15⟩ : ∃ q, q = (i32 ((F (me) (10 : Int) - be))).toInt := ⟨_, rfl⟩
  have bz15 : (-2147483648 : Int) ≤ z15 ∧ z15 ≤ 2147483647 := ez15 ▸ i32_rg _
  rw [show i32 ((F (me) (10 : Int) - be)) = i32 z15 by rw [ez15, i32_of]]
  clear ez15
  refine cx_pi (pc_q := 14) (c := 1) (q := 10) (qi := (10 : Int)) (z := z15) rfl rfl (by decide) (by decide) rfl rfl rfl (by decide) rfl o_me t_me rfl ?_
  obtain ⟨F16, eF16⟩ : ∃ q, q = uF F (me) (10 : Int) (z15) := ⟨_, rfl⟩
  rw [← eF16]
  have hC17 : HC 0 m tg ln F16 := by rw [eF16]; exact HC_fi (c := 1) (q := 10) hC t_me (by decide) rfl (by omega) (by omega) ⟨fun w => absurd w (by decide), fun w => absurd w (by decide)⟩
  have hM18 : Fq 0 [(2, 7), (2, 8), (2, 11), (20, -5), (21, -5), (2, 10), (7, 6), (7, 9)] m tg F F16 := by rw [eF16]; exact Fq_p hM0 t_me (fun _ => rfl) rfl
  refine jx_ld (pc_q := 15) (l_q := L9) (st_q := [rv (me)]) rfl (jl_rvn g10) ?_
  refine jx_ld (pc_q := 16) (l_q := L9) (st_q := [rv (b), rv (me)]) rfl (jl_rvn g12) ?_
  refine cx_vi (c := 1) (a := me) (st := []) (as := [rv (b)]) rfl rfl rfl o_me t_me (by decide) rfl ⟨rfl, rfl, (Nat.le_of_ble_eq_true rfl)⟩ rfl (hE6 (dd := d) (R := R) (m := m) (tg := tg) (ln := ln) (F := F16) (me := me) (p := b) (hd := by omega) (hC := hC17) (o_me := o_me) (t_me := t_me) (y_p := (Or.inr ⟨o_b, t_b⟩)) (c_NT := NT_q hC c_NT hM18 rfl) (n_p := (SN_q (SN_w (k_q := kk - 1) n_b (by omega)) hM18 rfl rfl))) (fun o V_q hq => ?_)
  obtain ⟨F19, rfl, rfl, hC20, hM21, -⟩ := hq
  have hM22 : Fq 0 [(2, 7), (2, 8), (2, 11), (20, -5), (21, -5), (2, 10), (7, 6), (7, 9)] m tg F F19 := Fq_t (ln := ln) (ln1 := ln) hM18 Ex_r hM21 (by decide) (Or.inl rfl)
  refine Or.inl ⟨rfl, ?_⟩
  refine jx_ld (pc_q := 20) (l_q := L9) (st_q := [rv (me)]) rfl (jl_rvn g10) ?_
  refine jx_ar (pc_q := 21) (st_q := [.int (i32 (1)), rv (me)]) rfl rfl rfl rfl ?_
  refine jx_ld (pc_q := 22) (l_q := L9) (st_q := [rv (p), .int (i32 (1)), rv (me)]) rfl (jl_rvn g11) ?_
  refine cx_gi (pc_q := 25) (c := 7) (q := 10) (v := F (p) (10 : Int)) rfl rfl (by decide) (by decide) (Or.inl rfl) rfl o_p t_p ((show F19 (p) (10 : Int) = F16 (p) (10 : Int) from hM21 _ _ o_p (own_z o_p) (by rw [t_p]; rfl)).trans (show F16 (p) (10 : Int) = F (p) (10 : Int) from by rw [eF16]; exact uF_a (fun w => by have q1 := t_p; have q2 := t_me; rw [w, q2] at q1; exact absurd q1 (by decide)))) ?_
  have b23 : (-2147483648 : Int) ≤ F (p) (10 : Int) ∧ F (p) (10 : Int) ≤ 2147483647 := by have z := HC_i (c := 7) (q := 10) hC20 o_p t_p (by decide) rfl; rw [show F19 (p) ((10 : Nat) : Int) = F (p) (10 : Int) from ((show F19 (p) (10 : Int) = F16 (p) (10 : Int) from hM21 _ _ o_p (own_z o_p) (by rw [t_p]; rfl)).trans (show F16 (p) (10 : Int) = F (p) (10 : Int) from by rw [eF16]; exact uF_a (fun w => by have q1 := t_p; have q2 := t_me; rw [w, q2] at q1; exact absurd q1 (by decide))))] at z; exact z
  refine jx_ld (pc_q := 26) (l_q := L9) (st_q := [.int (i32 (be)), .int (i32 (F (p) (10 : Int))), .int (i32 (1)), rv (me)]) rfl (jl_iloadn g13) ?_
  refine jx_add (pc_q := 27) rfl rfl ?_
  obtain ⟨z24, ez24⟩ : ∃ q, q = (i32 ((F (p) (10 : Int) + be))).toInt := ⟨_, rfl⟩
  have bz24 : (-2147483648 : Int) ≤ z24 ∧ z24 ≤ 2147483647 := ez24 ▸ i32_rg _
  rw [show i32 ((F (p) (10 : Int) + be)) = i32 z24 by rw [ez24, i32_of]]
  clear ez24
  refine cx_vi (c := 1) (a := me) (st := []) (as := [.int (i32 (1)), .int (i32 (z24))]) rfl rfl rfl o_me t_me (by decide) rfl ⟨rfl, rfl, (Nat.le_of_ble_eq_true rfl)⟩ rfl (k_LCoder_emit (dd := d) (R := R) (m := m) (tg := tg) (ln := ln) (F := F19) (me := me) (fu := 1) (op := z24) (hd := by omega) (hC := hC20) (o_me := o_me) (t_me := t_me) (h_fu := by omega) (h_op := by omega)) (fun o V_q hq => ?_)
  obtain ⟨F25, rfl, rfl, hC26, hM27, -⟩ := hq
  have hM28 : Fq 0 [(2, 7), (2, 8), (2, 11), (20, -5), (21, -5), (2, 10), (7, 6), (7, 9)] m tg F F25 := Fq_t (ln := ln) (ln1 := ln) hM22 Ex_r hM27 (by decide) (Or.inl rfl)
  refine Or.inl ⟨rfl, ?_⟩
  refine jx_ld (pc_q := 31) (l_q := L9) (st_q := [rv (me)]) rfl (jl_rvn g10) ?_
  refine jx_ar (pc_q := 33) (st_q := [.int (i32 (17)), rv (me)]) rfl rfl rfl rfl ?_
  refine cx_vi (c := 1) (a := me) (st := []) (as := [.int (i32 (17))]) rfl rfl rfl o_me t_me (by decide) rfl ⟨rfl, rfl, (Nat.le_of_ble_eq_true rfl)⟩ rfl (k_LCoder_operation (dd := d) (R := R) (m := m) (tg := tg) (ln := ln) (F := F25) (me := me) (op := 17) (hd := by omega) (hC := hC26) (o_me := o_me) (t_me := t_me) (h_op := by omega)) (fun o V_q hq => ?_)
  obtain ⟨F29, rfl, rfl, hC30, hM31, -⟩ := hq
  have hM32 : Fq 0 [(2, 7), (2, 8), (2, 11), (20, -5), (21, -5), (2, 10), (7, 6), (7, 9)] m tg F F29 := Fq_t (ln := ln) (ln1 := ln) hM28 Ex_r hM31 (by decide) (Or.inl rfl)
  refine Or.inl ⟨rfl, ?_⟩
  refine jx_ld (pc_q := 37) (l_q := L9) (st_q := [rv (me)]) rfl (jl_rvn g10) ?_
  refine jx_ld (pc_q := 39) (l_q := L9) (st_q := [.int (i32 (F (me) (10 : Int))), rv (me)]) rfl (jl_iload g14) ?_
  refine cx_pi (pc_q := 42) (c := 1) (q := 10) (qi := (10 : Int)) (z := F (me) (10 : Int)) rfl rfl (by decide) (by decide) rfl rfl rfl (by decide) rfl o_me t_me rfl ?_
  obtain ⟨F33, eF33⟩ : ∃ q, q = uF F29 (me) (10 : Int) (F (me) (10 : Int)) := ⟨_, rfl⟩
  rw [← eF33]
  have hC34 : HC 0 m tg ln F33 := by rw [eF33]; exact HC_fi (c := 1) (q := 10) hC30 t_me (by decide) rfl (by omega) (by omega) ⟨fun w => absurd w (by decide), fun w => absurd w (by decide)⟩
  have hM35 : Fq 0 [(2, 7), (2, 8), (2, 11), (20, -5), (21, -5), (2, 10), (7, 6), (7, 9)] m tg F F33 := by rw [eF33]; exact Fq_p hM32 t_me (fun _ => rfl) rfl
  refine jx_rt (v := none) rfl rfl rfl rfl rfl rfl ?_
  exact ⟨F33, rfl, rfl, hC34, hM35, trivial⟩
set_option maxRecDepth 20000 in
set_option maxHeartbeats 4000000 in
theorem k_LCoder_loop {X : jX} {kk : Nat} (hE : 1 ≤ kk → CPx X (kk - 1)) {dd : Nat} {R : Nat → jC} {m : Nat} {tg ln : Int → Int} {F : Int → Int → Int} {me p : Int} (hd : 3 * kk + 15 ≤ dd) (hC : HC 0 m tg ln F) (o_me : own m me) (t_me : tg me = 2) (o_p : own m p) (t_p : tg p = 8) (c_NT : NT m tg F) (n_p : SN m tg F p (kk)) : wk X dd 70 [rv me, rv p] (cV R m tg ln F) (fun o V_q => ∃ (F_q : Int → Int → Int), V_q = cV R m tg ln F_q ∧ o = .inl none ∧ HC 0 m tg ln F_q ∧ Fq 0 [(2, 7), (2, 8), (2, 11), (20, -5), (21, -5), (2, 10), (7, 6), (7, 9)] m tg F F_q ∧ True) := by
  obtain ⟨d, rfl⟩ : ∃ d, dd = d + 1 := ⟨dd - 1, by omega⟩
  refine wk_of (e := jm70) rfl (by rw [jS_r, jS_r, jS_0]; exact Nat.le_of_ble_eq_true rfl) ?_
  rw [la_r, la_r, la_0]
  show wj X d jm70 (0, [(0, rv (me)), (1, rv (p))], [], cV R m tg ln F) _
  have hM0 : Fq 0 [(2, 7), (2, 8), (2, 11), (20, -5), (21, -5), (2, 10), (7, 6), (7, 9)] m tg F F := Fq_r
  obtain ⟨L0, eL0⟩ : ∃ q : jL, q = [(0, rv (me)), (1, rv (p))] := ⟨_, rfl⟩
  rw [← eL0]
  have g1 : jGet L0 0 = some (rv (me)) := eL0 ▸ (rfl : jGet [(0, rv (me)), (1, rv (p))] 0 = some (rv (me)))
  have g2 : jGet L0 1 = some (rv (p)) := eL0 ▸ (rfl : jGet [(0, rv (me)), (1, rv (p))] 1 = some (rv (p)))
  clear eL0
  have k3 := SN_p n_p (own_z o_p)
  have hE4 := hE (by omega)
  refine jx_ld (pc_q := 1) (l_q := L0) (st_q := [rv (p)]) rfl (jl_rvn g2) ?_
  refine cx_gr (pc_q := 4) (c := 7) (q := 3) (v := F (p) (3 : Int)) rfl rfl (by decide) (by decide) rfl rfl o_p t_p rfl ?_
  have y5 : F (p) (3 : Int) = 0 ∨ (own m (F (p) (3 : Int)) ∧ tg (F (p) (3 : Int)) = 7) := by have z := HC_r (c := 7) (q := 3) hC o_p t_p (by decide) rfl; rw [show F (p) ((3 : Nat) : Int) = F (p) (3 : Int) from rfl] at z; exact z
  refine cx_non (pc_q := 7) (tg_q := 8) rfl rfl rfl (fun h6 => ?_) (fun h6 => ?_)
  · have _q := h6
    have ho7 : own m (F (p) (3 : Int)) ∧ tg (F (p) (3 : Int)) = 7 := y5.resolve_left h6
    refine jx_ld (pc_q := 9) (l_q := L0) (st_q := [rv (me)]) rfl (jl_rvn g1) ?_
    refine cx_vi (c := 1) (a := me) (st := []) (as := []) rfl rfl rfl o_me t_me (by decide) rfl ⟨rfl, rfl, (Nat.le_of_ble_eq_true rfl)⟩ rfl (k_LCoder_newLabel (dd := d) (R := R) (m := m) (tg := tg) (ln := ln) (F := F) (me := me) (hd := by omega) (hC := hC) (o_me := o_me) (t_me := t_me)) (fun o V_q hq => ?_)
    obtain ⟨F8, r9, rfl, rfl, hC10, hM11, b12, -⟩ := hq
    have hM13 : Fq 0 [(2, 7), (2, 8), (2, 11), (20, -5), (21, -5), (2, 10), (7, 6), (7, 9)] m tg F F8 := Fq_t (ln := ln) (ln1 := ln) hM0 Ex_r hM11 (by decide) (Or.inl rfl)
    refine Or.inr (Or.inl ⟨_, rfl, ?_⟩)
    refine jx_ld (pc_q := 13) (l_q := jSto1 L0 2 (.int (i32 (r9)))) (st_q := []) rfl rfl ?_
    obtain ⟨L14, eL14⟩ : ∃ q : jL, q = jSto1 L0 2 (.int (i32 (r9))) := ⟨_, rfl⟩
    rw [← eL14]
    have g15 : jGet L14 0 = some (rv (me)) := eL14 ▸ jg_nr (by decide) g1
    have g16 : jGet L14 1 = some (rv (p)) := eL14 ▸ jg_nr (by decide) g2
    have g17 : jGet L14 2 = some (.int (i32 (r9))) := eL14 ▸ jg_eq
    clear eL14
    refine jx_ld (pc_q := 14) (l_q := L14) (st_q := [rv (me)]) rfl (jl_rvn g15) ?_
    refine cx_vi (c := 1) (a := me) (st := []) (as := []) rfl rfl rfl o_me t_me (by decide) rfl ⟨rfl, rfl, (Nat.le_of_ble_eq_true rfl)⟩ rfl (k_LCoder_newLabel (dd := d) (R := R) (m := m) (tg := tg) (ln := ln) (F := F8) (me := me) (hd := by omega) (hC := hC10) (o_me := o_me) (t_me := t_me)) (fun o V_q hq => ?_)
    obtain ⟨F18, r19, rfl, rfl, hC20, hM21, b22, -⟩ := hq
    have hM23 : Fq 0 [(2, 7), (2, 8), (2, 11), (20, -5), (21, -5), (2, 10), (7, 6), (7, 9)] m tg F F18 := Fq_t (ln := ln) (ln1 := ln) hM13 Ex_r hM21 (by decide) (Or.inl rfl)
    refine Or.inr (Or.inl ⟨_, rfl, ?_⟩)
    refine jx_ld (pc_q := 18) (l_q := jSto1 L14 3 (.int (i32 (r19)))) (st_q := []) rfl rfl ?_
    obtain ⟨L24, eL24⟩ : ∃ q : jL, q = jSto1 L14 3 (.int (i32 (r19))) := ⟨_, rfl⟩
    rw [← eL24]
    have g25 : jGet L24 0 = some (rv (me)) := eL24 ▸ jg_nr (by decide) g15
    have g26 : jGet L24 1 = some (rv (p)) := eL24 ▸ jg_nr (by decide) g16
    have g27 : jGet L24 2 = some (.int (i32 (r9))) := eL24 ▸ jg_ne (by decide) g17 rfl
    have g28 : jGet L24 3 = some (.int (i32 (r19))) := eL24 ▸ jg_eq
    clear eL24
    refine jx_ld (pc_q := 19) (l_q := L24) (st_q := [rv (p)]) rfl (jl_rvn g26) ?_
    refine cx_gr (pc_q := 22) (c := 7) (q := 3) (v := F (p) (3 : Int)) rfl rfl (by decide) (by decide) rfl rfl o_p t_p ((show F18 (p) (3 : Int) = F8 (p) (3 : Int) from hM21 _ _ o_p (own_z o_p) (by rw [t_p]; rfl)).trans (show F8 (p) (3 : Int) = F (p) (3 : Int) from hM11 _ _ o_p (own_z o_p) (by rw [t_p]; rfl))) ?_
    refine cx_gi (pc_q := 25) (c := 6) (q := 5) (v := F (F (p) (3 : Int)) (5 : Int)) rfl rfl (by decide) (by decide) (Or.inl rfl) rfl ho7.1 ho7.2 ((show F18 (F (p) (3 : Int)) (5 : Int) = F8 (F (p) (3 : Int)) (5 : Int) from hM21 _ _ ho7.1 (own_z ho7.1) (by rw [ho7.2]; rfl)).trans (show F8 (F (p) (3 : Int)) (5 : Int) = F (F (p) (3 : Int)) (5 : Int) from hM11 _ _ ho7.1 (own_z ho7.1) (by rw [ho7.2]; rfl))) ?_
    have b29 : (-2147483648 : Int) ≤ F (F (p) (3 : Int)) (5 : Int) ∧ F (F (p) (3 : Int)) (5 : Int) ≤ 2147483647 := by have z := HC_i (c := 6) (q := 5) hC20 ho7.1 ho7.2 (by decide) rfl; rw [show F18 (F (p) (3 : Int)) ((5 : Nat) : Int) = F (F (p) (3 : Int)) (5 : Int) from ((show F18 (F (p) (3 : Int)) (5 : Int) = F8 (F (p) (3 : Int)) (5 : Int) from hM21 _ _ ho7.1 (own_z ho7.1) (by rw [ho7.2]; rfl)).trans (show F8 (F (p) (3 : Int)) (5 : Int) = F (F (p) (3 : Int)) (5 : Int) from hM11 _ _ ho7.1 (own_z ho7.1) (by rw [ho7.2]; rfl)))] at z; exact z
    refine jx_ld (pc_q := 27) (l_q := jSto1 L24 4 (.int (i32 (F (F (p) (3 : Int)) (5 : Int))))) (st_q := []) rfl rfl ?_
    obtain ⟨L30, eL30⟩ : ∃ q : jL, q = jSto1 L24 4 (.int (i32 (F (F (p) (3 : Int)) (5 : Int)))) := ⟨_, rfl⟩
    rw [← eL30]
    have g31 : jGet L30 0 = some (rv (me)) := eL30 ▸ jg_nr (by decide) g25
    have g32 : jGet L30 1 = some (rv (p)) := eL30 ▸ jg_nr (by decide) g26
    have g33 : jGet L30 2 = some (.int (i32 (r9))) := eL30 ▸ jg_ne (by decide) g27 rfl
    have g34 : jGet L30 3 = some (.int (i32 (r19))) := eL30 ▸ jg_ne (by decide) g28 rfl
    have g35 : jGet L30 4 = some (.int (i32 (F (F (p) (3 : Int)) (5 : Int)))) := eL30 ▸ jg_eq
    clear eL30
    refine jx_ld (pc_q := 28) (l_q := L30) (st_q := [rv (p)]) rfl (jl_rvn g32) ?_
    refine cx_gr (pc_q := 31) (c := 7) (q := 3) (v := F (p) (3 : Int)) rfl rfl (by decide) (by decide) rfl rfl o_p t_p ((show F18 (p) (3 : Int) = F8 (p) (3 : Int) from hM21 _ _ o_p (own_z o_p) (by rw [t_p]; rfl)).trans (show F8 (p) (3 : Int) = F (p) (3 : Int) from hM11 _ _ o_p (own_z o_p) (by rw [t_p]; rfl))) ?_
    refine jx_ld (pc_q := 32) (l_q := L30) (st_q := [rv (me), rv (F (p) (3 : Int))]) rfl (jl_rvn g31) ?_
    refine cx_gi (pc_q := 35) (c := 1) (q := 10) (v := F (me) (10 : Int)) rfl rfl (by decide) (by decide) (Or.inl rfl) rfl o_me t_me ((show F18 (me) (10 : Int) = F8 (me) (10 : Int) from hM21 _ _ o_me (own_z o_me) (by rw [t_me]; rfl)).trans (show F8 (me) (10 : Int) = F (me) (10 : Int) from hM11 _ _ o_me (own_z o_me) (by rw [t_me]; rfl))) ?_
    have b36 : (-2147483648 : Int) ≤ F (me) (10 : Int) ∧ F (me) (10 : Int) ≤ 2147483647 := by have z := HC_i (c := 1) (q := 10) hC20 o_me t_me (by decide) rfl; rw [show F18 (me) ((10 : Nat) : Int) = F (me) (10 : Int) from ((show F18 (me) (10 : Int) = F8 (me) (10 : Int) from hM21 _ _ o_me (own_z o_me) (by rw [t_me]; rfl)).trans (show F8 (me) (10 : Int) = F (me) (10 : Int) from hM11 _ _ o_me (own_z o_me) (by rw [t_me]; rfl)))] at z; exact z
    refine cx_pi (pc_q := 38) (c := 6) (q := 6) (qi := (6 : Int)) (z := F (me) (10 : Int)) rfl rfl (by decide) (by decide) rfl rfl rfl (by decide) rfl ho7.1 ho7.2 rfl ?_
    obtain ⟨F37, eF37⟩ : ∃ q, q = uF F18 (F (p) (3 : Int)) (6 : Int) (F (me) (10 : Int)) := ⟨_, rfl⟩
    rw [← eF37]
    have hC38 : HC 0 m tg ln F37 := by rw [eF37]; exact HC_fi (c := 6) (q := 6) hC20 ho7.2 (by decide) rfl (by omega) (by omega) ⟨fun w => absurd w (by decide), fun w => absurd w (by decide)⟩
    have hM39 : Fq 0 [(2, 7), (2, 8), (2, 11), (20, -5), (21, -5), (2, 10), (7, 6), (7, 9)] m tg F F37 := by rw [eF37]; exact Fq_p hM23 ho7.2 (fun _ => rfl) rfl
    refine jx_ld (pc_q := 39) (l_q := L30) (st_q := [rv (me)]) rfl (jl_rvn g31) ?_
    refine jx_ld (pc_q := 40) (l_q := L30) (st_q := [rv (p), rv (me)]) rfl (jl_rvn g32) ?_
    refine cx_gr (pc_q := 43) (c := 7) (q := 4) (v := F (p) (4 : Int)) rfl rfl (by decide) (by decide) rfl rfl o_p t_p ((show F37 (p) (4 : Int) = F18 (p) (4 : Int) from by rw [eF37]; exact uF_j (by decide)).trans ((show F18 (p) (4 : Int) = F8 (p) (4 : Int) from hM21 _ _ o_p (own_z o_p) (by rw [t_p]; rfl)).trans (show F8 (p) (4 : Int) = F (p) (4 : Int) from hM11 _ _ o_p (own_z o_p) (by rw [t_p]; rfl)))) ?_
    have y40 : F (p) (4 : Int) = 0 ∨ (own m (F (p) (4 : Int)) ∧ tg (F (p) (4 : Int)) = 8) := by have z := HC_r (c := 7) (q := 4) hC38 o_p t_p (by decide) rfl; rw [show F37 (p) ((4 : Nat) : Int) = F (p) (4 : Int) from ((show F37 (p) (4 : Int) = F18 (p) (4 : Int) from by rw [eF37]; exact uF_j (by decide)).trans ((show F18 (p) (4 : Int) = F8 (p) (4 : Int) from hM21 _ _ o_p (own_z o_p) (by rw [t_p]; rfl)).trans (show F8 (p) (4 : Int) = F (p) (4 : Int) from hM11 _ _ o_p (own_z o_p) (by rw [t_p]; rfl))))] at z; exact z
    refine cx_vi (c := 1) (a := me) (st := []) (as := [rv (F (p) (4 : Int))]) rfl rfl rfl o_me t_me (by decide) rfl ⟨rfl, rfl, (Nat.le_of_ble_eq_true rfl)⟩ rfl (CVx_all X ((kk) - 1) (dd := d) (R := R) (m := m) (tg := tg) (ln := ln) (F := F37) (me := me) (e := F (p) (4 : Int)) (hd := by omega) (hC := hC38) (o_me := o_me) (t_me := t_me) (y_e := y40) (c_NT := NT_q hC c_NT hM39 rfl) (n_e := (SN_q (SN_w (SN_c hC c_NT n_p (own_z o_p) (by omega)) (by omega)) hM39 rfl rfl))) (fun o V_q hq => ?_)
    obtain ⟨F41, rfl, rfl, hC42, hM43, -⟩ := hq
    have hM44 : Fq 0 [(2, 7), (2, 8), (2, 11), (20, -5), (21, -5), (2, 10), (7, 6), (7, 9)] m tg F F41 := Fq_t (ln := ln) (ln1 := ln) hM39 Ex_r hM43 (by decide) (Or.inl rfl)
    refine Or.inl ⟨rfl, ?_⟩
    refine jx_ld (pc_q := 47) (l_q := L30) (st_q := [rv (me)]) rfl (jl_rvn g31) ?_
    refine jx_ar (pc_q := 49) (st_q := [.int (i32 (13)), rv (me)]) rfl rfl rfl rfl ?_
    refine jx_ld (pc_q := 51) (l_q := L30) (st_q := [.int (i32 (F (F (p) (3 : Int)) (5 : Int))), .int (i32 (13)), rv (me)]) rfl (jl_iload g35) ?_
    refine cx_vi (c := 1) (a := me) (st := []) (as := [.int (i32 (13)), .int (i32 (F (F (p) (3 : Int)) (5 : Int)))]) rfl rfl rfl o_me t_me (by decide) rfl ⟨rfl, rfl, (Nat.le_of_ble_eq_true rfl)⟩ rfl (k_LCoder_emit (dd := d) (R := R) (m := m) (tg := tg) (ln := ln) (F := F41) (me := me) (fu := 13) (op := F (F (p) (3 : Int)) (5 : Int)) (hd := by omega) (hC := hC42) (o_me := o_me) (t_me := t_me) (h_fu := by omega) (h_op := by omega)) (fun o V_q hq => ?_)
    obtain ⟨F45, rfl, rfl, hC46, hM47, -⟩ := hq
    have hM48 : Fq 0 [(2, 7), (2, 8), (2, 11), (20, -5), (21, -5), (2, 10), (7, 6), (7, 9)] m tg F F45 := Fq_t (ln := ln) (ln1 := ln) hM44 Ex_r hM47 (by decide) (Or.inl rfl)
    refine Or.inl ⟨rfl, ?_⟩
    refine jx_ld (pc_q := 55) (l_q := L30) (st_q := [rv (me)]) rfl (jl_rvn g31) ?_
    refine jx_ld (pc_q := 56) (l_q := L30) (st_q := [rv (p), rv (me)]) rfl (jl_rvn g32) ?_
    refine cx_gr (pc_q := 59) (c := 7) (q := 5) (v := F (p) (5 : Int)) rfl rfl (by decide) (by decide) rfl rfl o_p t_p ((show F45 (p) (5 : Int) = F41 (p) (5 : Int) from hM47 _ _ o_p (own_z o_p) (by rw [t_p]; rfl)).trans ((show F41 (p) (5 : Int) = F37 (p) (5 : Int) from hM43 _ _ o_p (own_z o_p) (by rw [t_p]; rfl)).trans ((show F37 (p) (5 : Int) = F18 (p) (5 : Int) from by rw [eF37]; exact uF_j (by decide)).trans ((show F18 (p) (5 : Int) = F8 (p) (5 : Int) from hM21 _ _ o_p (own_z o_p) (by rw [t_p]; rfl)).trans (show F8 (p) (5 : Int) = F (p) (5 : Int) from hM11 _ _ o_p (own_z o_p) (by rw [t_p]; rfl)))))) ?_
    have y49 : F (p) (5 : Int) = 0 ∨ (own m (F (p) (5 : Int)) ∧ tg (F (p) (5 : Int)) = 8) := by have z := HC_r (c := 7) (q := 5) hC46 o_p t_p (by decide) rfl; rw [show F45 (p) ((5 : Nat) : Int) = F (p) (5 : Int) from ((show F45 (p) (5 : Int) = F41 (p) (5 : Int) from hM47 _ _ o_p (own_z o_p) (by rw [t_p]; rfl)).trans ((show F41 (p) (5 : Int) = F37 (p) (5 : Int) from hM43 _ _ o_p (own_z o_p) (by rw [t_p]; rfl)).trans ((show F37 (p) (5 : Int) = F18 (p) (5 : Int) from by rw [eF37]; exact uF_j (by decide)).trans ((show F18 (p) (5 : Int) = F8 (p) (5 : Int) from hM21 _ _ o_p (own_z o_p) (by rw [t_p]; rfl)).trans (show F8 (p) (5 : Int) = F (p) (5 : Int) from hM11 _ _ o_p (own_z o_p) (by rw [t_p]; rfl))))))] at z; exact z
    refine cx_vi (c := 1) (a := me) (st := []) (as := [rv (F (p) (5 : Int))]) rfl rfl rfl o_me t_me (by decide) rfl ⟨rfl, rfl, (Nat.le_of_ble_eq_true rfl)⟩ rfl (CVx_all X ((kk) - 1) (dd := d) (R := R) (m := m) (tg := tg) (ln := ln) (F := F45) (me := me) (e := F (p) (5 : Int)) (hd := by omega) (hC := hC46) (o_me := o_me) (t_me := t_me) (y_e := y49) (c_NT := NT_q hC c_NT hM48 rfl) (n_e := (SN_q (SN_w (SN_c hC c_NT n_p (own_z o_p) (by omega)) (by omega)) hM48 rfl rfl))) (fun o V_q hq => ?_)
    obtain ⟨F50, rfl, rfl, hC51, hM52, -⟩ := hq
    have hM53 : Fq 0 [(2, 7), (2, 8), (2, 11), (20, -5), (21, -5), (2, 10), (7, 6), (7, 9)] m tg F F50 := Fq_t (ln := ln) (ln1 := ln) hM48 Ex_r hM52 (by decide) (Or.inl rfl)
    refine Or.inl ⟨rfl, ?_⟩
    refine jx_ld (pc_q := 63) (l_q := L30) (st_q := [rv (me)]) rfl (jl_rvn g31) ?_
    refine jx_ar (pc_q := 65) (st_q := [.int (i32 (13)), rv (me)]) rfl rfl rfl rfl ?_
    refine jx_ld (pc_q := 67) (l_q := L30) (st_q := [.int (i32 (F (F (p) (3 : Int)) (5 : Int))), .int (i32 (13)), rv (me)]) rfl (jl_iload g35) ?_
    refine jx_ar (pc_q := 68) (st_q := [.int (i32 (1)), .int (i32 (F (F (p) (3 : Int)) (5 : Int))), .int (i32 (13)), rv (me)]) rfl rfl rfl rfl ?_
    refine jx_add (pc_q := 69) rfl rfl ?_
    obtain ⟨z54, ez54⟩ : ∃ q, q = (i32 ((F (F (p) (3 : Int)) (5 : Int) + 1))).toInt := ⟨_, rfl⟩
    have bz54 : (-2147483648 : Int) ≤ z54 ∧ z54 ≤ 2147483647 := ez54 ▸ i32_rg _
    rw [show i32 ((F (F (p) (3 : Int)) (5 : Int) + 1)) = i32 z54 by rw [ez54, i32_of]]
    clear ez54
    refine cx_vi (c := 1) (a := me) (st := []) (as := [.int (i32 (13)), .int (i32 (z54))]) rfl rfl rfl o_me t_me (by decide) rfl ⟨rfl, rfl, (Nat.le_of_ble_eq_true rfl)⟩ rfl (k_LCoder_emit (dd := d) (R := R) (m := m) (tg := tg) (ln := ln) (F := F50) (me := me) (fu := 13) (op := z54) (hd := by omega) (hC := hC51) (o_me := o_me) (t_me := t_me) (h_fu := by omega) (h_op := by omega)) (fun o V_q hq => ?_)
    obtain ⟨F55, rfl, rfl, hC56, hM57, -⟩ := hq
    have hM58 : Fq 0 [(2, 7), (2, 8), (2, 11), (20, -5), (21, -5), (2, 10), (7, 6), (7, 9)] m tg F F55 := Fq_t (ln := ln) (ln1 := ln) hM53 Ex_r hM57 (by decide) (Or.inl rfl)
    refine Or.inl ⟨rfl, ?_⟩
    refine jx_ld (pc_q := 73) (l_q := L30) (st_q := [rv (me)]) rfl (jl_rvn g31) ?_
    refine jx_ld (pc_q := 74) (l_q := L30) (st_q := [.int (i32 (r9)), rv (me)]) rfl (jl_iloadn g33) ?_
    refine cx_vi (c := 1) (a := me) (st := []) (as := [.int (i32 (r9))]) rfl rfl rfl o_me t_me (by decide) rfl ⟨rfl, rfl, (Nat.le_of_ble_eq_true rfl)⟩ rfl (k_LCoder_here (dd := d) (R := R) (m := m) (tg := tg) (ln := ln) (F := F55) (me := me) (lb := r9) (hd := by omega) (hC := hC56) (o_me := o_me) (t_me := t_me) (h_lb := by omega)) (fun o V_q hq => ?_)
    obtain ⟨F59, rfl, rfl, hC60, hM61, -⟩ := hq
    have hM62 : Fq 0 [(2, 7), (2, 8), (2, 11), (20, -5), (21, -5), (2, 10), (7, 6), (7, 9)] m tg F F59 := Fq_t (ln := ln) (ln1 := ln) hM58 Ex_r hM61 (by decide) (Or.inl rfl)
    refine Or.inl ⟨rfl, ?_⟩
    refine jx_ld (pc_q := 78) (l_q := L30) (st_q := [rv (me)]) rfl (jl_rvn g31) ?_
    refine jx_ar (pc_q := 80) (st_q := [.int (i32 (7)), rv (me)]) rfl rfl rfl rfl ?_
    refine jx_ld (pc_q := 82) (l_q := L30) (st_q := [.int (i32 (F (F (p) (3 : Int)) (5 : Int))), .int (i32 (7)), rv (me)]) rfl (jl_iload g35) ?_
    refine jx_ar (pc_q := 83) (st_q := [.int (i32 (1)), .int (i32 (F (F (p) (3 : Int)) (5 : Int))), .int (i32 (7)), rv (me)]) rfl rfl rfl rfl ?_
    refine jx_add (pc_q := 84) rfl rfl ?_
    obtain ⟨z63, ez63⟩ : ∃ q, q = (i32 ((F (F (p) (3 : Int)) (5 : Int) + 1))).toInt := ⟨_, rfl⟩
    have bz63 : (-2147483648 : Int) ≤ z63 ∧ z63 ≤ 2147483647 := ez63 ▸ i32_rg _
    rw [show i32 ((F (F (p) (3 : Int)) (5 : Int) + 1)) = i32 z63 by rw [ez63, i32_of]]
    clear ez63
    refine cx_vi (c := 1) (a := me) (st := []) (as := [.int (i32 (7)), .int (i32 (z63))]) rfl rfl rfl o_me t_me (by decide) rfl ⟨rfl, rfl, (Nat.le_of_ble_eq_true rfl)⟩ rfl (k_LCoder_emit (dd := d) (R := R) (m := m) (tg := tg) (ln := ln) (F := F59) (me := me) (fu := 7) (op := z63) (hd := by omega) (hC := hC60) (o_me := o_me) (t_me := t_me) (h_fu := by omega) (h_op := by omega)) (fun o V_q hq => ?_)
    obtain ⟨F64, rfl, rfl, hC65, hM66, -⟩ := hq
    have hM67 : Fq 0 [(2, 7), (2, 8), (2, 11), (20, -5), (21, -5), (2, 10), (7, 6), (7, 9)] m tg F F64 := Fq_t (ln := ln) (ln1 := ln) hM62 Ex_r hM66 (by decide) (Or.inl rfl)
    refine Or.inl ⟨rfl, ?_⟩
    refine jx_ld (pc_q := 88) (l_q := L30) (st_q := [rv (me)]) rfl (jl_rvn g31) ?_
    refine jx_ar (pc_q := 89) (st_q := [.int (i32 (4)), rv (me)]) rfl rfl rfl rfl ?_
    refine jx_ar (pc_q := 90) (st_q := [.int (i32 (0)), .int (i32 (4)), rv (me)]) rfl rfl rfl rfl ?_
    refine cx_vi (c := 1) (a := me) (st := []) (as := [.int (i32 (4)), .int (i32 (0))]) rfl rfl rfl o_me t_me (by decide) rfl ⟨rfl, rfl, (Nat.le_of_ble_eq_true rfl)⟩ rfl (k_LCoder_emit (dd := d) (R := R) (m := m) (tg := tg) (ln := ln) (F := F64) (me := me) (fu := 4) (op := 0) (hd := by omega) (hC := hC65) (o_me := o_me) (t_me := t_me) (h_fu := by omega) (h_op := by omega)) (fun o V_q hq => ?_)
    obtain ⟨F68, rfl, rfl, hC69, hM70, -⟩ := hq
    have hM71 : Fq 0 [(2, 7), (2, 8), (2, 11), (20, -5), (21, -5), (2, 10), (7, 6), (7, 9)] m tg F F68 := Fq_t (ln := ln) (ln1 := ln) hM67 Ex_r hM70 (by decide) (Or.inl rfl)
    refine Or.inl ⟨rfl, ?_⟩
    refine jx_ld (pc_q := 94) (l_q := L30) (st_q := [rv (me)]) rfl (jl_rvn g31) ?_
    refine jx_ar (pc_q := 96) (st_q := [.int (i32 (6)), rv (me)]) rfl rfl rfl rfl ?_
    refine cx_vi (c := 1) (a := me) (st := []) (as := [.int (i32 (6))]) rfl rfl rfl o_me t_me (by decide) rfl ⟨rfl, rfl, (Nat.le_of_ble_eq_true rfl)⟩ rfl (k_LCoder_operation (dd := d) (R := R) (m := m) (tg := tg) (ln := ln) (F := F68) (me := me) (op := 6) (hd := by omega) (hC := hC69) (o_me := o_me) (t_me := t_me) (h_op := by omega)) (fun o V_q hq => ?_)
    obtain ⟨F72, rfl, rfl, hC73, hM74, -⟩ := hq
    have hM75 : Fq 0 [(2, 7), (2, 8), (2, 11), (20, -5), (21, -5), (2, 10), (7, 6), (7, 9)] m tg F F72 := Fq_t (ln := ln) (ln1 := ln) hM71 Ex_r hM74 (by decide) (Or.inl rfl)
    refine Or.inl ⟨rfl, ?_⟩
    refine jx_ld (pc_q := 100) (l_q := L30) (st_q := [rv (me)]) rfl (jl_rvn g31) ?_
    refine jx_ar (pc_q := 102) (st_q := [.int (i32 (10)), rv (me)]) rfl rfl rfl rfl ?_
    refine jx_ld (pc_q := 103) (l_q := L30) (st_q := [.int (i32 (r19)), .int (i32 (10)), rv (me)]) rfl (jl_iloadn g34) ?_
    refine jx_ar (pc_q := 104) (st_q := [.int (i32 (-1)), .int (i32 (r19)), .int (i32 (10)), rv (me)]) rfl rfl rfl rfl ?_
    refine cx_vi (c := 1) (a := me) (st := []) (as := [.int (i32 (10)), .int (i32 (r19)), .int (i32 (-1))]) rfl rfl rfl o_me t_me (by decide) rfl ⟨rfl, rfl, (Nat.le_of_ble_eq_true rfl)⟩ rfl (k_LCoder_way (dd := d) (R := R) (m := m) (tg := tg) (ln := ln) (F := F72) (me := me) (fu := 10) (lb := r19) (og := -1) (hd := by omega) (hC := hC73) (o_me := o_me) (t_me := t_me) (h_fu := by omega) (h_lb := by omega) (h_og := by omega)) (fun o V_q hq => ?_)
    obtain ⟨F76, rfl, rfl, hC77, hM78, -⟩ := hq
    have hM79 : Fq 0 [(2, 7), (2, 8), (2, 11), (20, -5), (21, -5), (2, 10), (7, 6), (7, 9)] m tg F F76 := Fq_t (ln := ln) (ln1 := ln) hM75 Ex_r hM78 (by decide) (Or.inl rfl)
    refine Or.inl ⟨rfl, ?_⟩
    refine jx_ld (pc_q := 108) (l_q := L30) (st_q := [rv (me)]) rfl (jl_rvn g31) ?_
    refine jx_ld (pc_q := 109) (l_q := L30) (st_q := [rv (p), rv (me)]) rfl (jl_rvn g32) ?_
    refine cx_gr (pc_q := 112) (c := 7) (q := 7) (v := F (p) (7 : Int)) rfl rfl (by decide) (by decide) rfl rfl o_p t_p ((show F76 (p) (7 : Int) = F72 (p) (7 : Int) from hM78 _ _ o_p (own_z o_p) (by rw [t_p]; rfl)).trans ((show F72 (p) (7 : Int) = F68 (p) (7 : Int) from hM74 _ _ o_p (own_z o_p) (by rw [t_p]; rfl)).trans ((show F68 (p) (7 : Int) = F64 (p) (7 : Int) from hM70 _ _ o_p (own_z o_p) (by rw [t_p]; rfl)).trans ((show F64 (p) (7 : Int) = F59 (p) (7 : Int) from hM66 _ _ o_p (own_z o_p) (by rw [t_p]; rfl)).trans ((show F59 (p) (7 : Int) = F55 (p) (7 : Int) from hM61 _ _ o_p (own_z o_p) (by rw [t_p]; rfl)).trans ((show F55 (p) (7 : Int) = F50 (p) (7 : Int) from hM57 _ _ o_p (own_z o_p) (by rw [t_p]; rfl)).trans ((show F50 (p) (7 : Int) = F45 (p) (7 : Int) from hM52 _ _ o_p (own_z o_p) (by rw [t_p]; rfl)).trans ((show F45 (p) (7 : Int) = F41 (p) (7 : Int) from hM47 _ _ o_p (own_z o_p) (by rw [t_p]; rfl)).trans ((show F41 (p) (7 : Int) = F37 (p) (7 : Int) from hM43 _ _ o_p (own_z o_p) (by rw [t_p]; rfl)).trans ((show F37 (p) (7 : Int) = F18 (p) (7 : Int) from by rw [eF37]; exact uF_j (by decide)).trans ((show F18 (p) (7 : Int) = F8 (p) (7 : Int) from hM21 _ _ o_p (own_z o_p) (by rw [t_p]; rfl)).trans (show F8 (p) (7 : Int) = F (p) (7 : Int) from hM11 _ _ o_p (own_z o_p) (by rw [t_p]; rfl))))))))))))) ?_
    have y80 : F (p) (7 : Int) = 0 ∨ (own m (F (p) (7 : Int)) ∧ tg (F (p) (7 : Int)) = 8) := by have z := HC_r (c := 7) (q := 7) hC77 o_p t_p (by decide) rfl; rw [show F76 (p) ((7 : Nat) : Int) = F (p) (7 : Int) from ((show F76 (p) (7 : Int) = F72 (p) (7 : Int) from hM78 _ _ o_p (own_z o_p) (by rw [t_p]; rfl)).trans ((show F72 (p) (7 : Int) = F68 (p) (7 : Int) from hM74 _ _ o_p (own_z o_p) (by rw [t_p]; rfl)).trans ((show F68 (p) (7 : Int) = F64 (p) (7 : Int) from hM70 _ _ o_p (own_z o_p) (by rw [t_p]; rfl)).trans ((show F64 (p) (7 : Int) = F59 (p) (7 : Int) from hM66 _ _ o_p (own_z o_p) (by rw [t_p]; rfl)).trans ((show F59 (p) (7 : Int) = F55 (p) (7 : Int) from hM61 _ _ o_p (own_z o_p) (by rw [t_p]; rfl)).trans ((show F55 (p) (7 : Int) = F50 (p) (7 : Int) from hM57 _ _ o_p (own_z o_p) (by rw [t_p]; rfl)).trans ((show F50 (p) (7 : Int) = F45 (p) (7 : Int) from hM52 _ _ o_p (own_z o_p) (by rw [t_p]; rfl)).trans ((show F45 (p) (7 : Int) = F41 (p) (7 : Int) from hM47 _ _ o_p (own_z o_p) (by rw [t_p]; rfl)).trans ((show F41 (p) (7 : Int) = F37 (p) (7 : Int) from hM43 _ _ o_p (own_z o_p) (by rw [t_p]; rfl)).trans ((show F37 (p) (7 : Int) = F18 (p) (7 : Int) from by rw [eF37]; exact uF_j (by decide)).trans ((show F18 (p) (7 : Int) = F8 (p) (7 : Int) from hM21 _ _ o_p (own_z o_p) (by rw [t_p]; rfl)).trans (show F8 (p) (7 : Int) = F (p) (7 : Int) from hM11 _ _ o_p (own_z o_p) (by rw [t_p]; rfl)))))))))))))] at z; exact z
    refine cx_vi (c := 1) (a := me) (st := []) (as := [rv (F (p) (7 : Int))]) rfl rfl rfl o_me t_me (by decide) rfl ⟨rfl, rfl, (Nat.le_of_ble_eq_true rfl)⟩ rfl (hE4 (dd := d) (R := R) (m := m) (tg := tg) (ln := ln) (F := F76) (me := me) (p := F (p) (7 : Int)) (hd := by omega) (hC := hC77) (o_me := o_me) (t_me := t_me) (y_p := y80) (c_NT := NT_q hC c_NT hM79 rfl) (n_p := (SN_q (SN_w (k_q := kk - 1) (SN_c hC c_NT n_p (own_z o_p) (by omega)) (by omega)) hM79 rfl rfl))) (fun o V_q hq => ?_)
    obtain ⟨F81, rfl, rfl, hC82, hM83, -⟩ := hq
    have hM84 : Fq 0 [(2, 7), (2, 8), (2, 11), (20, -5), (21, -5), (2, 10), (7, 6), (7, 9)] m tg F F81 := Fq_t (ln := ln) (ln1 := ln) hM79 Ex_r hM83 (by decide) (Or.inl rfl)
    refine Or.inl ⟨rfl, ?_⟩
    refine jx_ld (pc_q := 116) (l_q := L30) (st_q := [rv (me)]) rfl (jl_rvn g31) ?_
    refine jx_ar (pc_q := 118) (st_q := [.int (i32 (7)), rv (me)]) rfl rfl rfl rfl ?_
    refine jx_ld (pc_q := 120) (l_q := L30) (st_q := [.int (i32 (F (F (p) (3 : Int)) (5 : Int))), .int (i32 (7)), rv (me)]) rfl (jl_iload g35) ?_
    refine cx_vi (c := 1) (a := me) (st := []) (as := [.int (i32 (7)), .int (i32 (F (F (p) (3 : Int)) (5 : Int)))]) rfl rfl rfl o_me t_me (by decide) rfl ⟨rfl, rfl, (Nat.le_of_ble_eq_true rfl)⟩ rfl (k_LCoder_emit (dd := d) (R := R) (m := m) (tg := tg) (ln := ln) (F := F81) (me := me) (fu := 7) (op := F (F (p) (3 : Int)) (5 : Int)) (hd := by omega) (hC := hC82) (o_me := o_me) (t_me := t_me) (h_fu := by omega) (h_op := by omega)) (fun o V_q hq => ?_)
    obtain ⟨F85, rfl, rfl, hC86, hM87, -⟩ := hq
    have hM88 : Fq 0 [(2, 7), (2, 8), (2, 11), (20, -5), (21, -5), (2, 10), (7, 6), (7, 9)] m tg F F85 := Fq_t (ln := ln) (ln1 := ln) hM84 Ex_r hM87 (by decide) (Or.inl rfl)
    refine Or.inl ⟨rfl, ?_⟩
    refine jx_ld (pc_q := 124) (l_q := L30) (st_q := [rv (me)]) rfl (jl_rvn g31) ?_
    refine jx_ar (pc_q := 126) (st_q := [.int (i32 (8)), rv (me)]) rfl rfl rfl rfl ?_
    refine jx_ar (pc_q := 127) (st_q := [.int (i32 (1)), .int (i32 (8)), rv (me)]) rfl rfl rfl rfl ?_
    refine cx_vi (c := 1) (a := me) (st := []) (as := [.int (i32 (8)), .int (i32 (1))]) rfl rfl rfl o_me t_me (by decide) rfl ⟨rfl, rfl, (Nat.le_of_ble_eq_true rfl)⟩ rfl (k_LCoder_emit (dd := d) (R := R) (m := m) (tg := tg) (ln := ln) (F := F85) (me := me) (fu := 8) (op := 1) (hd := by omega) (hC := hC86) (o_me := o_me) (t_me := t_me) (h_fu := by omega) (h_op := by omega)) (fun o V_q hq => ?_)
    obtain ⟨F89, rfl, rfl, hC90, hM91, -⟩ := hq
    have hM92 : Fq 0 [(2, 7), (2, 8), (2, 11), (20, -5), (21, -5), (2, 10), (7, 6), (7, 9)] m tg F F89 := Fq_t (ln := ln) (ln1 := ln) hM88 Ex_r hM91 (by decide) (Or.inl rfl)
    refine Or.inl ⟨rfl, ?_⟩
    refine jx_ld (pc_q := 131) (l_q := L30) (st_q := [rv (me)]) rfl (jl_rvn g31) ?_
    refine jx_ar (pc_q := 133) (st_q := [.int (i32 (13)), rv (me)]) rfl rfl rfl rfl ?_
    refine jx_ld (pc_q := 135) (l_q := L30) (st_q := [.int (i32 (F (F (p) (3 : Int)) (5 : Int))), .int (i32 (13)), rv (me)]) rfl (jl_iload g35) ?_
    refine cx_vi (c := 1) (a := me) (st := []) (as := [.int (i32 (13)), .int (i32 (F (F (p) (3 : Int)) (5 : Int)))]) rfl rfl rfl o_me t_me (by decide) rfl ⟨rfl, rfl, (Nat.le_of_ble_eq_true rfl)⟩ rfl (k_LCoder_emit (dd := d) (R := R) (m := m) (tg := tg) (ln := ln) (F := F89) (me := me) (fu := 13) (op := F (F (p) (3 : Int)) (5 : Int)) (hd := by omega) (hC := hC90) (o_me := o_me) (t_me := t_me) (h_fu := by omega) (h_op := by omega)) (fun o V_q hq => ?_)
    obtain ⟨F93, rfl, rfl, hC94, hM95, -⟩ := hq
    have hM96 : Fq 0 [(2, 7), (2, 8), (2, 11), (20, -5), (21, -5), (2, 10), (7, 6), (7, 9)] m tg F F93 := Fq_t (ln := ln) (ln1 := ln) hM92 Ex_r hM95 (by decide) (Or.inl rfl)
    refine Or.inl ⟨rfl, ?_⟩
    refine jx_ld (pc_q := 139) (l_q := L30) (st_q := [rv (me)]) rfl (jl_rvn g31) ?_
    refine jx_ar (pc_q := 141) (st_q := [.int (i32 (7)), rv (me)]) rfl rfl rfl rfl ?_
    refine jx_ld (pc_q := 143) (l_q := L30) (st_q := [.int (i32 (F (F (p) (3 : Int)) (5 : Int))), .int (i32 (7)), rv (me)]) rfl (jl_iload g35) ?_
    refine jx_ar (pc_q := 144) (st_q := [.int (i32 (1)), .int (i32 (F (F (p) (3 : Int)) (5 : Int))), .int (i32 (7)), rv (me)]) rfl rfl rfl rfl ?_
    refine jx_add (pc_q := 145) rfl rfl ?_
    obtain ⟨z97, ez97⟩ : ∃ q, q = (i32 ((F (F (p) (3 : Int)) (5 : Int) + 1))).toInt := ⟨_, rfl⟩
    have bz97 : (-2147483648 : Int) ≤ z97 ∧ z97 ≤ 2147483647 := ez97 ▸ i32_rg _
    rw [show i32 ((F (F (p) (3 : Int)) (5 : Int) + 1)) = i32 z97 by rw [ez97, i32_of]]
    clear ez97
    refine cx_vi (c := 1) (a := me) (st := []) (as := [.int (i32 (7)), .int (i32 (z97))]) rfl rfl rfl o_me t_me (by decide) rfl ⟨rfl, rfl, (Nat.le_of_ble_eq_true rfl)⟩ rfl (k_LCoder_emit (dd := d) (R := R) (m := m) (tg := tg) (ln := ln) (F := F93) (me := me) (fu := 7) (op := z97) (hd := by omega) (hC := hC94) (o_me := o_me) (t_me := t_me) (h_fu := by omega) (h_op := by omega)) (fun o V_q hq => ?_)
    obtain ⟨F98, rfl, rfl, hC99, hM100, -⟩ := hq
    have hM101 : Fq 0 [(2, 7), (2, 8), (2, 11), (20, -5), (21, -5), (2, 10), (7, 6), (7, 9)] m tg F F98 := Fq_t (ln := ln) (ln1 := ln) hM96 Ex_r hM100 (by decide) (Or.inl rfl)
    refine Or.inl ⟨rfl, ?_⟩
    refine jx_ld (pc_q := 149) (l_q := L30) (st_q := [rv (me)]) rfl (jl_rvn g31) ?_
    refine jx_ar (pc_q := 151) (st_q := [.int (i32 (8)), rv (me)]) rfl rfl rfl rfl ?_
    refine jx_ar (pc_q := 152) (st_q := [.int (i32 (-1)), .int (i32 (8)), rv (me)]) rfl rfl rfl rfl ?_
    refine cx_vi (c := 1) (a := me) (st := []) (as := [.int (i32 (8)), .int (i32 (-1))]) rfl rfl rfl o_me t_me (by decide) rfl ⟨rfl, rfl, (Nat.le_of_ble_eq_true rfl)⟩ rfl (k_LCoder_emit (dd := d) (R := R) (m := m) (tg := tg) (ln := ln) (F := F98) (me := me) (fu := 8) (op := -1) (hd := by omega) (hC := hC99) (o_me := o_me) (t_me := t_me) (h_fu := by omega) (h_op := by omega)) (fun o V_q hq => ?_)
    obtain ⟨F102, rfl, rfl, hC103, hM104, -⟩ := hq
    have hM105 : Fq 0 [(2, 7), (2, 8), (2, 11), (20, -5), (21, -5), (2, 10), (7, 6), (7, 9)] m tg F F102 := Fq_t (ln := ln) (ln1 := ln) hM101 Ex_r hM104 (by decide) (Or.inl rfl)
    refine Or.inl ⟨rfl, ?_⟩
    refine jx_ld (pc_q := 156) (l_q := L30) (st_q := [rv (me)]) rfl (jl_rvn g31) ?_
    refine jx_ar (pc_q := 158) (st_q := [.int (i32 (13)), rv (me)]) rfl rfl rfl rfl ?_
    refine jx_ld (pc_q := 160) (l_q := L30) (st_q := [.int (i32 (F (F (p) (3 : Int)) (5 : Int))), .int (i32 (13)), rv (me)]) rfl (jl_iload g35) ?_
    refine jx_ar (pc_q := 161) (st_q := [.int (i32 (1)), .int (i32 (F (F (p) (3 : Int)) (5 : Int))), .int (i32 (13)), rv (me)]) rfl rfl rfl rfl ?_
    refine jx_add (pc_q := 162) rfl rfl ?_
    obtain ⟨z106, ez106⟩ : ∃ q, q = (i32 ((F (F (p) (3 : Int)) (5 : Int) + 1))).toInt := ⟨_, rfl⟩
    have bz106 : (-2147483648 : Int) ≤ z106 ∧ z106 ≤ 2147483647 := ez106 ▸ i32_rg _
    rw [show i32 ((F (F (p) (3 : Int)) (5 : Int) + 1)) = i32 z106 by rw [ez106, i32_of]]
    clear ez106
    refine cx_vi (c := 1) (a := me) (st := []) (as := [.int (i32 (13)), .int (i32 (z106))]) rfl rfl rfl o_me t_me (by decide) rfl ⟨rfl, rfl, (Nat.le_of_ble_eq_true rfl)⟩ rfl (k_LCoder_emit (dd := d) (R := R) (m := m) (tg := tg) (ln := ln) (F := F102) (me := me) (fu := 13) (op := z106) (hd := by omega) (hC := hC103) (o_me := o_me) (t_me := t_me) (h_fu := by omega) (h_op := by omega)) (fun o V_q hq => ?_)
    obtain ⟨F107, rfl, rfl, hC108, hM109, -⟩ := hq
    have hM110 : Fq 0 [(2, 7), (2, 8), (2, 11), (20, -5), (21, -5), (2, 10), (7, 6), (7, 9)] m tg F F107 := Fq_t (ln := ln) (ln1 := ln) hM105 Ex_r hM109 (by decide) (Or.inl rfl)
    refine Or.inl ⟨rfl, ?_⟩
    refine jx_ld (pc_q := 166) (l_q := L30) (st_q := [rv (me)]) rfl (jl_rvn g31) ?_
    refine jx_ar (pc_q := 167) (st_q := [.int (i32 (0)), rv (me)]) rfl rfl rfl rfl ?_
    refine jx_ld (pc_q := 168) (l_q := L30) (st_q := [.int (i32 (r9)), .int (i32 (0)), rv (me)]) rfl (jl_iloadn g33) ?_
    refine jx_ar (pc_q := 169) (st_q := [.int (i32 (-1)), .int (i32 (r9)), .int (i32 (0)), rv (me)]) rfl rfl rfl rfl ?_
    refine cx_vi (c := 1) (a := me) (st := []) (as := [.int (i32 (0)), .int (i32 (r9)), .int (i32 (-1))]) rfl rfl rfl o_me t_me (by decide) rfl ⟨rfl, rfl, (Nat.le_of_ble_eq_true rfl)⟩ rfl (k_LCoder_way (dd := d) (R := R) (m := m) (tg := tg) (ln := ln) (F := F107) (me := me) (fu := 0) (lb := r9) (og := -1) (hd := by omega) (hC := hC108) (o_me := o_me) (t_me := t_me) (h_fu := by omega) (h_lb := by omega) (h_og := by omega)) (fun o V_q hq => ?_)
    obtain ⟨F111, rfl, rfl, hC112, hM113, -⟩ := hq
    have hM114 : Fq 0 [(2, 7), (2, 8), (2, 11), (20, -5), (21, -5), (2, 10), (7, 6), (7, 9)] m tg F F111 := Fq_t (ln := ln) (ln1 := ln) hM110 Ex_r hM113 (by decide) (Or.inl rfl)
    refine Or.inl ⟨rfl, ?_⟩
    refine jx_ld (pc_q := 173) (l_q := L30) (st_q := [rv (me)]) rfl (jl_rvn g31) ?_
    refine jx_ld (pc_q := 174) (l_q := L30) (st_q := [.int (i32 (r19)), rv (me)]) rfl (jl_iloadn g34) ?_
    refine cx_vi (c := 1) (a := me) (st := []) (as := [.int (i32 (r19))]) rfl rfl rfl o_me t_me (by decide) rfl ⟨rfl, rfl, (Nat.le_of_ble_eq_true rfl)⟩ rfl (k_LCoder_here (dd := d) (R := R) (m := m) (tg := tg) (ln := ln) (F := F111) (me := me) (lb := r19) (hd := by omega) (hC := hC112) (o_me := o_me) (t_me := t_me) (h_lb := by omega)) (fun o V_q hq => ?_)
    obtain ⟨F115, rfl, rfl, hC116, hM117, -⟩ := hq
    have hM118 : Fq 0 [(2, 7), (2, 8), (2, 11), (20, -5), (21, -5), (2, 10), (7, 6), (7, 9)] m tg F F115 := Fq_t (ln := ln) (ln1 := ln) hM114 Ex_r hM117 (by decide) (Or.inl rfl)
    refine Or.inl ⟨rfl, ?_⟩
    refine jx_rt (v := none) rfl rfl rfl rfl rfl rfl ?_
    exact ⟨F115, rfl, rfl, hC116, hM118, trivial⟩
  · have _q := h6
    refine jx_rt (v := none) rfl rfl rfl rfl rfl rfl ?_
    exact ⟨F, rfl, rfl, hC, hM0, trivial⟩
set_option maxRecDepth 20000 in
set_option maxHeartbeats 4000000 in
theorem k_LCoder_choose_at_10 {X : jX} {kk : Nat} (hE : 1 ≤ kk → CPx X (kk - 1)) {d : Nat} {R : Nat → jC} {m : Nat} {tg ln : Int → Int} {F : Int → Int → Int} {me p : Int} (hd : 3 * kk + 15 ≤ d + 1) (hC : HC 0 m tg ln F) (o_me : own m me) (t_me : tg me = 2) (o_p : own m p) (t_p : tg p = 8) (c_NT : NT m tg F) (n_p : SN m tg F p (kk)) : ∀ (mm : Nat) (L : jL) (Fx : Int → Int → Int) (en ch : Int), (mz m ch).toNat = mm → jGet L 0 = some (rv (me)) → jGet L 1 = some (rv (p)) → jGet L 2 = some (.int (i32 en)) → jGet L 3 = some (rv ch) → HC 0 m tg ln Fx → Fq 0 [(2, 7), (2, 8), (2, 11), (20, -5), (21, -5), (2, 10), (7, 6), (7, 9)] m tg F Fx → ((-2147483648 : Int) ≤ en ∧ en ≤ 2147483647) → (ch = 0 ∨ (own m ch ∧ tg ch = 8)) → (SN m tg F ch (kk - 1)) → wj X d jm71 (10, L, [], cV R m tg ln Fx) (fun o V_q => ∃ (F_q : Int → Int → Int), V_q = cV R m tg ln F_q ∧ o = .inl none ∧ HC 0 m tg ln F_q ∧ Fq 0 [(2, 7), (2, 8), (2, 11), (20, -5), (21, -5), (2, 10), (7, 6), (7, 9)] m tg F F_q ∧ True) := by
  intro mm
  induction mm using Nat.strongRecOn with
  | ind mm ih =>
    intro L Fx en ch hmm gL_0 gL_1 gL_2 gL_3 hCx hMx rx_en yx_ch sx_ch
    have k1 := SN_p n_p (own_z o_p)
    have hE2 := hE (by omega)
    refine jx_ld (pc_q := 11) (l_q := L) (st_q := [rv (ch)]) rfl (jl_rvn gL_3) ?_
    refine cx_nul (pc_q := 14) (tg_q := 66) rfl rfl rfl (fun h3 => ?_) (fun h3 => ?_)
    · have _q := h3
      refine jx_ld (pc_q := 67) (l_q := L) (st_q := [rv (me)]) rfl (jl_rvn gL_0) ?_
      refine jx_ar (pc_q := 69) (st_q := [.int (i32 (29)), rv (me)]) rfl rfl rfl rfl ?_
      refine cx_vi (c := 1) (a := me) (st := []) (as := [.int (i32 (29))]) rfl rfl rfl o_me t_me (by decide) rfl ⟨rfl, rfl, (Nat.le_of_ble_eq_true rfl)⟩ rfl (k_LCoder_operation (dd := d) (R := R) (m := m) (tg := tg) (ln := ln) (F := Fx) (me := me) (op := 29) (hd := by omega) (hC := hCx) (o_me := o_me) (t_me := t_me) (h_op := by omega)) (fun o V_q hq => ?_)
      obtain ⟨F4, rfl, rfl, hC5, hM6, -⟩ := hq
      have hM7 : Fq 0 [(2, 7), (2, 8), (2, 11), (20, -5), (21, -5), (2, 10), (7, 6), (7, 9)] m tg F F4 := Fq_t (ln := ln) (ln1 := ln) hMx Ex_r hM6 (by decide) (Or.inl rfl)
      refine Or.inl ⟨rfl, ?_⟩
      refine jx_ld (pc_q := 73) (l_q := L) (st_q := [rv (me)]) rfl (jl_rvn gL_0) ?_
      refine jx_ld (pc_q := 74) (l_q := L) (st_q := [.int (i32 (en)), rv (me)]) rfl (jl_iloadn gL_2) ?_
      refine cx_vi (c := 1) (a := me) (st := []) (as := [.int (i32 (en))]) rfl rfl rfl o_me t_me (by decide) rfl ⟨rfl, rfl, (Nat.le_of_ble_eq_true rfl)⟩ rfl (k_LCoder_here (dd := d) (R := R) (m := m) (tg := tg) (ln := ln) (F := F4) (me := me) (lb := en) (hd := by omega) (hC := hC5) (o_me := o_me) (t_me := t_me) (h_lb := by omega)) (fun o V_q hq => ?_)
      obtain ⟨F8, rfl, rfl, hC9, hM10, -⟩ := hq
      have hM11 : Fq 0 [(2, 7), (2, 8), (2, 11), (20, -5), (21, -5), (2, 10), (7, 6), (7, 9)] m tg F F8 := Fq_t (ln := ln) (ln1 := ln) hM7 Ex_r hM10 (by decide) (Or.inl rfl)
      refine Or.inl ⟨rfl, ?_⟩
      refine jx_rt (v := none) rfl rfl rfl rfl rfl rfl ?_
      exact ⟨F8, rfl, rfl, hC9, hM11, trivial⟩
    · have _q := h3
      have ho12 : own m (ch) ∧ tg (ch) = 8 := yx_ch.resolve_left h3
      have k13 := SN_p sx_ch h3
      refine jx_ld (pc_q := 15) (l_q := L) (st_q := [rv (me)]) rfl (jl_rvn gL_0) ?_
      refine cx_vi (c := 1) (a := me) (st := []) (as := []) rfl rfl rfl o_me t_me (by decide) rfl ⟨rfl, rfl, (Nat.le_of_ble_eq_true rfl)⟩ rfl (k_LCoder_newLabel (dd := d) (R := R) (m := m) (tg := tg) (ln := ln) (F := Fx) (me := me) (hd := by omega) (hC := hCx) (o_me := o_me) (t_me := t_me)) (fun o V_q hq => ?_)
      obtain ⟨F14, r15, rfl, rfl, hC16, hM17, b18, -⟩ := hq
      have hM19 : Fq 0 [(2, 7), (2, 8), (2, 11), (20, -5), (21, -5), (2, 10), (7, 6), (7, 9)] m tg F F14 := Fq_t (ln := ln) (ln1 := ln) hMx Ex_r hM17 (by decide) (Or.inl rfl)
      refine Or.inr (Or.inl ⟨_, rfl, ?_⟩)
      refine jx_ld (pc_q := 20) (l_q := jSto1 L 4 (.int (i32 (r15)))) (st_q := []) rfl rfl ?_
      obtain ⟨L20, eL20⟩ : ∃ q : jL, q = jSto1 L 4 (.int (i32 (r15))) := ⟨_, rfl⟩
      rw [← eL20]
      have g21 : jGet L20 0 = some (rv (me)) := eL20 ▸ jg_nr (by decide) gL_0
      have g22 : jGet L20 1 = some (rv (p)) := eL20 ▸ jg_nr (by decide) gL_1
      have g23 : jGet L20 2 = some (.int (i32 (en))) := eL20 ▸ jg_ne (by decide) gL_2 rfl
      have g24 : jGet L20 3 = some (rv (ch)) := eL20 ▸ jg_nr (by decide) gL_3
      have g25 : jGet L20 4 = some (.int (i32 (r15))) := eL20 ▸ jg_eq
      clear eL20
      refine jx_ld (pc_q := 21) (l_q := L20) (st_q := [rv (me)]) rfl (jl_rvn g21) ?_
      refine jx_ld (pc_q := 22) (l_q := L20) (st_q := [rv (ch), rv (me)]) rfl (jl_rvn g24) ?_
      refine cx_gr (pc_q := 25) (c := 7) (q := 4) (v := F (ch) (4 : Int)) rfl rfl (by decide) (by decide) rfl rfl ho12.1 ho12.2 ((show F14 (ch) (4 : Int) = Fx (ch) (4 : Int) from hM17 _ _ ho12.1 (own_z ho12.1) (by rw [ho12.2]; rfl)).trans (show Fx (ch) (4 : Int) = F (ch) (4 : Int) from hMx _ _ ho12.1 (own_z ho12.1) (by rw [ho12.2]; rfl))) ?_
      have y26 : F (ch) (4 : Int) = 0 ∨ (own m (F (ch) (4 : Int)) ∧ tg (F (ch) (4 : Int)) = 8) := by have z := HC_r (c := 7) (q := 4) hC16 ho12.1 ho12.2 (by decide) rfl; rw [show F14 (ch) ((4 : Nat) : Int) = F (ch) (4 : Int) from ((show F14 (ch) (4 : Int) = Fx (ch) (4 : Int) from hM17 _ _ ho12.1 (own_z ho12.1) (by rw [ho12.2]; rfl)).trans (show Fx (ch) (4 : Int) = F (ch) (4 : Int) from hMx _ _ ho12.1 (own_z ho12.1) (by rw [ho12.2]; rfl)))] at z; exact z
      refine cx_vi (c := 1) (a := me) (st := []) (as := [rv (F (ch) (4 : Int))]) rfl rfl rfl o_me t_me (by decide) rfl ⟨rfl, rfl, (Nat.le_of_ble_eq_true rfl)⟩ rfl (CVx_all X ((kk - 1) - 1) (dd := d) (R := R) (m := m) (tg := tg) (ln := ln) (F := F14) (me := me) (e := F (ch) (4 : Int)) (hd := by omega) (hC := hC16) (o_me := o_me) (t_me := t_me) (y_e := y26) (c_NT := NT_q hC c_NT hM19 rfl) (n_e := (SN_q (SN_w (SN_c hC c_NT sx_ch (own_z ho12.1) (by omega)) (by omega)) hM19 rfl rfl))) (fun o V_q hq => ?_)
      obtain ⟨F27, rfl, rfl, hC28, hM29, -⟩ := hq
      have hM30 : Fq 0 [(2, 7), (2, 8), (2, 11), (20, -5), (21, -5), (2, 10), (7, 6), (7, 9)] m tg F F27 := Fq_t (ln := ln) (ln1 := ln) hM19 Ex_r hM29 (by decide) (Or.inl rfl)
      refine Or.inl ⟨rfl, ?_⟩
      refine jx_ld (pc_q := 29) (l_q := L20) (st_q := [rv (me)]) rfl (jl_rvn g21) ?_
      refine jx_ar (pc_q := 31) (st_q := [.int (i32 (10)), rv (me)]) rfl rfl rfl rfl ?_
      refine jx_ld (pc_q := 33) (l_q := L20) (st_q := [.int (i32 (r15)), .int (i32 (10)), rv (me)]) rfl (jl_iload g25) ?_
      refine jx_ar (pc_q := 34) (st_q := [.int (i32 (-1)), .int (i32 (r15)), .int (i32 (10)), rv (me)]) rfl rfl rfl rfl ?_
      refine cx_vi (c := 1) (a := me) (st := []) (as := [.int (i32 (10)), .int (i32 (r15)), .int (i32 (-1))]) rfl rfl rfl o_me t_me (by decide) rfl ⟨rfl, rfl, (Nat.le_of_ble_eq_true rfl)⟩ rfl (k_LCoder_way (dd := d) (R := R) (m := m) (tg := tg) (ln := ln) (F := F27) (me := me) (fu := 10) (lb := r15) (og := -1) (hd := by omega) (hC := hC28) (o_me := o_me) (t_me := t_me) (h_fu := by omega) (h_lb := by omega) (h_og := by omega)) (fun o V_q hq => ?_)
      obtain ⟨F31, rfl, rfl, hC32, hM33, -⟩ := hq
      have hM34 : Fq 0 [(2, 7), (2, 8), (2, 11), (20, -5), (21, -5), (2, 10), (7, 6), (7, 9)] m tg F F31 := Fq_t (ln := ln) (ln1 := ln) hM30 Ex_r hM33 (by decide) (Or.inl rfl)
      refine Or.inl ⟨rfl, ?_⟩
      refine jx_ld (pc_q := 38) (l_q := L20) (st_q := [rv (me)]) rfl (jl_rvn g21) ?_
      refine jx_ld (pc_q := 39) (l_q := L20) (st_q := [rv (ch), rv (me)]) rfl (jl_rvn g24) ?_
      refine cx_gr (pc_q := 42) (c := 7) (q := 7) (v := F (ch) (7 : Int)) rfl rfl (by decide) (by decide) rfl rfl ho12.1 ho12.2 ((show F31 (ch) (7 : Int) = F27 (ch) (7 : Int) from hM33 _ _ ho12.1 (own_z ho12.1) (by rw [ho12.2]; rfl)).trans ((show F27 (ch) (7 : Int) = F14 (ch) (7 : Int) from hM29 _ _ ho12.1 (own_z ho12.1) (by rw [ho12.2]; rfl)).trans ((show F14 (ch) (7 : Int) = Fx (ch) (7 : Int) from hM17 _ _ ho12.1 (own_z ho12.1) (by rw [ho12.2]; rfl)).trans (show Fx (ch) (7 : Int) = F (ch) (7 : Int) from hMx _ _ ho12.1 (own_z ho12.1) (by rw [ho12.2]; rfl))))) ?_
      have y35 : F (ch) (7 : Int) = 0 ∨ (own m (F (ch) (7 : Int)) ∧ tg (F (ch) (7 : Int)) = 8) := by have z := HC_r (c := 7) (q := 7) hC32 ho12.1 ho12.2 (by decide) rfl; rw [show F31 (ch) ((7 : Nat) : Int) = F (ch) (7 : Int) from ((show F31 (ch) (7 : Int) = F27 (ch) (7 : Int) from hM33 _ _ ho12.1 (own_z ho12.1) (by rw [ho12.2]; rfl)).trans ((show F27 (ch) (7 : Int) = F14 (ch) (7 : Int) from hM29 _ _ ho12.1 (own_z ho12.1) (by rw [ho12.2]; rfl)).trans ((show F14 (ch) (7 : Int) = Fx (ch) (7 : Int) from hM17 _ _ ho12.1 (own_z ho12.1) (by rw [ho12.2]; rfl)).trans (show Fx (ch) (7 : Int) = F (ch) (7 : Int) from hMx _ _ ho12.1 (own_z ho12.1) (by rw [ho12.2]; rfl)))))] at z; exact z
      refine cx_vi (c := 1) (a := me) (st := []) (as := [rv (F (ch) (7 : Int))]) rfl rfl rfl o_me t_me (by decide) rfl ⟨rfl, rfl, (Nat.le_of_ble_eq_true rfl)⟩ rfl (hE2 (dd := d) (R := R) (m := m) (tg := tg) (ln := ln) (F := F31) (me := me) (p := F (ch) (7 : Int)) (hd := by omega) (hC := hC32) (o_me := o_me) (t_me := t_me) (y_p := y35) (c_NT := NT_q hC c_NT hM34 rfl) (n_p := (SN_q (SN_w (k_q := kk - 1) (SN_c hC c_NT sx_ch (own_z ho12.1) (by omega)) (by omega)) hM34 rfl rfl))) (fun o V_q hq => ?_)
      obtain ⟨F36, rfl, rfl, hC37, hM38, -⟩ := hq
      have hM39 : Fq 0 [(2, 7), (2, 8), (2, 11), (20, -5), (21, -5), (2, 10), (7, 6), (7, 9)] m tg F F36 := Fq_t (ln := ln) (ln1 := ln) hM34 Ex_r hM38 (by decide) (Or.inl rfl)
      refine Or.inl ⟨rfl, ?_⟩
      refine jx_ld (pc_q := 46) (l_q := L20) (st_q := [rv (me)]) rfl (jl_rvn g21) ?_
      refine jx_ar (pc_q := 47) (st_q := [.int (i32 (0)), rv (me)]) rfl rfl rfl rfl ?_
      refine jx_ld (pc_q := 48) (l_q := L20) (st_q := [.int (i32 (en)), .int (i32 (0)), rv (me)]) rfl (jl_iloadn g23) ?_
      refine jx_ar (pc_q := 49) (st_q := [.int (i32 (-1)), .int (i32 (en)), .int (i32 (0)), rv (me)]) rfl rfl rfl rfl ?_
      refine cx_vi (c := 1) (a := me) (st := []) (as := [.int (i32 (0)), .int (i32 (en)), .int (i32 (-1))]) rfl rfl rfl o_me t_me (by decide) rfl ⟨rfl, rfl, (Nat.le_of_ble_eq_true rfl)⟩ rfl (k_LCoder_way (dd := d) (R := R) (m := m) (tg := tg) (ln := ln) (F := F36) (me := me) (fu := 0) (lb := en) (og := -1) (hd := by omega) (hC := hC37) (o_me := o_me) (t_me := t_me) (h_fu := by omega) (h_lb := by omega) (h_og := by omega)) (fun o V_q hq => ?_)
      obtain ⟨F40, rfl, rfl, hC41, hM42, -⟩ := hq
      have hM43 : Fq 0 [(2, 7), (2, 8), (2, 11), (20, -5), (21, -5), (2, 10), (7, 6), (7, 9)] m tg F F40 := Fq_t (ln := ln) (ln1 := ln) hM39 Ex_r hM42 (by decide) (Or.inl rfl)
      refine Or.inl ⟨rfl, ?_⟩
      refine jx_ld (pc_q := 53) (l_q := L20) (st_q := [rv (me)]) rfl (jl_rvn g21) ?_
      refine jx_ld (pc_q := 55) (l_q := L20) (st_q := [.int (i32 (r15)), rv (me)]) rfl (jl_iload g25) ?_
      refine cx_vi (c := 1) (a := me) (st := []) (as := [.int (i32 (r15))]) rfl rfl rfl o_me t_me (by decide) rfl ⟨rfl, rfl, (Nat.le_of_ble_eq_true rfl)⟩ rfl (k_LCoder_here (dd := d) (R := R) (m := m) (tg := tg) (ln := ln) (F := F40) (me := me) (lb := r15) (hd := by omega) (hC := hC41) (o_me := o_me) (t_me := t_me) (h_lb := by omega)) (fun o V_q hq => ?_)
      obtain ⟨F44, rfl, rfl, hC45, hM46, -⟩ := hq
      have hM47 : Fq 0 [(2, 7), (2, 8), (2, 11), (20, -5), (21, -5), (2, 10), (7, 6), (7, 9)] m tg F F44 := Fq_t (ln := ln) (ln1 := ln) hM43 Ex_r hM46 (by decide) (Or.inl rfl)
      refine Or.inl ⟨rfl, ?_⟩
      refine jx_ld (pc_q := 59) (l_q := L20) (st_q := [rv (ch)]) rfl (jl_rvn g24) ?_
      refine cx_gr (pc_q := 62) (c := 7) (q := 8) (v := F (ch) (8 : Int)) rfl rfl (by decide) (by decide) rfl rfl ho12.1 ho12.2 ((show F44 (ch) (8 : Int) = F40 (ch) (8 : Int) from hM46 _ _ ho12.1 (own_z ho12.1) (by rw [ho12.2]; rfl)).trans ((show F40 (ch) (8 : Int) = F36 (ch) (8 : Int) from hM42 _ _ ho12.1 (own_z ho12.1) (by rw [ho12.2]; rfl)).trans ((show F36 (ch) (8 : Int) = F31 (ch) (8 : Int) from hM38 _ _ ho12.1 (own_z ho12.1) (by rw [ho12.2]; rfl)).trans ((show F31 (ch) (8 : Int) = F27 (ch) (8 : Int) from hM33 _ _ ho12.1 (own_z ho12.1) (by rw [ho12.2]; rfl)).trans ((show F27 (ch) (8 : Int) = F14 (ch) (8 : Int) from hM29 _ _ ho12.1 (own_z ho12.1) (by rw [ho12.2]; rfl)).trans ((show F14 (ch) (8 : Int) = Fx (ch) (8 : Int) from hM17 _ _ ho12.1 (own_z ho12.1) (by rw [ho12.2]; rfl)).trans (show Fx (ch) (8 : Int) = F (ch) (8 : Int) from hMx _ _ ho12.1 (own_z ho12.1) (by rw [ho12.2]; rfl)))))))) ?_
      have y48 : F (ch) (8 : Int) = 0 ∨ (own m (F (ch) (8 : Int)) ∧ tg (F (ch) (8 : Int)) = 8) := by have z := HC_r (c := 7) (q := 8) hC45 ho12.1 ho12.2 (by decide) rfl; rw [show F44 (ch) ((8 : Nat) : Int) = F (ch) (8 : Int) from ((show F44 (ch) (8 : Int) = F40 (ch) (8 : Int) from hM46 _ _ ho12.1 (own_z ho12.1) (by rw [ho12.2]; rfl)).trans ((show F40 (ch) (8 : Int) = F36 (ch) (8 : Int) from hM42 _ _ ho12.1 (own_z ho12.1) (by rw [ho12.2]; rfl)).trans ((show F36 (ch) (8 : Int) = F31 (ch) (8 : Int) from hM38 _ _ ho12.1 (own_z ho12.1) (by rw [ho12.2]; rfl)).trans ((show F31 (ch) (8 : Int) = F27 (ch) (8 : Int) from hM33 _ _ ho12.1 (own_z ho12.1) (by rw [ho12.2]; rfl)).trans ((show F27 (ch) (8 : Int) = F14 (ch) (8 : Int) from hM29 _ _ ho12.1 (own_z ho12.1) (by rw [ho12.2]; rfl)).trans ((show F14 (ch) (8 : Int) = Fx (ch) (8 : Int) from hM17 _ _ ho12.1 (own_z ho12.1) (by rw [ho12.2]; rfl)).trans (show Fx (ch) (8 : Int) = F (ch) (8 : Int) from hMx _ _ ho12.1 (own_z ho12.1) (by rw [ho12.2]; rfl))))))))] at z; exact z
      have z49 := mz_n hC c_NT sx_ch (own_z ho12.1)
      refine jx_ld (pc_q := 63) (l_q := jSto1 L20 3 (rv (F (ch) (8 : Int)))) (st_q := []) rfl (js_rvn (by decide)) ?_
      obtain ⟨L50, eL50⟩ : ∃ q : jL, q = jSto1 L20 3 (rv (F (ch) (8 : Int))) := ⟨_, rfl⟩
      rw [← eL50]
      have g51 : jGet L50 0 = some (rv (me)) := eL50 ▸ jg_nr (by decide) g21
      have g52 : jGet L50 1 = some (rv (p)) := eL50 ▸ jg_nr (by decide) g22
      have g53 : jGet L50 2 = some (.int (i32 (en))) := eL50 ▸ jg_ne (by decide) g23 rfl
      have g54 : jGet L50 4 = some (.int (i32 (r15))) := eL50 ▸ jg_ne (by decide) g25 rfl
      have g55 : jGet L50 3 = some (rv (F (ch) (8 : Int))) := eL50 ▸ jg_eq
      clear eL50
      refine jx_go (tg := 10) rfl rfl ?_
      exact ih _ (by omega) L50 F44 (en) (F (ch) (8 : Int)) rfl g51 g52 g53 g55 hC45 hM47 (by omega) y48 (SN_w (SN_n hC c_NT sx_ch (own_z ho12.1)) (by omega))
set_option maxRecDepth 20000 in
set_option maxHeartbeats 4000000 in
theorem k_LCoder_choose {X : jX} {kk : Nat} (hE : 1 ≤ kk → CPx X (kk - 1)) {dd : Nat} {R : Nat → jC} {m : Nat} {tg ln : Int → Int} {F : Int → Int → Int} {me p : Int} (hd : 3 * kk + 15 ≤ dd) (hC : HC 0 m tg ln F) (o_me : own m me) (t_me : tg me = 2) (o_p : own m p) (t_p : tg p = 8) (c_NT : NT m tg F) (n_p : SN m tg F p (kk)) : wk X dd 71 [rv me, rv p] (cV R m tg ln F) (fun o V_q => ∃ (F_q : Int → Int → Int), V_q = cV R m tg ln F_q ∧ o = .inl none ∧ HC 0 m tg ln F_q ∧ Fq 0 [(2, 7), (2, 8), (2, 11), (20, -5), (21, -5), (2, 10), (7, 6), (7, 9)] m tg F F_q ∧ True) := by
  obtain ⟨d, rfl⟩ : ∃ d, dd = d + 1 := ⟨dd - 1, by omega⟩
  refine wk_of (e := jm71) rfl (by rw [jS_r, jS_r, jS_0]; exact Nat.le_of_ble_eq_true rfl) ?_
  rw [la_r, la_r, la_0]
  show wj X d jm71 (0, [(0, rv (me)), (1, rv (p))], [], cV R m tg ln F) _
  have hM0 : Fq 0 [(2, 7), (2, 8), (2, 11), (20, -5), (21, -5), (2, 10), (7, 6), (7, 9)] m tg F F := Fq_r
  obtain ⟨L0, eL0⟩ : ∃ q : jL, q = [(0, rv (me)), (1, rv (p))] := ⟨_, rfl⟩
  rw [← eL0]
  have g56 : jGet L0 0 = some (rv (me)) := eL0 ▸ (rfl : jGet [(0, rv (me)), (1, rv (p))] 0 = some (rv (me)))
  have g57 : jGet L0 1 = some (rv (p)) := eL0 ▸ (rfl : jGet [(0, rv (me)), (1, rv (p))] 1 = some (rv (p)))
  clear eL0
  have k58 := SN_p n_p (own_z o_p)
  have hE59 := hE (by omega)
  refine jx_ld (pc_q := 1) (l_q := L0) (st_q := [rv (me)]) rfl (jl_rvn g56) ?_
  refine cx_vi (c := 1) (a := me) (st := []) (as := []) rfl rfl rfl o_me t_me (by decide) rfl ⟨rfl, rfl, (Nat.le_of_ble_eq_true rfl)⟩ rfl (k_LCoder_newLabel (dd := d) (R := R) (m := m) (tg := tg) (ln := ln) (F := F) (me := me) (hd := by omega) (hC := hC) (o_me := o_me) (t_me := t_me)) (fun o V_q hq => ?_)
  obtain ⟨F60, r61, rfl, rfl, hC62, hM63, b64, -⟩ := hq
  have hM65 : Fq 0 [(2, 7), (2, 8), (2, 11), (20, -5), (21, -5), (2, 10), (7, 6), (7, 9)] m tg F F60 := Fq_t (ln := ln) (ln1 := ln) hM0 Ex_r hM63 (by decide) (Or.inl rfl)
  refine Or.inr (Or.inl ⟨_, rfl, ?_⟩)
  refine jx_ld (pc_q := 5) (l_q := jSto1 L0 2 (.int (i32 (r61)))) (st_q := []) rfl rfl ?_
  obtain ⟨L66, eL66⟩ : ∃ q : jL, q = jSto1 L0 2 (.int (i32 (r61))) := ⟨_, rfl⟩
  rw [← eL66]
  have g67 : jGet L66 0 = some (rv (me)) := eL66 ▸ jg_nr (by decide) g56
  have g68 : jGet L66 1 = some (rv (p)) := eL66 ▸ jg_nr (by decide) g57
  have g69 : jGet L66 2 = some (.int (i32 (r61))) := eL66 ▸ jg_eq
  clear eL66
  refine jx_ld (pc_q := 6) (l_q := L66) (st_q := [rv (p)]) rfl (jl_rvn g68) ?_
  refine cx_gr (pc_q := 9) (c := 7) (q := 4) (v := F (p) (4 : Int)) rfl rfl (by decide) (by decide) rfl rfl o_p t_p (show F60 (p) (4 : Int) = F (p) (4 : Int) from hM63 _ _ o_p (own_z o_p) (by rw [t_p]; rfl)) ?_
  have y70 : F (p) (4 : Int) = 0 ∨ (own m (F (p) (4 : Int)) ∧ tg (F (p) (4 : Int)) = 8) := by have z := HC_r (c := 7) (q := 4) hC62 o_p t_p (by decide) rfl; rw [show F60 (p) ((4 : Nat) : Int) = F (p) (4 : Int) from (show F60 (p) (4 : Int) = F (p) (4 : Int) from hM63 _ _ o_p (own_z o_p) (by rw [t_p]; rfl))] at z; exact z
  refine jx_ld (pc_q := 10) (l_q := jSto1 L66 3 (rv (F (p) (4 : Int)))) (st_q := []) rfl (js_rvn (by decide)) ?_
  obtain ⟨L71, eL71⟩ : ∃ q : jL, q = jSto1 L66 3 (rv (F (p) (4 : Int))) := ⟨_, rfl⟩
  rw [← eL71]
  have g72 : jGet L71 0 = some (rv (me)) := eL71 ▸ jg_nr (by decide) g67
  have g73 : jGet L71 1 = some (rv (p)) := eL71 ▸ jg_nr (by decide) g68
  have g74 : jGet L71 2 = some (.int (i32 (r61))) := eL71 ▸ jg_ne (by decide) g69 rfl
  have g75 : jGet L71 3 = some (rv (F (p) (4 : Int))) := eL71 ▸ jg_eq
  clear eL71
  exact k_LCoder_choose_at_10 (X := X) (kk := kk) (hE := hE) (d := d) (R := R) (m := m) (tg := tg) (ln := ln) (F := F) (me := me) (p := p) (hd := hd) (hC := hC) (o_me := o_me) (t_me := t_me) (o_p := o_p) (t_p := t_p) (c_NT := c_NT) (n_p := n_p) _ L71 F60 (r61) (F (p) (4 : Int)) rfl g72 g73 g74 g75 hC62 hM65 (by omega) y70 (SN_w (SN_c hC c_NT n_p (own_z o_p) (by omega)) (by omega))
set_option maxRecDepth 20000 in
set_option maxHeartbeats 4000000 in
theorem k_LCoder_repeat {X : jX} {kk : Nat} (hE : 1 ≤ kk → CPx X (kk - 1)) {dd : Nat} {R : Nat → jC} {m : Nat} {tg ln : Int → Int} {F : Int → Int → Int} {me p : Int} (hd : 3 * kk + 15 ≤ dd) (hC : HC 0 m tg ln F) (o_me : own m me) (t_me : tg me = 2) (o_p : own m p) (t_p : tg p = 8) (c_NT : NT m tg F) (n_p : SN m tg F p (kk)) : wk X dd 72 [rv me, rv p] (cV R m tg ln F) (fun o V_q => ∃ (F_q : Int → Int → Int), V_q = cV R m tg ln F_q ∧ o = .inl none ∧ HC 0 m tg ln F_q ∧ Fq 0 [(2, 7), (2, 8), (2, 11), (20, -5), (21, -5), (2, 10), (7, 6), (7, 9)] m tg F F_q ∧ True) := by
  obtain ⟨d, rfl⟩ : ∃ d, dd = d + 1 := ⟨dd - 1, by omega⟩
  refine wk_of (e := jm72) rfl (by rw [jS_r, jS_r, jS_0]; exact Nat.le_of_ble_eq_true rfl) ?_
  rw [la_r, la_r, la_0]
  show wj X d jm72 (0, [(0, rv (me)), (1, rv (p))], [], cV R m tg ln F) _
  have hM0 : Fq 0 [(2, 7), (2, 8), (2, 11), (20, -5), (21, -5), (2, 10), (7, 6), (7, 9)] m tg F F := Fq_r
  obtain ⟨L0, eL0⟩ : ∃ q : jL, q = [(0, rv (me)), (1, rv (p))] := ⟨_, rfl⟩
  rw [← eL0]
  have g1 : jGet L0 0 = some (rv (me)) := eL0 ▸ (rfl : jGet [(0, rv (me)), (1, rv (p))] 0 = some (rv (me)))
  have g2 : jGet L0 1 = some (rv (p)) := eL0 ▸ (rfl : jGet [(0, rv (me)), (1, rv (p))] 1 = some (rv (p)))
  clear eL0
  have k3 := SN_p n_p (own_z o_p)
  have hE4 := hE (by omega)
  refine jx_ld (pc_q := 1) (l_q := L0) (st_q := [rv (me)]) rfl (jl_rvn g1) ?_
  refine cx_vi (c := 1) (a := me) (st := []) (as := []) rfl rfl rfl o_me t_me (by decide) rfl ⟨rfl, rfl, (Nat.le_of_ble_eq_true rfl)⟩ rfl (k_LCoder_newLabel (dd := d) (R := R) (m := m) (tg := tg) (ln := ln) (F := F) (me := me) (hd := by omega) (hC := hC) (o_me := o_me) (t_me := t_me)) (fun o V_q hq => ?_)
  obtain ⟨F5, r6, rfl, rfl, hC7, hM8, b9, -⟩ := hq
  have hM10 : Fq 0 [(2, 7), (2, 8), (2, 11), (20, -5), (21, -5), (2, 10), (7, 6), (7, 9)] m tg F F5 := Fq_t (ln := ln) (ln1 := ln) hM0 Ex_r hM8 (by decide) (Or.inl rfl)
  refine Or.inr (Or.inl ⟨_, rfl, ?_⟩)
  refine jx_ld (pc_q := 5) (l_q := jSto1 L0 2 (.int (i32 (r6)))) (st_q := []) rfl rfl ?_
  obtain ⟨L11, eL11⟩ : ∃ q : jL, q = jSto1 L0 2 (.int (i32 (r6))) := ⟨_, rfl⟩
  rw [← eL11]
  have g12 : jGet L11 0 = some (rv (me)) := eL11 ▸ jg_nr (by decide) g1
  have g13 : jGet L11 1 = some (rv (p)) := eL11 ▸ jg_nr (by decide) g2
  have g14 : jGet L11 2 = some (.int (i32 (r6))) := eL11 ▸ jg_eq
  clear eL11
  refine jx_ld (pc_q := 6) (l_q := L11) (st_q := [rv (me)]) rfl (jl_rvn g12) ?_
  refine cx_vi (c := 1) (a := me) (st := []) (as := []) rfl rfl rfl o_me t_me (by decide) rfl ⟨rfl, rfl, (Nat.le_of_ble_eq_true rfl)⟩ rfl (k_LCoder_newLabel (dd := d) (R := R) (m := m) (tg := tg) (ln := ln) (F := F5) (me := me) (hd := by omega) (hC := hC7) (o_me := o_me) (t_me := t_me)) (fun o V_q hq => ?_)
  obtain ⟨F15, r16, rfl, rfl, hC17, hM18, b19, -⟩ := hq
  have hM20 : Fq 0 [(2, 7), (2, 8), (2, 11), (20, -5), (21, -5), (2, 10), (7, 6), (7, 9)] m tg F F15 := Fq_t (ln := ln) (ln1 := ln) hM10 Ex_r hM18 (by decide) (Or.inl rfl)
  refine Or.inr (Or.inl ⟨_, rfl, ?_⟩)
  refine jx_ld (pc_q := 10) (l_q := jSto1 L11 3 (.int (i32 (r16)))) (st_q := []) rfl rfl ?_
  obtain ⟨L21, eL21⟩ : ∃ q : jL, q = jSto1 L11 3 (.int (i32 (r16))) := ⟨_, rfl⟩
  rw [← eL21]
  have g22 : jGet L21 0 = some (rv (me)) := eL21 ▸ jg_nr (by decide) g12
  have g23 : jGet L21 1 = some (rv (p)) := eL21 ▸ jg_nr (by decide) g13
  have g24 : jGet L21 2 = some (.int (i32 (r6))) := eL21 ▸ jg_ne (by decide) g14 rfl
  have g25 : jGet L21 3 = some (.int (i32 (r16))) := eL21 ▸ jg_eq
  clear eL21
  refine jx_ld (pc_q := 11) (l_q := L21) (st_q := [rv (me)]) rfl (jl_rvn g22) ?_
  refine jx_ld (pc_q := 12) (l_q := L21) (st_q := [.int (i32 (r6)), rv (me)]) rfl (jl_iloadn g24) ?_
  refine cx_vi (c := 1) (a := me) (st := []) (as := [.int (i32 (r6))]) rfl rfl rfl o_me t_me (by decide) rfl ⟨rfl, rfl, (Nat.le_of_ble_eq_true rfl)⟩ rfl (k_LCoder_here (dd := d) (R := R) (m := m) (tg := tg) (ln := ln) (F := F15) (me := me) (lb := r6) (hd := by omega) (hC := hC17) (o_me := o_me) (t_me := t_me) (h_lb := by omega)) (fun o V_q hq => ?_)
  obtain ⟨F26, rfl, rfl, hC27, hM28, -⟩ := hq
  have hM29 : Fq 0 [(2, 7), (2, 8), (2, 11), (20, -5), (21, -5), (2, 10), (7, 6), (7, 9)] m tg F F26 := Fq_t (ln := ln) (ln1 := ln) hM20 Ex_r hM28 (by decide) (Or.inl rfl)
  refine Or.inl ⟨rfl, ?_⟩
  refine jx_ld (pc_q := 16) (l_q := L21) (st_q := [rv (me)]) rfl (jl_rvn g22) ?_
  refine jx_ld (pc_q := 17) (l_q := L21) (st_q := [rv (p), rv (me)]) rfl (jl_rvn g23) ?_
  refine cx_gr (pc_q := 20) (c := 7) (q := 4) (v := F (p) (4 : Int)) rfl rfl (by decide) (by decide) rfl rfl o_p t_p ((show F26 (p) (4 : Int) = F15 (p) (4 : Int) from hM28 _ _ o_p (own_z o_p) (by rw [t_p]; rfl)).trans ((show F15 (p) (4 : Int) = F5 (p) (4 : Int) from hM18 _ _ o_p (own_z o_p) (by rw [t_p]; rfl)).trans (show F5 (p) (4 : Int) = F (p) (4 : Int) from hM8 _ _ o_p (own_z o_p) (by rw [t_p]; rfl)))) ?_
  have y30 : F (p) (4 : Int) = 0 ∨ (own m (F (p) (4 : Int)) ∧ tg (F (p) (4 : Int)) = 8) := by have z := HC_r (c := 7) (q := 4) hC27 o_p t_p (by decide) rfl; rw [show F26 (p) ((4 : Nat) : Int) = F (p) (4 : Int) from ((show F26 (p) (4 : Int) = F15 (p) (4 : Int) from hM28 _ _ o_p (own_z o_p) (by rw [t_p]; rfl)).trans ((show F15 (p) (4 : Int) = F5 (p) (4 : Int) from hM18 _ _ o_p (own_z o_p) (by rw [t_p]; rfl)).trans (show F5 (p) (4 : Int) = F (p) (4 : Int) from hM8 _ _ o_p (own_z o_p) (by rw [t_p]; rfl))))] at z; exact z
  refine cx_vi (c := 1) (a := me) (st := []) (as := [rv (F (p) (4 : Int))]) rfl rfl rfl o_me t_me (by decide) rfl ⟨rfl, rfl, (Nat.le_of_ble_eq_true rfl)⟩ rfl (CVx_all X ((kk) - 1) (dd := d) (R := R) (m := m) (tg := tg) (ln := ln) (F := F26) (me := me) (e := F (p) (4 : Int)) (hd := by omega) (hC := hC27) (o_me := o_me) (t_me := t_me) (y_e := y30) (c_NT := NT_q hC c_NT hM29 rfl) (n_e := (SN_q (SN_w (SN_c hC c_NT n_p (own_z o_p) (by omega)) (by omega)) hM29 rfl rfl))) (fun o V_q hq => ?_)
  obtain ⟨F31, rfl, rfl, hC32, hM33, -⟩ := hq
  have hM34 : Fq 0 [(2, 7), (2, 8), (2, 11), (20, -5), (21, -5), (2, 10), (7, 6), (7, 9)] m tg F F31 := Fq_t (ln := ln) (ln1 := ln) hM29 Ex_r hM33 (by decide) (Or.inl rfl)
  refine Or.inl ⟨rfl, ?_⟩
  refine jx_ld (pc_q := 24) (l_q := L21) (st_q := [rv (me)]) rfl (jl_rvn g22) ?_
  refine jx_ar (pc_q := 26) (st_q := [.int (i32 (10)), rv (me)]) rfl rfl rfl rfl ?_
  refine jx_ld (pc_q := 27) (l_q := L21) (st_q := [.int (i32 (r16)), .int (i32 (10)), rv (me)]) rfl (jl_iloadn g25) ?_
  refine jx_ar (pc_q := 28) (st_q := [.int (i32 (-1)), .int (i32 (r16)), .int (i32 (10)), rv (me)]) rfl rfl rfl rfl ?_
  refine cx_vi (c := 1) (a := me) (st := []) (as := [.int (i32 (10)), .int (i32 (r16)), .int (i32 (-1))]) rfl rfl rfl o_me t_me (by decide) rfl ⟨rfl, rfl, (Nat.le_of_ble_eq_true rfl)⟩ rfl (k_LCoder_way (dd := d) (R := R) (m := m) (tg := tg) (ln := ln) (F := F31) (me := me) (fu := 10) (lb := r16) (og := -1) (hd := by omega) (hC := hC32) (o_me := o_me) (t_me := t_me) (h_fu := by omega) (h_lb := by omega) (h_og := by omega)) (fun o V_q hq => ?_)
  obtain ⟨F35, rfl, rfl, hC36, hM37, -⟩ := hq
  have hM38 : Fq 0 [(2, 7), (2, 8), (2, 11), (20, -5), (21, -5), (2, 10), (7, 6), (7, 9)] m tg F F35 := Fq_t (ln := ln) (ln1 := ln) hM34 Ex_r hM37 (by decide) (Or.inl rfl)
  refine Or.inl ⟨rfl, ?_⟩
  refine jx_ld (pc_q := 32) (l_q := L21) (st_q := [rv (me)]) rfl (jl_rvn g22) ?_
  refine jx_ld (pc_q := 33) (l_q := L21) (st_q := [rv (p), rv (me)]) rfl (jl_rvn g23) ?_
  refine cx_gr (pc_q := 36) (c := 7) (q := 7) (v := F (p) (7 : Int)) rfl rfl (by decide) (by decide) rfl rfl o_p t_p ((show F35 (p) (7 : Int) = F31 (p) (7 : Int) from hM37 _ _ o_p (own_z o_p) (by rw [t_p]; rfl)).trans ((show F31 (p) (7 : Int) = F26 (p) (7 : Int) from hM33 _ _ o_p (own_z o_p) (by rw [t_p]; rfl)).trans ((show F26 (p) (7 : Int) = F15 (p) (7 : Int) from hM28 _ _ o_p (own_z o_p) (by rw [t_p]; rfl)).trans ((show F15 (p) (7 : Int) = F5 (p) (7 : Int) from hM18 _ _ o_p (own_z o_p) (by rw [t_p]; rfl)).trans (show F5 (p) (7 : Int) = F (p) (7 : Int) from hM8 _ _ o_p (own_z o_p) (by rw [t_p]; rfl)))))) ?_
  have y39 : F (p) (7 : Int) = 0 ∨ (own m (F (p) (7 : Int)) ∧ tg (F (p) (7 : Int)) = 8) := by have z := HC_r (c := 7) (q := 7) hC36 o_p t_p (by decide) rfl; rw [show F35 (p) ((7 : Nat) : Int) = F (p) (7 : Int) from ((show F35 (p) (7 : Int) = F31 (p) (7 : Int) from hM37 _ _ o_p (own_z o_p) (by rw [t_p]; rfl)).trans ((show F31 (p) (7 : Int) = F26 (p) (7 : Int) from hM33 _ _ o_p (own_z o_p) (by rw [t_p]; rfl)).trans ((show F26 (p) (7 : Int) = F15 (p) (7 : Int) from hM28 _ _ o_p (own_z o_p) (by rw [t_p]; rfl)).trans ((show F15 (p) (7 : Int) = F5 (p) (7 : Int) from hM18 _ _ o_p (own_z o_p) (by rw [t_p]; rfl)).trans (show F5 (p) (7 : Int) = F (p) (7 : Int) from hM8 _ _ o_p (own_z o_p) (by rw [t_p]; rfl))))))] at z; exact z
  refine cx_vi (c := 1) (a := me) (st := []) (as := [rv (F (p) (7 : Int))]) rfl rfl rfl o_me t_me (by decide) rfl ⟨rfl, rfl, (Nat.le_of_ble_eq_true rfl)⟩ rfl (hE4 (dd := d) (R := R) (m := m) (tg := tg) (ln := ln) (F := F35) (me := me) (p := F (p) (7 : Int)) (hd := by omega) (hC := hC36) (o_me := o_me) (t_me := t_me) (y_p := y39) (c_NT := NT_q hC c_NT hM38 rfl) (n_p := (SN_q (SN_w (k_q := kk - 1) (SN_c hC c_NT n_p (own_z o_p) (by omega)) (by omega)) hM38 rfl rfl))) (fun o V_q hq => ?_)
  obtain ⟨F40, rfl, rfl, hC41, hM42, -⟩ := hq
  have hM43 : Fq 0 [(2, 7), (2, 8), (2, 11), (20, -5), (21, -5), (2, 10), (7, 6), (7, 9)] m tg F F40 := Fq_t (ln := ln) (ln1 := ln) hM38 Ex_r hM42 (by decide) (Or.inl rfl)
  refine Or.inl ⟨rfl, ?_⟩
  refine jx_ld (pc_q := 40) (l_q := L21) (st_q := [rv (me)]) rfl (jl_rvn g22) ?_
  refine jx_ar (pc_q := 41) (st_q := [.int (i32 (0)), rv (me)]) rfl rfl rfl rfl ?_
  refine jx_ld (pc_q := 42) (l_q := L21) (st_q := [.int (i32 (r6)), .int (i32 (0)), rv (me)]) rfl (jl_iloadn g24) ?_
  refine jx_ar (pc_q := 43) (st_q := [.int (i32 (-1)), .int (i32 (r6)), .int (i32 (0)), rv (me)]) rfl rfl rfl rfl ?_
  refine cx_vi (c := 1) (a := me) (st := []) (as := [.int (i32 (0)), .int (i32 (r6)), .int (i32 (-1))]) rfl rfl rfl o_me t_me (by decide) rfl ⟨rfl, rfl, (Nat.le_of_ble_eq_true rfl)⟩ rfl (k_LCoder_way (dd := d) (R := R) (m := m) (tg := tg) (ln := ln) (F := F40) (me := me) (fu := 0) (lb := r6) (og := -1) (hd := by omega) (hC := hC41) (o_me := o_me) (t_me := t_me) (h_fu := by omega) (h_lb := by omega) (h_og := by omega)) (fun o V_q hq => ?_)
  obtain ⟨F44, rfl, rfl, hC45, hM46, -⟩ := hq
  have hM47 : Fq 0 [(2, 7), (2, 8), (2, 11), (20, -5), (21, -5), (2, 10), (7, 6), (7, 9)] m tg F F44 := Fq_t (ln := ln) (ln1 := ln) hM43 Ex_r hM46 (by decide) (Or.inl rfl)
  refine Or.inl ⟨rfl, ?_⟩
  refine jx_ld (pc_q := 47) (l_q := L21) (st_q := [rv (me)]) rfl (jl_rvn g22) ?_
  refine jx_ld (pc_q := 48) (l_q := L21) (st_q := [.int (i32 (r16)), rv (me)]) rfl (jl_iloadn g25) ?_
  refine cx_vi (c := 1) (a := me) (st := []) (as := [.int (i32 (r16))]) rfl rfl rfl o_me t_me (by decide) rfl ⟨rfl, rfl, (Nat.le_of_ble_eq_true rfl)⟩ rfl (k_LCoder_here (dd := d) (R := R) (m := m) (tg := tg) (ln := ln) (F := F44) (me := me) (lb := r16) (hd := by omega) (hC := hC45) (o_me := o_me) (t_me := t_me) (h_lb := by omega)) (fun o V_q hq => ?_)
  obtain ⟨F48, rfl, rfl, hC49, hM50, -⟩ := hq
  have hM51 : Fq 0 [(2, 7), (2, 8), (2, 11), (20, -5), (21, -5), (2, 10), (7, 6), (7, 9)] m tg F F48 := Fq_t (ln := ln) (ln1 := ln) hM47 Ex_r hM50 (by decide) (Or.inl rfl)
  refine Or.inl ⟨rfl, ?_⟩
  refine jx_rt (v := none) rfl rfl rfl rfl rfl rfl ?_
  exact ⟨F48, rfl, rfl, hC49, hM51, trivial⟩
set_option maxRecDepth 20000 in
set_option maxHeartbeats 4000000 in
theorem k_LCoder_fork_at_96 {X : jX} {kk : Nat} (hE : 1 ≤ kk → CPx X (kk - 1)) {d : Nat} {R : Nat → jC} {m : Nat} {tg ln : Int → Int} {F : Int → Int → Int} {me p : Int} (hd : 3 * kk + 15 ≤ d + 1) (hC : HC 0 m tg ln F) (o_me : own m me) (t_me : tg me = 2) (o_p : own m p) (t_p : tg p = 8) (c_NT : NT m tg F) (n_p : SN m tg F p (kk)) : ∀ (mm : Nat) (L : jL) (Fx : Int → Int → Int) (bh fs be k b : Int), (2147483647 - k).toNat = mm → jGet L 0 = some (rv (me)) → jGet L 1 = some (rv (p)) → jGet L 2 = some (.int (i32 bh)) → jGet L 3 = some (.int (i32 fs)) → jGet L 4 = some (.int (i32 be)) → jGet L 6 = some (.int (i32 k)) → jGet L 5 = some (rv b) → HC 0 m tg ln Fx → Fq 0 [(2, 7), (2, 8), (2, 11), (20, -5), (21, -5), (2, 10), (7, 6), (7, 9)] m tg F Fx → ((-2147483648 : Int) ≤ bh ∧ bh ≤ 2147483647) → ((-2147483648 : Int) ≤ fs ∧ fs ≤ 2147483647) → ((-2147483648 : Int) ≤ be ∧ be ≤ 2147483647) → ((-2147483648 : Int) ≤ k ∧ k ≤ 2147483647) → (b = 0 ∨ (own m b ∧ tg b = 8)) → (0 ≤ k) → (SN m tg F b (kk - 1)) → wj X d jm73 (96, L, [], cV R m tg ln Fx) (fun o V_q => ∃ (F_q : Int → Int → Int), V_q = cV R m tg ln F_q ∧ o = .inl none ∧ HC 0 m tg ln F_q ∧ Fq 0 [(2, 7), (2, 8), (2, 11), (20, -5), (21, -5), (2, 10), (7, 6), (7, 9)] m tg F F_q ∧ True) := by
  intro mm
  induction mm using Nat.strongRecOn with
  | ind mm ih =>
    intro L Fx bh fs be k b hmm gL_0 gL_1 gL_2 gL_3 gL_4 gL_6 gL_5 hCx hMx rx_bh rx_fs rx_be rx_k yx_b iv_0 sx_b
    have k1 := SN_p n_p (own_z o_p)
    have hE2 := hE (by omega)
    refine jx_ld (pc_q := 98) (l_q := L) (st_q := [.int (i32 (k))]) rfl (jl_iload gL_6) ?_
    refine jx_ld (pc_q := 99) (l_q := L) (st_q := [rv (p), .int (i32 (k))]) rfl (jl_rvn gL_1) ?_
    refine cx_gi (pc_q := 102) (c := 7) (q := 2) (v := F (p) (2 : Int)) rfl rfl (by decide) (by decide) (Or.inl rfl) rfl o_p t_p (show Fx (p) (2 : Int) = F (p) (2 : Int) from hMx _ _ o_p (own_z o_p) (by rw [t_p]; rfl)) ?_
    have b3 : (-2147483648 : Int) ≤ F (p) (2 : Int) ∧ F (p) (2 : Int) ≤ 2147483647 := by have z := HC_i (c := 7) (q := 2) hCx o_p t_p (by decide) rfl; rw [show Fx (p) ((2 : Nat) : Int) = F (p) (2 : Int) from (show Fx (p) (2 : Int) = F (p) (2 : Int) from hMx _ _ o_p (own_z o_p) (by rw [t_p]; rfl))] at z; exact z
    refine jx_icmp_ge (pc_q := 105) (tg := 218) rfl rfl rfl (by omega) (by omega) (by omega) (by omega) (fun h4 => ?_) (fun h4 => ?_)
    · have _q := h4
      refine jx_ld (pc_q := 219) (l_q := L) (st_q := [rv (me)]) rfl (jl_rvn gL_0) ?_
      refine jx_ld (pc_q := 220) (l_q := L) (st_q := [.int (i32 (bh)), rv (me)]) rfl (jl_iloadn gL_2) ?_
      refine cx_vi (c := 1) (a := me) (st := []) (as := [.int (i32 (bh))]) rfl rfl rfl o_me t_me (by decide) rfl ⟨rfl, rfl, (Nat.le_of_ble_eq_true rfl)⟩ rfl (k_LCoder_here (dd := d) (R := R) (m := m) (tg := tg) (ln := ln) (F := Fx) (me := me) (lb := bh) (hd := by omega) (hC := hCx) (o_me := o_me) (t_me := t_me) (h_lb := by omega)) (fun o V_q hq => ?_)
      obtain ⟨F5, rfl, rfl, hC6, hM7, -⟩ := hq
      have hM8 : Fq 0 [(2, 7), (2, 8), (2, 11), (20, -5), (21, -5), (2, 10), (7, 6), (7, 9)] m tg F F5 := Fq_t (ln := ln) (ln1 := ln) hMx Ex_r hM7 (by decide) (Or.inl rfl)
      refine Or.inl ⟨rfl, ?_⟩
      refine jx_rt (v := none) rfl rfl rfl rfl rfl rfl ?_
      exact ⟨F5, rfl, rfl, hC6, hM8, trivial⟩
    · have _q := h4
      refine jx_ld (pc_q := 107) (l_q := L) (st_q := [rv (b)]) rfl (jl_rv gL_5) ?_
      refine cx_nul (pc_q := 110) (tg_q := 218) rfl rfl rfl (fun h9 => ?_) (fun h9 => ?_)
      · have _q := h9
        refine jx_ld (pc_q := 219) (l_q := L) (st_q := [rv (me)]) rfl (jl_rvn gL_0) ?_
        refine jx_ld (pc_q := 220) (l_q := L) (st_q := [.int (i32 (bh)), rv (me)]) rfl (jl_iloadn gL_2) ?_
        refine cx_vi (c := 1) (a := me) (st := []) (as := [.int (i32 (bh))]) rfl rfl rfl o_me t_me (by decide) rfl ⟨rfl, rfl, (Nat.le_of_ble_eq_true rfl)⟩ rfl (k_LCoder_here (dd := d) (R := R) (m := m) (tg := tg) (ln := ln) (F := Fx) (me := me) (lb := bh) (hd := by omega) (hC := hCx) (o_me := o_me) (t_me := t_me) (h_lb := by omega)) (fun o V_q hq => ?_)
        obtain ⟨F10, rfl, rfl, hC11, hM12, -⟩ := hq
        have hM13 : Fq 0 [(2, 7), (2, 8), (2, 11), (20, -5), (21, -5), (2, 10), (7, 6), (7, 9)] m tg F F10 := Fq_t (ln := ln) (ln1 := ln) hMx Ex_r hM12 (by decide) (Or.inl rfl)
        refine Or.inl ⟨rfl, ?_⟩
        refine jx_rt (v := none) rfl rfl rfl rfl rfl rfl ?_
        exact ⟨F10, rfl, rfl, hC11, hM13, trivial⟩
      · have _q := h9
        have ho14 : own m (b) ∧ tg (b) = 8 := yx_b.resolve_left h9
        have k15 := SN_p sx_b h9
        refine jx_ld (pc_q := 111) (l_q := L) (st_q := [rv (me)]) rfl (jl_rvn gL_0) ?_
        refine cx_gi (pc_q := 114) (c := 1) (q := 11) (v := Fx (me) (11 : Int)) rfl rfl (by decide) (by decide) (Or.inr rfl) rfl o_me t_me rfl ?_
        have b16 : (0 : Int) ≤ Fx (me) (11 : Int) ∧ Fx (me) (11 : Int) ≤ 1 := by have z := HC_i (c := 1) (q := 11) hCx o_me t_me (by decide) rfl; rw [show Fx (me) ((11 : Nat) : Int) = Fx (me) (11 : Int) from rfl] at z; exact z
        refine jx_if_ne (pc_q := 117) (tg := 218) rfl rfl rfl (by omega) (by omega) (fun h17 => ?_) (fun h17 => ?_)
        · have _q := h17
          refine jx_ld (pc_q := 219) (l_q := L) (st_q := [rv (me)]) rfl (jl_rvn gL_0) ?_
          refine jx_ld (pc_q := 220) (l_q := L) (st_q := [.int (i32 (bh)), rv (me)]) rfl (jl_iloadn gL_2) ?_
          refine cx_vi (c := 1) (a := me) (st := []) (as := [.int (i32 (bh))]) rfl rfl rfl o_me t_me (by decide) rfl ⟨rfl, rfl, (Nat.le_of_ble_eq_true rfl)⟩ rfl (k_LCoder_here (dd := d) (R := R) (m := m) (tg := tg) (ln := ln) (F := Fx) (me := me) (lb := bh) (hd := by omega) (hC := hCx) (o_me := o_me) (t_me := t_me) (h_lb := by omega)) (fun o V_q hq => ?_)
          obtain ⟨F18, rfl, rfl, hC19, hM20, -⟩ := hq
          have hM21 : Fq 0 [(2, 7), (2, 8), (2, 11), (20, -5), (21, -5), (2, 10), (7, 6), (7, 9)] m tg F F18 := Fq_t (ln := ln) (ln1 := ln) hMx Ex_r hM20 (by decide) (Or.inl rfl)
          refine Or.inl ⟨rfl, ?_⟩
          refine jx_rt (v := none) rfl rfl rfl rfl rfl rfl ?_
          exact ⟨F18, rfl, rfl, hC19, hM21, trivial⟩
        · have _q := h17
          refine jx_ld (pc_q := 118) (l_q := L) (st_q := [rv (me)]) rfl (jl_rvn gL_0) ?_
          refine jx_ld (pc_q := 119) (l_q := L) (st_q := [.int (i32 (fs)), rv (me)]) rfl (jl_iloadn gL_3) ?_
          refine jx_ld (pc_q := 121) (l_q := L) (st_q := [.int (i32 (k)), .int (i32 (fs)), rv (me)]) rfl (jl_iload gL_6) ?_
          refine jx_add (pc_q := 122) rfl rfl ?_
          obtain ⟨z22, ez22⟩ : ∃ q, q = (i32 ((fs + k))).toInt := ⟨_, rfl⟩
          have bz22 : (-2147483648 : Int) ≤ z22 ∧ z22 ≤ 2147483647 := ez22 ▸ i32_rg _
          rw [show i32 ((fs + k)) = i32 z22 by rw [ez22, i32_of]]
          clear ez22
          refine cx_vi (c := 1) (a := me) (st := []) (as := [.int (i32 (z22))]) rfl rfl rfl o_me t_me (by decide) rfl ⟨rfl, rfl, (Nat.le_of_ble_eq_true rfl)⟩ rfl (k_LCoder_here (dd := d) (R := R) (m := m) (tg := tg) (ln := ln) (F := Fx) (me := me) (lb := z22) (hd := by omega) (hC := hCx) (o_me := o_me) (t_me := t_me) (h_lb := by omega)) (fun o V_q hq => ?_)
          obtain ⟨F23, rfl, rfl, hC24, hM25, -⟩ := hq
          have hM26 : Fq 0 [(2, 7), (2, 8), (2, 11), (20, -5), (21, -5), (2, 10), (7, 6), (7, 9)] m tg F F23 := Fq_t (ln := ln) (ln1 := ln) hMx Ex_r hM25 (by decide) (Or.inl rfl)
          refine Or.inl ⟨rfl, ?_⟩
          refine jx_ld (pc_q := 126) (l_q := L) (st_q := [rv (p)]) rfl (jl_rvn gL_1) ?_
          refine cx_gi (pc_q := 129) (c := 7) (q := 0) (v := F (p) (0 : Int)) rfl rfl (by decide) (by decide) (Or.inl rfl) rfl o_p t_p ((show F23 (p) (0 : Int) = Fx (p) (0 : Int) from hM25 _ _ o_p (own_z o_p) (by rw [t_p]; rfl)).trans (show Fx (p) (0 : Int) = F (p) (0 : Int) from hMx _ _ o_p (own_z o_p) (by rw [t_p]; rfl))) ?_
          have b27 : (-2147483648 : Int) ≤ F (p) (0 : Int) ∧ F (p) (0 : Int) ≤ 2147483647 := by have z := HC_i (c := 7) (q := 0) hC24 o_p t_p (by decide) rfl; rw [show F23 (p) ((0 : Nat) : Int) = F (p) (0 : Int) from ((show F23 (p) (0 : Int) = Fx (p) (0 : Int) from hM25 _ _ o_p (own_z o_p) (by rw [t_p]; rfl)).trans (show Fx (p) (0 : Int) = F (p) (0 : Int) from hMx _ _ o_p (own_z o_p) (by rw [t_p]; rfl)))] at z; exact z
          refine jx_ar (pc_q := 131) (st_q := [.int (i32 (10)), .int (i32 (F (p) (0 : Int)))]) rfl rfl rfl rfl ?_
          refine jx_icmp_ne (pc_q := 134) (tg := 158) rfl rfl rfl (by omega) (by omega) (by decide) (by decide) (fun h28 => ?_) (fun h28 => ?_)
          · have _q := h28
            refine jx_ld (pc_q := 159) (l_q := L) (st_q := [rv (me)]) rfl (jl_rvn gL_0) ?_
            refine jx_ld (pc_q := 160) (l_q := L) (st_q := [rv (p), rv (me)]) rfl (jl_rvn gL_1) ?_
            refine jx_ld (pc_q := 162) (l_q := L) (st_q := [rv (b), rv (p), rv (me)]) rfl (jl_rv gL_5) ?_
            refine jx_ld (pc_q := 164) (l_q := L) (st_q := [.int (i32 (be)), rv (b), rv (p), rv (me)]) rfl (jl_iload gL_4) ?_
            refine jx_ld (pc_q := 166) (l_q := L) (st_q := [rv (b), .int (i32 (be)), rv (b), rv (p), rv (me)]) rfl (jl_rv gL_5) ?_
            refine cx_gi (pc_q := 169) (c := 7) (q := 11) (v := F (b) (11 : Int)) rfl rfl (by decide) (by decide) (Or.inl rfl) rfl ho14.1 ho14.2 ((show F23 (b) (11 : Int) = Fx (b) (11 : Int) from hM25 _ _ ho14.1 (own_z ho14.1) (by rw [ho14.2]; rfl)).trans (show Fx (b) (11 : Int) = F (b) (11 : Int) from hMx _ _ ho14.1 (own_z ho14.1) (by rw [ho14.2]; rfl))) ?_
            have b29 : (-2147483648 : Int) ≤ F (b) (11 : Int) ∧ F (b) (11 : Int) ≤ 2147483647 := by have z := HC_i (c := 7) (q := 11) hC24 ho14.1 ho14.2 (by decide) rfl; rw [show F23 (b) ((11 : Nat) : Int) = F (b) (11 : Int) from ((show F23 (b) (11 : Int) = Fx (b) (11 : Int) from hM25 _ _ ho14.1 (own_z ho14.1) (by rw [ho14.2]; rfl)).trans (show Fx (b) (11 : Int) = F (b) (11 : Int) from hMx _ _ ho14.1 (own_z ho14.1) (by rw [ho14.2]; rfl)))] at z; exact z
            refine jx_add (pc_q := 170) rfl rfl ?_
            obtain ⟨z30, ez30⟩ : ∃ q, q = (i32 ((be + F (b) (11 : Int)))).toInt := ⟨_, rfl⟩
            have bz30 : (-2147483648 : Int) ≤ z30 ∧ z30 ≤ 2147483647 := ez30 ▸ i32_rg _
            rw [show i32 ((be + F (b) (11 : Int))) = i32 z30 by rw [ez30, i32_of]]
            clear ez30
            refine cx_vi (c := 1) (a := me) (st := []) (as := [rv (p), rv (b), .int (i32 (z30))]) rfl rfl rfl o_me t_me (by decide) rfl ⟨rfl, rfl, (Nat.le_of_ble_eq_true rfl)⟩ rfl (k_LCoder_branch (dd := d) (R := R) (m := m) (tg := tg) (ln := ln) (F := F23) (kk := kk) (hE := hE) (me := me) (p := p) (b := b) (be := z30) (hd := by omega) (hC := hC24) (o_me := o_me) (t_me := t_me) (o_p := o_p) (t_p := t_p) (o_b := ho14.1) (t_b := ho14.2) (h_be := by omega) (c_NT := NT_q hC c_NT hM26 rfl) (n_p := (SN_q (SN_w n_p (by omega)) hM26 rfl rfl)) (n_b := (SN_q (SN_w sx_b (by omega)) hM26 rfl rfl))) (fun o V_q hq => ?_)
            obtain ⟨F31, rfl, rfl, hC32, hM33, -⟩ := hq
            have hM34 : Fq 0 [(2, 7), (2, 8), (2, 11), (20, -5), (21, -5), (2, 10), (7, 6), (7, 9)] m tg F F31 := Fq_t (ln := ln) (ln1 := ln) hM26 Ex_r hM33 (by decide) (Or.inl rfl)
            refine Or.inl ⟨rfl, ?_⟩
            refine jx_ld (pc_q := 175) (l_q := L) (st_q := [.int (i32 (be))]) rfl (jl_iload gL_4) ?_
            refine jx_ld (pc_q := 177) (l_q := L) (st_q := [rv (b), .int (i32 (be))]) rfl (jl_rv gL_5) ?_
            refine cx_gi (pc_q := 180) (c := 7) (q := 11) (v := F (b) (11 : Int)) rfl rfl (by decide) (by decide) (Or.inl rfl) rfl ho14.1 ho14.2 ((show F31 (b) (11 : Int) = F23 (b) (11 : Int) from hM33 _ _ ho14.1 (own_z ho14.1) (by rw [ho14.2]; rfl)).trans ((show F23 (b) (11 : Int) = Fx (b) (11 : Int) from hM25 _ _ ho14.1 (own_z ho14.1) (by rw [ho14.2]; rfl)).trans (show Fx (b) (11 : Int) = F (b) (11 : Int) from hMx _ _ ho14.1 (own_z ho14.1) (by rw [ho14.2]; rfl)))) ?_
            refine jx_ld (pc_q := 182) (l_q := L) (st_q := [rv (b), .int (i32 (F (b) (11 : Int))), .int (i32 (be))]) rfl (jl_rv gL_5) ?_
            refine cx_gi (pc_q := 185) (c := 7) (q := 12) (v := F (b) (12 : Int)) rfl rfl (by decide) (by decide) (Or.inl rfl) rfl ho14.1 ho14.2 ((show F31 (b) (12 : Int) = F23 (b) (12 : Int) from hM33 _ _ ho14.1 (own_z ho14.1) (by rw [ho14.2]; rfl)).trans ((show F23 (b) (12 : Int) = Fx (b) (12 : Int) from hM25 _ _ ho14.1 (own_z ho14.1) (by rw [ho14.2]; rfl)).trans (show Fx (b) (12 : Int) = F (b) (12 : Int) from hMx _ _ ho14.1 (own_z ho14.1) (by rw [ho14.2]; rfl)))) ?_
            have b35 : (-2147483648 : Int) ≤ F (b) (12 : Int) ∧ F (b) (12 : Int) ≤ 2147483647 := by have z := HC_i (c := 7) (q := 12) hC32 ho14.1 ho14.2 (by decide) rfl; rw [show F31 (b) ((12 : Nat) : Int) = F (b) (12 : Int) from ((show F31 (b) (12 : Int) = F23 (b) (12 : Int) from hM33 _ _ ho14.1 (own_z ho14.1) (by rw [ho14.2]; rfl)).trans ((show F23 (b) (12 : Int) = Fx (b) (12 : Int) from hM25 _ _ ho14.1 (own_z ho14.1) (by rw [ho14.2]; rfl)).trans (show Fx (b) (12 : Int) = F (b) (12 : Int) from hMx _ _ ho14.1 (own_z ho14.1) (by rw [ho14.2]; rfl))))] at z; exact z
            refine jx_add (pc_q := 186) rfl rfl ?_
            obtain ⟨z36, ez36⟩ : ∃ q, q = (i32 ((F (b) (11 : Int) + F (b) (12 : Int)))).toInt := ⟨_, rfl⟩
            have bz36 : (-2147483648 : Int) ≤ z36 ∧ z36 ≤ 2147483647 := ez36 ▸ i32_rg _
            rw [show i32 ((F (b) (11 : Int) + F (b) (12 : Int))) = i32 z36 by rw [ez36, i32_of]]
            clear ez36
            refine jx_ar (pc_q := 187) (st_q := [.int (i32 (3)), .int (i32 (z36)), .int (i32 (be))]) rfl rfl rfl rfl ?_
            refine jx_add (pc_q := 188) rfl rfl ?_
            obtain ⟨z37, ez37⟩ : ∃ q, q = (i32 ((z36 + 3))).toInt := ⟨_, rfl⟩
            have bz37 : (-2147483648 : Int) ≤ z37 ∧ z37 ≤ 2147483647 := ez37 ▸ i32_rg _
            rw [show i32 ((z36 + 3)) = i32 z37 by rw [ez37, i32_of]]
            clear ez37
            refine jx_add (pc_q := 189) rfl rfl ?_
            obtain ⟨z38, ez38⟩ : ∃ q, q = (i32 ((be + z37))).toInt := ⟨_, rfl⟩
            have bz38 : (-2147483648 : Int) ≤ z38 ∧ z38 ≤ 2147483647 := ez38 ▸ i32_rg _
            rw [show i32 ((be + z37)) = i32 z38 by rw [ez38, i32_of]]
            clear ez38
            refine jx_ld (pc_q := 191) (l_q := jSto1 L 4 (.int (i32 (z38)))) (st_q := []) rfl rfl ?_
            obtain ⟨L39, eL39⟩ : ∃ q : jL, q = jSto1 L 4 (.int (i32 (z38))) := ⟨_, rfl⟩
            rw [← eL39]
            have g40 : jGet L39 0 = some (rv (me)) := eL39 ▸ jg_nr (by decide) gL_0
            have g41 : jGet L39 1 = some (rv (p)) := eL39 ▸ jg_nr (by decide) gL_1
            have g42 : jGet L39 2 = some (.int (i32 (bh))) := eL39 ▸ jg_ne (by decide) gL_2 rfl
            have g43 : jGet L39 3 = some (.int (i32 (fs))) := eL39 ▸ jg_ne (by decide) gL_3 rfl
            have g44 : jGet L39 6 = some (.int (i32 (k))) := eL39 ▸ jg_ne (by decide) gL_6 rfl
            have g45 : jGet L39 5 = some (rv (b)) := eL39 ▸ jg_nr (by decide) gL_5
            have g46 : jGet L39 4 = some (.int (i32 (z38))) := eL39 ▸ jg_eq
            clear eL39
            refine jx_ld (pc_q := 192) (l_q := L39) (st_q := [rv (p)]) rfl (jl_rvn g41) ?_
            refine cx_gi (pc_q := 195) (c := 7) (q := 0) (v := F (p) (0 : Int)) rfl rfl (by decide) (by decide) (Or.inl rfl) rfl o_p t_p ((show F31 (p) (0 : Int) = F23 (p) (0 : Int) from hM33 _ _ o_p (own_z o_p) (by rw [t_p]; rfl)).trans ((show F23 (p) (0 : Int) = Fx (p) (0 : Int) from hM25 _ _ o_p (own_z o_p) (by rw [t_p]; rfl)).trans (show Fx (p) (0 : Int) = F (p) (0 : Int) from hMx _ _ o_p (own_z o_p) (by rw [t_p]; rfl)))) ?_
            refine jx_ar (pc_q := 197) (st_q := [.int (i32 (10)), .int (i32 (F (p) (0 : Int)))]) rfl rfl rfl rfl ?_
            refine jx_icmp_ne (pc_q := 200) (tg := 205) rfl rfl rfl (by omega) (by omega) (by decide) (by decide) (fun h47 => ?_) (fun h47 => ?_)
            · have _q := h47
              refine jx_ld (pc_q := 207) (l_q := L39) (st_q := [rv (b)]) rfl (jl_rv g45) ?_
              refine cx_gr (pc_q := 210) (c := 7) (q := 8) (v := F (b) (8 : Int)) rfl rfl (by decide) (by decide) rfl rfl ho14.1 ho14.2 ((show F31 (b) (8 : Int) = F23 (b) (8 : Int) from hM33 _ _ ho14.1 (own_z ho14.1) (by rw [ho14.2]; rfl)).trans ((show F23 (b) (8 : Int) = Fx (b) (8 : Int) from hM25 _ _ ho14.1 (own_z ho14.1) (by rw [ho14.2]; rfl)).trans (show Fx (b) (8 : Int) = F (b) (8 : Int) from hMx _ _ ho14.1 (own_z ho14.1) (by rw [ho14.2]; rfl)))) ?_
              have y48 : F (b) (8 : Int) = 0 ∨ (own m (F (b) (8 : Int)) ∧ tg (F (b) (8 : Int)) = 8) := by have z := HC_r (c := 7) (q := 8) hC32 ho14.1 ho14.2 (by decide) rfl; rw [show F31 (b) ((8 : Nat) : Int) = F (b) (8 : Int) from ((show F31 (b) (8 : Int) = F23 (b) (8 : Int) from hM33 _ _ ho14.1 (own_z ho14.1) (by rw [ho14.2]; rfl)).trans ((show F23 (b) (8 : Int) = Fx (b) (8 : Int) from hM25 _ _ ho14.1 (own_z ho14.1) (by rw [ho14.2]; rfl)).trans (show Fx (b) (8 : Int) = F (b) (8 : Int) from hMx _ _ ho14.1 (own_z ho14.1) (by rw [ho14.2]; rfl))))] at z; exact z
              have z49 := mz_n hC c_NT sx_b (own_z ho14.1)
              refine jx_ld (pc_q := 212) (l_q := jSto1 L39 5 (rv (F (b) (8 : Int)))) (st_q := []) rfl (js_rv (by decide)) ?_
              obtain ⟨L50, eL50⟩ : ∃ q : jL, q = jSto1 L39 5 (rv (F (b) (8 : Int))) := ⟨_, rfl⟩
              rw [← eL50]
              have g51 : jGet L50 0 = some (rv (me)) := eL50 ▸ jg_nr (by decide) g40
              have g52 : jGet L50 1 = some (rv (p)) := eL50 ▸ jg_nr (by decide) g41
              have g53 : jGet L50 2 = some (.int (i32 (bh))) := eL50 ▸ jg_ne (by decide) g42 rfl
              have g54 : jGet L50 3 = some (.int (i32 (fs))) := eL50 ▸ jg_ne (by decide) g43 rfl
              have g55 : jGet L50 6 = some (.int (i32 (k))) := eL50 ▸ jg_ne (by decide) g44 rfl
              have g56 : jGet L50 4 = some (.int (i32 (z38))) := eL50 ▸ jg_ne (by decide) g46 rfl
              have g57 : jGet L50 5 = some (rv (F (b) (8 : Int))) := eL50 ▸ jg_eq
              clear eL50
              refine jx_inc (pc_q := 215) (l_q := jSto1 L50 6 (.int (i32 (k + (1))))) (x := k) rfl g55 (by decide) rfl rfl ?_
              obtain ⟨L58, eL58⟩ : ∃ q : jL, q = jSto1 L50 6 (.int (i32 ((k + (1))))) := ⟨_, rfl⟩
              rw [← eL58]
              have g59 : jGet L58 0 = some (rv (me)) := eL58 ▸ jg_nr (by decide) g51
              have g60 : jGet L58 1 = some (rv (p)) := eL58 ▸ jg_nr (by decide) g52
              have g61 : jGet L58 2 = some (.int (i32 (bh))) := eL58 ▸ jg_ne (by decide) g53 rfl
              have g62 : jGet L58 3 = some (.int (i32 (fs))) := eL58 ▸ jg_ne (by decide) g54 rfl
              have g63 : jGet L58 4 = some (.int (i32 (z38))) := eL58 ▸ jg_ne (by decide) g56 rfl
              have g64 : jGet L58 5 = some (rv (F (b) (8 : Int))) := eL58 ▸ jg_nr (by decide) g57
              have g65 : jGet L58 6 = some (.int (i32 ((k + (1))))) := eL58 ▸ jg_eq
              clear eL58
              refine jx_go (tg := 96) rfl rfl ?_
              exact ih _ (by omega) L58 F31 (bh) (fs) (z38) ((k + (1))) (F (b) (8 : Int)) rfl g59 g60 g61 g62 g63 g65 g64 hC32 hM34 (by omega) (by omega) (by omega) (by omega) y48 (by omega) (SN_w (SN_n hC c_NT sx_b (own_z ho14.1)) (by omega))
            · have _q := h47
              refine jx_ld (pc_q := 202) (l_q := L39) (st_q := [rv (b)]) rfl (jl_rv g45) ?_
              refine jx_go (tg := 210) rfl rfl ?_
              refine jx_ld (pc_q := 212) (l_q := jSto1 L39 5 (rv (b))) (st_q := []) rfl (js_rv (by decide)) ?_
              obtain ⟨L66, eL66⟩ : ∃ q : jL, q = jSto1 L39 5 (rv (b)) := ⟨_, rfl⟩
              rw [← eL66]
              have g67 : jGet L66 0 = some (rv (me)) := eL66 ▸ jg_nr (by decide) g40
              have g68 : jGet L66 1 = some (rv (p)) := eL66 ▸ jg_nr (by decide) g41
              have g69 : jGet L66 2 = some (.int (i32 (bh))) := eL66 ▸ jg_ne (by decide) g42 rfl
              have g70 : jGet L66 3 = some (.int (i32 (fs))) := eL66 ▸ jg_ne (by decide) g43 rfl
              have g71 : jGet L66 6 = some (.int (i32 (k))) := eL66 ▸ jg_ne (by decide) g44 rfl
              have g72 : jGet L66 4 = some (.int (i32 (z38))) := eL66 ▸ jg_ne (by decide) g46 rfl
              have g73 : jGet L66 5 = some (rv (b)) := eL66 ▸ jg_eq
              clear eL66
              refine jx_inc (pc_q := 215) (l_q := jSto1 L66 6 (.int (i32 (k + (1))))) (x := k) rfl g71 (by decide) rfl rfl ?_
              obtain ⟨L74, eL74⟩ : ∃ q : jL, q = jSto1 L66 6 (.int (i32 ((k + (1))))) := ⟨_, rfl⟩
              rw [← eL74]
              have g75 : jGet L74 0 = some (rv (me)) := eL74 ▸ jg_nr (by decide) g67
              have g76 : jGet L74 1 = some (rv (p)) := eL74 ▸ jg_nr (by decide) g68
              have g77 : jGet L74 2 = some (.int (i32 (bh))) := eL74 ▸ jg_ne (by decide) g69 rfl
              have g78 : jGet L74 3 = some (.int (i32 (fs))) := eL74 ▸ jg_ne (by decide) g70 rfl
              have g79 : jGet L74 4 = some (.int (i32 (z38))) := eL74 ▸ jg_ne (by decide) g72 rfl
              have g80 : jGet L74 5 = some (rv (b)) := eL74 ▸ jg_nr (by decide) g73
              have g81 : jGet L74 6 = some (.int (i32 ((k + (1))))) := eL74 ▸ jg_eq
              clear eL74
              refine jx_go (tg := 96) rfl rfl ?_
              exact ih _ (by omega) L74 F31 (bh) (fs) (z38) ((k + (1))) (b) rfl g75 g76 g77 g78 g79 g81 g80 hC32 hM34 (by omega) (by omega) (by omega) (by omega) (Or.inr ⟨ho14.1, ho14.2⟩) (by omega) (SN_w sx_b (by omega))
          · have _q := h28
            refine jx_ld (pc_q := 135) (l_q := L) (st_q := [rv (p)]) rfl (jl_rvn gL_1) ?_
            refine cx_gr (pc_q := 138) (c := 7) (q := 3) (v := F (p) (3 : Int)) rfl rfl (by decide) (by decide) rfl rfl o_p t_p ((show F23 (p) (3 : Int) = Fx (p) (3 : Int) from hM25 _ _ o_p (own_z o_p) (by rw [t_p]; rfl)).trans (show Fx (p) (3 : Int) = F (p) (3 : Int) from hMx _ _ o_p (own_z o_p) (by rw [t_p]; rfl))) ?_
            have y82 : F (p) (3 : Int) = 0 ∨ (own m (F (p) (3 : Int)) ∧ tg (F (p) (3 : Int)) = 7) := by have z := HC_r (c := 7) (q := 3) hC24 o_p t_p (by decide) rfl; rw [show F23 (p) ((3 : Nat) : Int) = F (p) (3 : Int) from ((show F23 (p) (3 : Int) = Fx (p) (3 : Int) from hM25 _ _ o_p (own_z o_p) (by rw [t_p]; rfl)).trans (show Fx (p) (3 : Int) = F (p) (3 : Int) from hMx _ _ o_p (own_z o_p) (by rw [t_p]; rfl)))] at z; exact z
            refine cx_nul (pc_q := 141) (tg_q := 158) rfl rfl rfl (fun h83 => ?_) (fun h83 => ?_)
            · have _q := h83
              refine jx_ld (pc_q := 159) (l_q := L) (st_q := [rv (me)]) rfl (jl_rvn gL_0) ?_
              refine jx_ld (pc_q := 160) (l_q := L) (st_q := [rv (p), rv (me)]) rfl (jl_rvn gL_1) ?_
              refine jx_ld (pc_q := 162) (l_q := L) (st_q := [rv (b), rv (p), rv (me)]) rfl (jl_rv gL_5) ?_
              refine jx_ld (pc_q := 164) (l_q := L) (st_q := [.int (i32 (be)), rv (b), rv (p), rv (me)]) rfl (jl_iload gL_4) ?_
              refine jx_ld (pc_q := 166) (l_q := L) (st_q := [rv (b), .int (i32 (be)), rv (b), rv (p), rv (me)]) rfl (jl_rv gL_5) ?_
              refine cx_gi (pc_q := 169) (c := 7) (q := 11) (v := F (b) (11 : Int)) rfl rfl (by decide) (by decide) (Or.inl rfl) rfl ho14.1 ho14.2 ((show F23 (b) (11 : Int) = Fx (b) (11 : Int) from hM25 _ _ ho14.1 (own_z ho14.1) (by rw [ho14.2]; rfl)).trans (show Fx (b) (11 : Int) = F (b) (11 : Int) from hMx _ _ ho14.1 (own_z ho14.1) (by rw [ho14.2]; rfl))) ?_
              have b84 : (-2147483648 : Int) ≤ F (b) (11 : Int) ∧ F (b) (11 : Int) ≤ 2147483647 := by have z := HC_i (c := 7) (q := 11) hC24 ho14.1 ho14.2 (by decide) rfl; rw [show F23 (b) ((11 : Nat) : Int) = F (b) (11 : Int) from ((show F23 (b) (11 : Int) = Fx (b) (11 : Int) from hM25 _ _ ho14.1 (own_z ho14.1) (by rw [ho14.2]; rfl)).trans (show Fx (b) (11 : Int) = F (b) (11 : Int) from hMx _ _ ho14.1 (own_z ho14.1) (by rw [ho14.2]; rfl)))] at z; exact z
              refine jx_add (pc_q := 170) rfl rfl ?_
              obtain ⟨z85, ez85⟩ : ∃ q, q = (i32 ((be + F (b) (11 : Int)))).toInt := ⟨_, rfl⟩
              have bz85 : (-2147483648 : Int) ≤ z85 ∧ z85 ≤ 2147483647 := ez85 ▸ i32_rg _
              rw [show i32 ((be + F (b) (11 : Int))) = i32 z85 by rw [ez85, i32_of]]
              clear ez85
              refine cx_vi (c := 1) (a := me) (st := []) (as := [rv (p), rv (b), .int (i32 (z85))]) rfl rfl rfl o_me t_me (by decide) rfl ⟨rfl, rfl, (Nat.le_of_ble_eq_true rfl)⟩ rfl (k_LCoder_branch (dd := d) (R := R) (m := m) (tg := tg) (ln := ln) (F := F23) (kk := kk) (hE := hE) (me := me) (p := p) (b := b) (be := z85) (hd := by omega) (hC := hC24) (o_me := o_me) (t_me := t_me) (o_p := o_p) (t_p := t_p) (o_b := ho14.1) (t_b := ho14.2) (h_be := by omega) (c_NT := NT_q hC c_NT hM26 rfl) (n_p := (SN_q (SN_w n_p (by omega)) hM26 rfl rfl)) (n_b := (SN_q (SN_w sx_b (by omega)) hM26 rfl rfl))) (fun o V_q hq => ?_)
              obtain ⟨F86, rfl, rfl, hC87, hM88, -⟩ := hq
              have hM89 : Fq 0 [(2, 7), (2, 8), (2, 11), (20, -5), (21, -5), (2, 10), (7, 6), (7, 9)] m tg F F86 := Fq_t (ln := ln) (ln1 := ln) hM26 Ex_r hM88 (by decide) (Or.inl rfl)
              refine Or.inl ⟨rfl, ?_⟩
              refine jx_ld (pc_q := 175) (l_q := L) (st_q := [.int (i32 (be))]) rfl (jl_iload gL_4) ?_
              refine jx_ld (pc_q := 177) (l_q := L) (st_q := [rv (b), .int (i32 (be))]) rfl (jl_rv gL_5) ?_
              refine cx_gi (pc_q := 180) (c := 7) (q := 11) (v := F (b) (11 : Int)) rfl rfl (by decide) (by decide) (Or.inl rfl) rfl ho14.1 ho14.2 ((show F86 (b) (11 : Int) = F23 (b) (11 : Int) from hM88 _ _ ho14.1 (own_z ho14.1) (by rw [ho14.2]; rfl)).trans ((show F23 (b) (11 : Int) = Fx (b) (11 : Int) from hM25 _ _ ho14.1 (own_z ho14.1) (by rw [ho14.2]; rfl)).trans (show Fx (b) (11 : Int) = F (b) (11 : Int) from hMx _ _ ho14.1 (own_z ho14.1) (by rw [ho14.2]; rfl)))) ?_
              refine jx_ld (pc_q := 182) (l_q := L) (st_q := [rv (b), .int (i32 (F (b) (11 : Int))), .int (i32 (be))]) rfl (jl_rv gL_5) ?_
              refine cx_gi (pc_q := 185) (c := 7) (q := 12) (v := F (b) (12 : Int)) rfl rfl (by decide) (by decide) (Or.inl rfl) rfl ho14.1 ho14.2 ((show F86 (b) (12 : Int) = F23 (b) (12 : Int) from hM88 _ _ ho14.1 (own_z ho14.1) (by rw [ho14.2]; rfl)).trans ((show F23 (b) (12 : Int) = Fx (b) (12 : Int) from hM25 _ _ ho14.1 (own_z ho14.1) (by rw [ho14.2]; rfl)).trans (show Fx (b) (12 : Int) = F (b) (12 : Int) from hMx _ _ ho14.1 (own_z ho14.1) (by rw [ho14.2]; rfl)))) ?_
              have b90 : (-2147483648 : Int) ≤ F (b) (12 : Int) ∧ F (b) (12 : Int) ≤ 2147483647 := by have z := HC_i (c := 7) (q := 12) hC87 ho14.1 ho14.2 (by decide) rfl; rw [show F86 (b) ((12 : Nat) : Int) = F (b) (12 : Int) from ((show F86 (b) (12 : Int) = F23 (b) (12 : Int) from hM88 _ _ ho14.1 (own_z ho14.1) (by rw [ho14.2]; rfl)).trans ((show F23 (b) (12 : Int) = Fx (b) (12 : Int) from hM25 _ _ ho14.1 (own_z ho14.1) (by rw [ho14.2]; rfl)).trans (show Fx (b) (12 : Int) = F (b) (12 : Int) from hMx _ _ ho14.1 (own_z ho14.1) (by rw [ho14.2]; rfl))))] at z; exact z
              refine jx_add (pc_q := 186) rfl rfl ?_
              obtain ⟨z91, ez91⟩ : ∃ q, q = (i32 ((F (b) (11 : Int) + F (b) (12 : Int)))).toInt := ⟨_, rfl⟩
              have bz91 : (-2147483648 : Int) ≤ z91 ∧ z91 ≤ 2147483647 := ez91 ▸ i32_rg _
              rw [show i32 ((F (b) (11 : Int) + F (b) (12 : Int))) = i32 z91 by rw [ez91, i32_of]]
              clear ez91
              refine jx_ar (pc_q := 187) (st_q := [.int (i32 (3)), .int (i32 (z91)), .int (i32 (be))]) rfl rfl rfl rfl ?_
              refine jx_add (pc_q := 188) rfl rfl ?_
              obtain ⟨z92, ez92⟩ : ∃ q, q = (i32 ((z91 + 3))).toInt := ⟨_, rfl⟩
              have bz92 : (-2147483648 : Int) ≤ z92 ∧ z92 ≤ 2147483647 := ez92 ▸ i32_rg _
              rw [show i32 ((z91 + 3)) = i32 z92 by rw [ez92, i32_of]]
              clear ez92
              refine jx_add (pc_q := 189) rfl rfl ?_
              obtain ⟨z93, ez93⟩ : ∃ q, q = (i32 ((be + z92))).toInt := ⟨_, rfl⟩
              have bz93 : (-2147483648 : Int) ≤ z93 ∧ z93 ≤ 2147483647 := ez93 ▸ i32_rg _
              rw [show i32 ((be + z92)) = i32 z93 by rw [ez93, i32_of]]
              clear ez93
              refine jx_ld (pc_q := 191) (l_q := jSto1 L 4 (.int (i32 (z93)))) (st_q := []) rfl rfl ?_
              obtain ⟨L94, eL94⟩ : ∃ q : jL, q = jSto1 L 4 (.int (i32 (z93))) := ⟨_, rfl⟩
              rw [← eL94]
              have g95 : jGet L94 0 = some (rv (me)) := eL94 ▸ jg_nr (by decide) gL_0
              have g96 : jGet L94 1 = some (rv (p)) := eL94 ▸ jg_nr (by decide) gL_1
              have g97 : jGet L94 2 = some (.int (i32 (bh))) := eL94 ▸ jg_ne (by decide) gL_2 rfl
              have g98 : jGet L94 3 = some (.int (i32 (fs))) := eL94 ▸ jg_ne (by decide) gL_3 rfl
              have g99 : jGet L94 6 = some (.int (i32 (k))) := eL94 ▸ jg_ne (by decide) gL_6 rfl
              have g100 : jGet L94 5 = some (rv (b)) := eL94 ▸ jg_nr (by decide) gL_5
              have g101 : jGet L94 4 = some (.int (i32 (z93))) := eL94 ▸ jg_eq
              clear eL94
              refine jx_ld (pc_q := 192) (l_q := L94) (st_q := [rv (p)]) rfl (jl_rvn g96) ?_
              refine cx_gi (pc_q := 195) (c := 7) (q := 0) (v := F (p) (0 : Int)) rfl rfl (by decide) (by decide) (Or.inl rfl) rfl o_p t_p ((show F86 (p) (0 : Int) = F23 (p) (0 : Int) from hM88 _ _ o_p (own_z o_p) (by rw [t_p]; rfl)).trans ((show F23 (p) (0 : Int) = Fx (p) (0 : Int) from hM25 _ _ o_p (own_z o_p) (by rw [t_p]; rfl)).trans (show Fx (p) (0 : Int) = F (p) (0 : Int) from hMx _ _ o_p (own_z o_p) (by rw [t_p]; rfl)))) ?_
              refine jx_ar (pc_q := 197) (st_q := [.int (i32 (10)), .int (i32 (F (p) (0 : Int)))]) rfl rfl rfl rfl ?_
              refine jx_icmp_ne (pc_q := 200) (tg := 205) rfl rfl rfl (by omega) (by omega) (by decide) (by decide) (fun h102 => ?_) (fun h102 => ?_)
              · have _q := h102
                refine jx_ld (pc_q := 207) (l_q := L94) (st_q := [rv (b)]) rfl (jl_rv g100) ?_
                refine cx_gr (pc_q := 210) (c := 7) (q := 8) (v := F (b) (8 : Int)) rfl rfl (by decide) (by decide) rfl rfl ho14.1 ho14.2 ((show F86 (b) (8 : Int) = F23 (b) (8 : Int) from hM88 _ _ ho14.1 (own_z ho14.1) (by rw [ho14.2]; rfl)).trans ((show F23 (b) (8 : Int) = Fx (b) (8 : Int) from hM25 _ _ ho14.1 (own_z ho14.1) (by rw [ho14.2]; rfl)).trans (show Fx (b) (8 : Int) = F (b) (8 : Int) from hMx _ _ ho14.1 (own_z ho14.1) (by rw [ho14.2]; rfl)))) ?_
                have y103 : F (b) (8 : Int) = 0 ∨ (own m (F (b) (8 : Int)) ∧ tg (F (b) (8 : Int)) = 8) := by have z := HC_r (c := 7) (q := 8) hC87 ho14.1 ho14.2 (by decide) rfl; rw [show F86 (b) ((8 : Nat) : Int) = F (b) (8 : Int) from ((show F86 (b) (8 : Int) = F23 (b) (8 : Int) from hM88 _ _ ho14.1 (own_z ho14.1) (by rw [ho14.2]; rfl)).trans ((show F23 (b) (8 : Int) = Fx (b) (8 : Int) from hM25 _ _ ho14.1 (own_z ho14.1) (by rw [ho14.2]; rfl)).trans (show Fx (b) (8 : Int) = F (b) (8 : Int) from hMx _ _ ho14.1 (own_z ho14.1) (by rw [ho14.2]; rfl))))] at z; exact z
                have z104 := mz_n hC c_NT sx_b (own_z ho14.1)
                refine jx_ld (pc_q := 212) (l_q := jSto1 L94 5 (rv (F (b) (8 : Int)))) (st_q := []) rfl (js_rv (by decide)) ?_
                obtain ⟨L105, eL105⟩ : ∃ q : jL, q = jSto1 L94 5 (rv (F (b) (8 : Int))) := ⟨_, rfl⟩
                rw [← eL105]
                have g106 : jGet L105 0 = some (rv (me)) := eL105 ▸ jg_nr (by decide) g95
                have g107 : jGet L105 1 = some (rv (p)) := eL105 ▸ jg_nr (by decide) g96
                have g108 : jGet L105 2 = some (.int (i32 (bh))) := eL105 ▸ jg_ne (by decide) g97 rfl
                have g109 : jGet L105 3 = some (.int (i32 (fs))) := eL105 ▸ jg_ne (by decide) g98 rfl
                have g110 : jGet L105 6 = some (.int (i32 (k))) := eL105 ▸ jg_ne (by decide) g99 rfl
                have g111 : jGet L105 4 = some (.int (i32 (z93))) := eL105 ▸ jg_ne (by decide) g101 rfl
                have g112 : jGet L105 5 = some (rv (F (b) (8 : Int))) := eL105 ▸ jg_eq
                clear eL105
                refine jx_inc (pc_q := 215) (l_q := jSto1 L105 6 (.int (i32 (k + (1))))) (x := k) rfl g110 (by decide) rfl rfl ?_
                obtain ⟨L113, eL113⟩ : ∃ q : jL, q = jSto1 L105 6 (.int (i32 ((k + (1))))) := ⟨_, rfl⟩
                rw [← eL113]
                have g114 : jGet L113 0 = some (rv (me)) := eL113 ▸ jg_nr (by decide) g106
                have g115 : jGet L113 1 = some (rv (p)) := eL113 ▸ jg_nr (by decide) g107
                have g116 : jGet L113 2 = some (.int (i32 (bh))) := eL113 ▸ jg_ne (by decide) g108 rfl
                have g117 : jGet L113 3 = some (.int (i32 (fs))) := eL113 ▸ jg_ne (by decide) g109 rfl
                have g118 : jGet L113 4 = some (.int (i32 (z93))) := eL113 ▸ jg_ne (by decide) g111 rfl
                have g119 : jGet L113 5 = some (rv (F (b) (8 : Int))) := eL113 ▸ jg_nr (by decide) g112
                have g120 : jGet L113 6 = some (.int (i32 ((k + (1))))) := eL113 ▸ jg_eq
                clear eL113
                refine jx_go (tg := 96) rfl rfl ?_
                exact ih _ (by omega) L113 F86 (bh) (fs) (z93) ((k + (1))) (F (b) (8 : Int)) rfl g114 g115 g116 g117 g118 g120 g119 hC87 hM89 (by omega) (by omega) (by omega) (by omega) y103 (by omega) (SN_w (SN_n hC c_NT sx_b (own_z ho14.1)) (by omega))
              · have _q := h102
                refine jx_ld (pc_q := 202) (l_q := L94) (st_q := [rv (b)]) rfl (jl_rv g100) ?_
                refine jx_go (tg := 210) rfl rfl ?_
                refine jx_ld (pc_q := 212) (l_q := jSto1 L94 5 (rv (b))) (st_q := []) rfl (js_rv (by decide)) ?_
                obtain ⟨L121, eL121⟩ : ∃ q : jL, q = jSto1 L94 5 (rv (b)) := ⟨_, rfl⟩
                rw [← eL121]
                have g122 : jGet L121 0 = some (rv (me)) := eL121 ▸ jg_nr (by decide) g95
                have g123 : jGet L121 1 = some (rv (p)) := eL121 ▸ jg_nr (by decide) g96
                have g124 : jGet L121 2 = some (.int (i32 (bh))) := eL121 ▸ jg_ne (by decide) g97 rfl
                have g125 : jGet L121 3 = some (.int (i32 (fs))) := eL121 ▸ jg_ne (by decide) g98 rfl
                have g126 : jGet L121 6 = some (.int (i32 (k))) := eL121 ▸ jg_ne (by decide) g99 rfl
                have g127 : jGet L121 4 = some (.int (i32 (z93))) := eL121 ▸ jg_ne (by decide) g101 rfl
                have g128 : jGet L121 5 = some (rv (b)) := eL121 ▸ jg_eq
                clear eL121
                refine jx_inc (pc_q := 215) (l_q := jSto1 L121 6 (.int (i32 (k + (1))))) (x := k) rfl g126 (by decide) rfl rfl ?_
                obtain ⟨L129, eL129⟩ : ∃ q : jL, q = jSto1 L121 6 (.int (i32 ((k + (1))))) := ⟨_, rfl⟩
                rw [← eL129]
                have g130 : jGet L129 0 = some (rv (me)) := eL129 ▸ jg_nr (by decide) g122
                have g131 : jGet L129 1 = some (rv (p)) := eL129 ▸ jg_nr (by decide) g123
                have g132 : jGet L129 2 = some (.int (i32 (bh))) := eL129 ▸ jg_ne (by decide) g124 rfl
                have g133 : jGet L129 3 = some (.int (i32 (fs))) := eL129 ▸ jg_ne (by decide) g125 rfl
                have g134 : jGet L129 4 = some (.int (i32 (z93))) := eL129 ▸ jg_ne (by decide) g127 rfl
                have g135 : jGet L129 5 = some (rv (b)) := eL129 ▸ jg_nr (by decide) g128
                have g136 : jGet L129 6 = some (.int (i32 ((k + (1))))) := eL129 ▸ jg_eq
                clear eL129
                refine jx_go (tg := 96) rfl rfl ?_
                exact ih _ (by omega) L129 F86 (bh) (fs) (z93) ((k + (1))) (b) rfl g130 g131 g132 g133 g134 g136 g135 hC87 hM89 (by omega) (by omega) (by omega) (by omega) (Or.inr ⟨ho14.1, ho14.2⟩) (by omega) (SN_w sx_b (by omega))
            · have _q := h83
              have ho137 : own m (F (p) (3 : Int)) ∧ tg (F (p) (3 : Int)) = 7 := y82.resolve_left h83
              refine jx_ld (pc_q := 142) (l_q := L) (st_q := [rv (p)]) rfl (jl_rvn gL_1) ?_
              refine cx_gr (pc_q := 145) (c := 7) (q := 3) (v := F (p) (3 : Int)) rfl rfl (by decide) (by decide) rfl rfl o_p t_p ((show F23 (p) (3 : Int) = Fx (p) (3 : Int) from hM25 _ _ o_p (own_z o_p) (by rw [t_p]; rfl)).trans (show Fx (p) (3 : Int) = F (p) (3 : Int) from hMx _ _ o_p (own_z o_p) (by rw [t_p]; rfl))) ?_
              refine jx_ld (pc_q := 146) (l_q := L) (st_q := [rv (p), rv (F (p) (3 : Int))]) rfl (jl_rvn gL_1) ?_
              refine cx_gr (pc_q := 149) (c := 7) (q := 3) (v := F (p) (3 : Int)) rfl rfl (by decide) (by decide) rfl rfl o_p t_p ((show F23 (p) (3 : Int) = Fx (p) (3 : Int) from hM25 _ _ o_p (own_z o_p) (by rw [t_p]; rfl)).trans (show Fx (p) (3 : Int) = F (p) (3 : Int) from hMx _ _ o_p (own_z o_p) (by rw [t_p]; rfl))) ?_
              refine cx_gi (pc_q := 152) (c := 6) (q := 7) (v := F23 (F (p) (3 : Int)) (7 : Int)) rfl rfl (by decide) (by decide) (Or.inl rfl) rfl ho137.1 ho137.2 rfl ?_
              have b138 : (-2147483648 : Int) ≤ F23 (F (p) (3 : Int)) (7 : Int) ∧ F23 (F (p) (3 : Int)) (7 : Int) ≤ 2147483647 := by have z := HC_i (c := 6) (q := 7) hC24 ho137.1 ho137.2 (by decide) rfl; rw [show F23 (F (p) (3 : Int)) ((7 : Nat) : Int) = F23 (F (p) (3 : Int)) (7 : Int) from rfl] at z; exact z
              refine jx_ld (pc_q := 154) (l_q := L) (st_q := [.int (i32 (k)), .int (i32 (F23 (F (p) (3 : Int)) (7 : Int))), rv (F (p) (3 : Int))]) rfl (jl_iload gL_6) ?_
              refine jx_add (pc_q := 155) rfl rfl ?_
              obtain ⟨z139, ez139⟩ : ∃ q, q = (i32 ((F23 (F (p) (3 : Int)) (7 : Int) + k))).toInt := ⟨_, rfl⟩
              have bz139 : (-2147483648 : Int) ≤ z139 ∧ z139 ≤ 2147483647 := ez139 ▸ i32_rg _
              rw [show i32 ((F23 (F (p) (3 : Int)) (7 : Int) + k)) = i32 z139 by rw [ez139, i32_of]]
              clear ez139
              refine cx_pi (pc_q := 158) (c := 6) (q := 9) (qi := (9 : Int)) (z := z139) rfl rfl (by decide) (by decide) rfl rfl rfl (by decide) rfl ho137.1 ho137.2 rfl ?_
              obtain ⟨F140, eF140⟩ : ∃ q, q = uF F23 (F (p) (3 : Int)) (9 : Int) (z139) := ⟨_, rfl⟩
              rw [← eF140]
              have hC141 : HC 0 m tg ln F140 := by rw [eF140]; exact HC_fi (c := 6) (q := 9) hC24 ho137.2 (by decide) rfl (by omega) (by omega) ⟨fun w => absurd w (by decide), fun w => absurd w (by decide)⟩
              have hM142 : Fq 0 [(2, 7), (2, 8), (2, 11), (20, -5), (21, -5), (2, 10), (7, 6), (7, 9)] m tg F F140 := by rw [eF140]; exact Fq_p hM26 ho137.2 (fun _ => rfl) rfl
              refine jx_ld (pc_q := 159) (l_q := L) (st_q := [rv (me)]) rfl (jl_rvn gL_0) ?_
              refine jx_ld (pc_q := 160) (l_q := L) (st_q := [rv (p), rv (me)]) rfl (jl_rvn gL_1) ?_
              refine jx_ld (pc_q := 162) (l_q := L) (st_q := [rv (b), rv (p), rv (me)]) rfl (jl_rv gL_5) ?_
              refine jx_ld (pc_q := 164) (l_q := L) (st_q := [.int (i32 (be)), rv (b), rv (p), rv (me)]) rfl (jl_iload gL_4) ?_
              refine jx_ld (pc_q := 166) (l_q := L) (st_q := [rv (b), .int (i32 (be)), rv (b), rv (p), rv (me)]) rfl (jl_rv gL_5) ?_
              refine cx_gi (pc_q := 169) (c := 7) (q := 11) (v := F (b) (11 : Int)) rfl rfl (by decide) (by decide) (Or.inl rfl) rfl ho14.1 ho14.2 ((show F140 (b) (11 : Int) = F23 (b) (11 : Int) from by rw [eF140]; exact uF_j (by decide)).trans ((show F23 (b) (11 : Int) = Fx (b) (11 : Int) from hM25 _ _ ho14.1 (own_z ho14.1) (by rw [ho14.2]; rfl)).trans (show Fx (b) (11 : Int) = F (b) (11 : Int) from hMx _ _ ho14.1 (own_z ho14.1) (by rw [ho14.2]; rfl)))) ?_
              have b143 : (-2147483648 : Int) ≤ F (b) (11 : Int) ∧ F (b) (11 : Int) ≤ 2147483647 := by have z := HC_i (c := 7) (q := 11) hC141 ho14.1 ho14.2 (by decide) rfl; rw [show F140 (b) ((11 : Nat) : Int) = F (b) (11 : Int) from ((show F140 (b) (11 : Int) = F23 (b) (11 : Int) from by rw [eF140]; exact uF_j (by decide)).trans ((show F23 (b) (11 : Int) = Fx (b) (11 : Int) from hM25 _ _ ho14.1 (own_z ho14.1) (by rw [ho14.2]; rfl)).trans (show Fx (b) (11 : Int) = F (b) (11 : Int) from hMx _ _ ho14.1 (own_z ho14.1) (by rw [ho14.2]; rfl))))] at z; exact z
              refine jx_add (pc_q := 170) rfl rfl ?_
              obtain ⟨z144, ez144⟩ : ∃ q, q = (i32 ((be + F (b) (11 : Int)))).toInt := ⟨_, rfl⟩
              have bz144 : (-2147483648 : Int) ≤ z144 ∧ z144 ≤ 2147483647 := ez144 ▸ i32_rg _
              rw [show i32 ((be + F (b) (11 : Int))) = i32 z144 by rw [ez144, i32_of]]
              clear ez144
              refine cx_vi (c := 1) (a := me) (st := []) (as := [rv (p), rv (b), .int (i32 (z144))]) rfl rfl rfl o_me t_me (by decide) rfl ⟨rfl, rfl, (Nat.le_of_ble_eq_true rfl)⟩ rfl (k_LCoder_branch (dd := d) (R := R) (m := m) (tg := tg) (ln := ln) (F := F140) (kk := kk) (hE := hE) (me := me) (p := p) (b := b) (be := z144) (hd := by omega) (hC := hC141) (o_me := o_me) (t_me := t_me) (o_p := o_p) (t_p := t_p) (o_b := ho14.1) (t_b := ho14.2) (h_be := by omega) (c_NT := NT_q hC c_NT hM142 rfl) (n_p := (SN_q (SN_w n_p (by omega)) hM142 rfl rfl)) (n_b := (SN_q (SN_w sx_b (by omega)) hM142 rfl rfl))) (fun o V_q hq => ?_)
              obtain ⟨F145, rfl, rfl, hC146, hM147, -⟩ := hq
              have hM148 : Fq 0 [(2, 7), (2, 8), (2, 11), (20, -5), (21, -5), (2, 10), (7, 6), (7, 9)] m tg F F145 := Fq_t (ln := ln) (ln1 := ln) hM142 Ex_r hM147 (by decide) (Or.inl rfl)
              refine Or.inl ⟨rfl, ?_⟩
              refine jx_ld (pc_q := 175) (l_q := L) (st_q := [.int (i32 (be))]) rfl (jl_iload gL_4) ?_
              refine jx_ld (pc_q := 177) (l_q := L) (st_q := [rv (b), .int (i32 (be))]) rfl (jl_rv gL_5) ?_
              refine cx_gi (pc_q := 180) (c := 7) (q := 11) (v := F (b) (11 : Int)) rfl rfl (by decide) (by decide) (Or.inl rfl) rfl ho14.1 ho14.2 ((show F145 (b) (11 : Int) = F140 (b) (11 : Int) from hM147 _ _ ho14.1 (own_z ho14.1) (by rw [ho14.2]; rfl)).trans ((show F140 (b) (11 : Int) = F23 (b) (11 : Int) from by rw [eF140]; exact uF_j (by decide)).trans ((show F23 (b) (11 : Int) = Fx (b) (11 : Int) from hM25 _ _ ho14.1 (own_z ho14.1) (by rw [ho14.2]; rfl)).trans (show Fx (b) (11 : Int) = F (b) (11 : Int) from hMx _ _ ho14.1 (own_z ho14.1) (by rw [ho14.2]; rfl))))) ?_
              refine jx_ld (pc_q := 182) (l_q := L) (st_q := [rv (b), .int (i32 (F (b) (11 : Int))), .int (i32 (be))]) rfl (jl_rv gL_5) ?_
              refine cx_gi (pc_q := 185) (c := 7) (q := 12) (v := F (b) (12 : Int)) rfl rfl (by decide) (by decide) (Or.inl rfl) rfl ho14.1 ho14.2 ((show F145 (b) (12 : Int) = F140 (b) (12 : Int) from hM147 _ _ ho14.1 (own_z ho14.1) (by rw [ho14.2]; rfl)).trans ((show F140 (b) (12 : Int) = F23 (b) (12 : Int) from by rw [eF140]; exact uF_j (by decide)).trans ((show F23 (b) (12 : Int) = Fx (b) (12 : Int) from hM25 _ _ ho14.1 (own_z ho14.1) (by rw [ho14.2]; rfl)).trans (show Fx (b) (12 : Int) = F (b) (12 : Int) from hMx _ _ ho14.1 (own_z ho14.1) (by rw [ho14.2]; rfl))))) ?_
              have b149 : (-2147483648 : Int) ≤ F (b) (12 : Int) ∧ F (b) (12 : Int) ≤ 2147483647 := by have z := HC_i (c := 7) (q := 12) hC146 ho14.1 ho14.2 (by decide) rfl; rw [show F145 (b) ((12 : Nat) : Int) = F (b) (12 : Int) from ((show F145 (b) (12 : Int) = F140 (b) (12 : Int) from hM147 _ _ ho14.1 (own_z ho14.1) (by rw [ho14.2]; rfl)).trans ((show F140 (b) (12 : Int) = F23 (b) (12 : Int) from by rw [eF140]; exact uF_j (by decide)).trans ((show F23 (b) (12 : Int) = Fx (b) (12 : Int) from hM25 _ _ ho14.1 (own_z ho14.1) (by rw [ho14.2]; rfl)).trans (show Fx (b) (12 : Int) = F (b) (12 : Int) from hMx _ _ ho14.1 (own_z ho14.1) (by rw [ho14.2]; rfl)))))] at z; exact z
              refine jx_add (pc_q := 186) rfl rfl ?_
              obtain ⟨z150, ez150⟩ : ∃ q, q = (i32 ((F (b) (11 : Int) + F (b) (12 : Int)))).toInt := ⟨_, rfl⟩
              have bz150 : (-2147483648 : Int) ≤ z150 ∧ z150 ≤ 2147483647 := ez150 ▸ i32_rg _
              rw [show i32 ((F (b) (11 : Int) + F (b) (12 : Int))) = i32 z150 by rw [ez150, i32_of]]
              clear ez150
              refine jx_ar (pc_q := 187) (st_q := [.int (i32 (3)), .int (i32 (z150)), .int (i32 (be))]) rfl rfl rfl rfl ?_
              refine jx_add (pc_q := 188) rfl rfl ?_
              obtain ⟨z151, ez151⟩ : ∃ q, q = (i32 ((z150 + 3))).toInt := ⟨_, rfl⟩
              have bz151 : (-2147483648 : Int) ≤ z151 ∧ z151 ≤ 2147483647 := ez151 ▸ i32_rg _
              rw [show i32 ((z150 + 3)) = i32 z151 by rw [ez151, i32_of]]
              clear ez151
              refine jx_add (pc_q := 189) rfl rfl ?_
              obtain ⟨z152, ez152⟩ : ∃ q, q = (i32 ((be + z151))).toInt := ⟨_, rfl⟩
              have bz152 : (-2147483648 : Int) ≤ z152 ∧ z152 ≤ 2147483647 := ez152 ▸ i32_rg _
              rw [show i32 ((be + z151)) = i32 z152 by rw [ez152, i32_of]]
              clear ez152
              refine jx_ld (pc_q := 191) (l_q := jSto1 L 4 (.int (i32 (z152)))) (st_q := []) rfl rfl ?_
              obtain ⟨L153, eL153⟩ : ∃ q : jL, q = jSto1 L 4 (.int (i32 (z152))) := ⟨_, rfl⟩
              rw [← eL153]
              have g154 : jGet L153 0 = some (rv (me)) := eL153 ▸ jg_nr (by decide) gL_0
              have g155 : jGet L153 1 = some (rv (p)) := eL153 ▸ jg_nr (by decide) gL_1
              have g156 : jGet L153 2 = some (.int (i32 (bh))) := eL153 ▸ jg_ne (by decide) gL_2 rfl
              have g157 : jGet L153 3 = some (.int (i32 (fs))) := eL153 ▸ jg_ne (by decide) gL_3 rfl
              have g158 : jGet L153 6 = some (.int (i32 (k))) := eL153 ▸ jg_ne (by decide) gL_6 rfl
              have g159 : jGet L153 5 = some (rv (b)) := eL153 ▸ jg_nr (by decide) gL_5
              have g160 : jGet L153 4 = some (.int (i32 (z152))) := eL153 ▸ jg_eq
              clear eL153
              refine jx_ld (pc_q := 192) (l_q := L153) (st_q := [rv (p)]) rfl (jl_rvn g155) ?_
              refine cx_gi (pc_q := 195) (c := 7) (q := 0) (v := F (p) (0 : Int)) rfl rfl (by decide) (by decide) (Or.inl rfl) rfl o_p t_p ((show F145 (p) (0 : Int) = F140 (p) (0 : Int) from hM147 _ _ o_p (own_z o_p) (by rw [t_p]; rfl)).trans ((show F140 (p) (0 : Int) = F23 (p) (0 : Int) from by rw [eF140]; exact uF_j (by decide)).trans ((show F23 (p) (0 : Int) = Fx (p) (0 : Int) from hM25 _ _ o_p (own_z o_p) (by rw [t_p]; rfl)).trans (show Fx (p) (0 : Int) = F (p) (0 : Int) from hMx _ _ o_p (own_z o_p) (by rw [t_p]; rfl))))) ?_
              refine jx_ar (pc_q := 197) (st_q := [.int (i32 (10)), .int (i32 (F (p) (0 : Int)))]) rfl rfl rfl rfl ?_
              refine jx_icmp_ne (pc_q := 200) (tg := 205) rfl rfl rfl (by omega) (by omega) (by decide) (by decide) (fun h161 => ?_) (fun h161 => ?_)
              · have _q := h161
                refine jx_ld (pc_q := 207) (l_q := L153) (st_q := [rv (b)]) rfl (jl_rv g159) ?_
                refine cx_gr (pc_q := 210) (c := 7) (q := 8) (v := F (b) (8 : Int)) rfl rfl (by decide) (by decide) rfl rfl ho14.1 ho14.2 ((show F145 (b) (8 : Int) = F140 (b) (8 : Int) from hM147 _ _ ho14.1 (own_z ho14.1) (by rw [ho14.2]; rfl)).trans ((show F140 (b) (8 : Int) = F23 (b) (8 : Int) from by rw [eF140]; exact uF_j (by decide)).trans ((show F23 (b) (8 : Int) = Fx (b) (8 : Int) from hM25 _ _ ho14.1 (own_z ho14.1) (by rw [ho14.2]; rfl)).trans (show Fx (b) (8 : Int) = F (b) (8 : Int) from hMx _ _ ho14.1 (own_z ho14.1) (by rw [ho14.2]; rfl))))) ?_
                have y162 : F (b) (8 : Int) = 0 ∨ (own m (F (b) (8 : Int)) ∧ tg (F (b) (8 : Int)) = 8) := by have z := HC_r (c := 7) (q := 8) hC146 ho14.1 ho14.2 (by decide) rfl; rw [show F145 (b) ((8 : Nat) : Int) = F (b) (8 : Int) from ((show F145 (b) (8 : Int) = F140 (b) (8 : Int) from hM147 _ _ ho14.1 (own_z ho14.1) (by rw [ho14.2]; rfl)).trans ((show F140 (b) (8 : Int) = F23 (b) (8 : Int) from by rw [eF140]; exact uF_j (by decide)).trans ((show F23 (b) (8 : Int) = Fx (b) (8 : Int) from hM25 _ _ ho14.1 (own_z ho14.1) (by rw [ho14.2]; rfl)).trans (show Fx (b) (8 : Int) = F (b) (8 : Int) from hMx _ _ ho14.1 (own_z ho14.1) (by rw [ho14.2]; rfl)))))] at z; exact z
                have z163 := mz_n hC c_NT sx_b (own_z ho14.1)
                refine jx_ld (pc_q := 212) (l_q := jSto1 L153 5 (rv (F (b) (8 : Int)))) (st_q := []) rfl (js_rv (by decide)) ?_
                obtain ⟨L164, eL164⟩ : ∃ q : jL, q = jSto1 L153 5 (rv (F (b) (8 : Int))) := ⟨_, rfl⟩
                rw [← eL164]
                have g165 : jGet L164 0 = some (rv (me)) := eL164 ▸ jg_nr (by decide) g154
                have g166 : jGet L164 1 = some (rv (p)) := eL164 ▸ jg_nr (by decide) g155
                have g167 : jGet L164 2 = some (.int (i32 (bh))) := eL164 ▸ jg_ne (by decide) g156 rfl
                have g168 : jGet L164 3 = some (.int (i32 (fs))) := eL164 ▸ jg_ne (by decide) g157 rfl
                have g169 : jGet L164 6 = some (.int (i32 (k))) := eL164 ▸ jg_ne (by decide) g158 rfl
                have g170 : jGet L164 4 = some (.int (i32 (z152))) := eL164 ▸ jg_ne (by decide) g160 rfl
                have g171 : jGet L164 5 = some (rv (F (b) (8 : Int))) := eL164 ▸ jg_eq
                clear eL164
                refine jx_inc (pc_q := 215) (l_q := jSto1 L164 6 (.int (i32 (k + (1))))) (x := k) rfl g169 (by decide) rfl rfl ?_
                obtain ⟨L172, eL172⟩ : ∃ q : jL, q = jSto1 L164 6 (.int (i32 ((k + (1))))) := ⟨_, rfl⟩
                rw [← eL172]
                have g173 : jGet L172 0 = some (rv (me)) := eL172 ▸ jg_nr (by decide) g165
                have g174 : jGet L172 1 = some (rv (p)) := eL172 ▸ jg_nr (by decide) g166
                have g175 : jGet L172 2 = some (.int (i32 (bh))) := eL172 ▸ jg_ne (by decide) g167 rfl
                have g176 : jGet L172 3 = some (.int (i32 (fs))) := eL172 ▸ jg_ne (by decide) g168 rfl
                have g177 : jGet L172 4 = some (.int (i32 (z152))) := eL172 ▸ jg_ne (by decide) g170 rfl
                have g178 : jGet L172 5 = some (rv (F (b) (8 : Int))) := eL172 ▸ jg_nr (by decide) g171
                have g179 : jGet L172 6 = some (.int (i32 ((k + (1))))) := eL172 ▸ jg_eq
                clear eL172
                refine jx_go (tg := 96) rfl rfl ?_
                exact ih _ (by omega) L172 F145 (bh) (fs) (z152) ((k + (1))) (F (b) (8 : Int)) rfl g173 g174 g175 g176 g177 g179 g178 hC146 hM148 (by omega) (by omega) (by omega) (by omega) y162 (by omega) (SN_w (SN_n hC c_NT sx_b (own_z ho14.1)) (by omega))
              · have _q := h161
                refine jx_ld (pc_q := 202) (l_q := L153) (st_q := [rv (b)]) rfl (jl_rv g159) ?_
                refine jx_go (tg := 210) rfl rfl ?_
                refine jx_ld (pc_q := 212) (l_q := jSto1 L153 5 (rv (b))) (st_q := []) rfl (js_rv (by decide)) ?_
                obtain ⟨L180, eL180⟩ : ∃ q : jL, q = jSto1 L153 5 (rv (b)) := ⟨_, rfl⟩
                rw [← eL180]
                have g181 : jGet L180 0 = some (rv (me)) := eL180 ▸ jg_nr (by decide) g154
                have g182 : jGet L180 1 = some (rv (p)) := eL180 ▸ jg_nr (by decide) g155
                have g183 : jGet L180 2 = some (.int (i32 (bh))) := eL180 ▸ jg_ne (by decide) g156 rfl
                have g184 : jGet L180 3 = some (.int (i32 (fs))) := eL180 ▸ jg_ne (by decide) g157 rfl
                have g185 : jGet L180 6 = some (.int (i32 (k))) := eL180 ▸ jg_ne (by decide) g158 rfl
                have g186 : jGet L180 4 = some (.int (i32 (z152))) := eL180 ▸ jg_ne (by decide) g160 rfl
                have g187 : jGet L180 5 = some (rv (b)) := eL180 ▸ jg_eq
                clear eL180
                refine jx_inc (pc_q := 215) (l_q := jSto1 L180 6 (.int (i32 (k + (1))))) (x := k) rfl g185 (by decide) rfl rfl ?_
                obtain ⟨L188, eL188⟩ : ∃ q : jL, q = jSto1 L180 6 (.int (i32 ((k + (1))))) := ⟨_, rfl⟩
                rw [← eL188]
                have g189 : jGet L188 0 = some (rv (me)) := eL188 ▸ jg_nr (by decide) g181
                have g190 : jGet L188 1 = some (rv (p)) := eL188 ▸ jg_nr (by decide) g182
                have g191 : jGet L188 2 = some (.int (i32 (bh))) := eL188 ▸ jg_ne (by decide) g183 rfl
                have g192 : jGet L188 3 = some (.int (i32 (fs))) := eL188 ▸ jg_ne (by decide) g184 rfl
                have g193 : jGet L188 4 = some (.int (i32 (z152))) := eL188 ▸ jg_ne (by decide) g186 rfl
                have g194 : jGet L188 5 = some (rv (b)) := eL188 ▸ jg_nr (by decide) g187
                have g195 : jGet L188 6 = some (.int (i32 ((k + (1))))) := eL188 ▸ jg_eq
                clear eL188
                refine jx_go (tg := 96) rfl rfl ?_
                exact ih _ (by omega) L188 F145 (bh) (fs) (z152) ((k + (1))) (b) rfl g189 g190 g191 g192 g193 g195 g194 hC146 hM148 (by omega) (by omega) (by omega) (by omega) (Or.inr ⟨ho14.1, ho14.2⟩) (by omega) (SN_w sx_b (by omega))
set_option maxRecDepth 20000 in
set_option maxHeartbeats 4000000 in
theorem k_LCoder_fork {X : jX} {kk : Nat} (hE : 1 ≤ kk → CPx X (kk - 1)) {dd : Nat} {R : Nat → jC} {m : Nat} {tg ln : Int → Int} {F : Int → Int → Int} {me p : Int} (hd : 3 * kk + 15 ≤ dd) (hC : HC 0 m tg ln F) (o_me : own m me) (t_me : tg me = 2) (o_p : own m p) (t_p : tg p = 8) (c_NT : NT m tg F) (n_p : SN m tg F p (kk)) : wk X dd 73 [rv me, rv p] (cV R m tg ln F) (fun o V_q => ∃ (F_q : Int → Int → Int), V_q = cV R m tg ln F_q ∧ o = .inl none ∧ HC 0 m tg ln F_q ∧ Fq 0 [(2, 7), (2, 8), (2, 11), (20, -5), (21, -5), (2, 10), (7, 6), (7, 9)] m tg F F_q ∧ True) := by
  obtain ⟨d, rfl⟩ : ∃ d, dd = d + 1 := ⟨dd - 1, by omega⟩
  refine wk_of (e := jm73) rfl (by rw [jS_r, jS_r, jS_0]; exact Nat.le_of_ble_eq_true rfl) ?_
  rw [la_r, la_r, la_0]
  show wj X d jm73 (0, [(0, rv (me)), (1, rv (p))], [], cV R m tg ln F) _
  have hM0 : Fq 0 [(2, 7), (2, 8), (2, 11), (20, -5), (21, -5), (2, 10), (7, 6), (7, 9)] m tg F F := Fq_r
  obtain ⟨L0, eL0⟩ : ∃ q : jL, q = [(0, rv (me)), (1, rv (p))] := ⟨_, rfl⟩
  rw [← eL0]
  have g196 : jGet L0 0 = some (rv (me)) := eL0 ▸ (rfl : jGet [(0, rv (me)), (1, rv (p))] 0 = some (rv (me)))
  have g197 : jGet L0 1 = some (rv (p)) := eL0 ▸ (rfl : jGet [(0, rv (me)), (1, rv (p))] 1 = some (rv (p)))
  clear eL0
  have k198 := SN_p n_p (own_z o_p)
  have hE199 := hE (by omega)
  refine jx_ld (pc_q := 1) (l_q := L0) (st_q := [rv (me)]) rfl (jl_rvn g196) ?_
  refine cx_vi (c := 1) (a := me) (st := []) (as := []) rfl rfl rfl o_me t_me (by decide) rfl ⟨rfl, rfl, (Nat.le_of_ble_eq_true rfl)⟩ rfl (k_LCoder_newLabel (dd := d) (R := R) (m := m) (tg := tg) (ln := ln) (F := F) (me := me) (hd := by omega) (hC := hC) (o_me := o_me) (t_me := t_me)) (fun o V_q hq => ?_)
  obtain ⟨F200, r201, rfl, rfl, hC202, hM203, b204, -⟩ := hq
  have hM205 : Fq 0 [(2, 7), (2, 8), (2, 11), (20, -5), (21, -5), (2, 10), (7, 6), (7, 9)] m tg F F200 := Fq_t (ln := ln) (ln1 := ln) hM0 Ex_r hM203 (by decide) (Or.inl rfl)
  refine Or.inr (Or.inl ⟨_, rfl, ?_⟩)
  refine jx_ld (pc_q := 5) (l_q := jSto1 L0 2 (.int (i32 (r201)))) (st_q := []) rfl rfl ?_
  obtain ⟨L206, eL206⟩ : ∃ q : jL, q = jSto1 L0 2 (.int (i32 (r201))) := ⟨_, rfl⟩
  rw [← eL206]
  have g207 : jGet L206 0 = some (rv (me)) := eL206 ▸ jg_nr (by decide) g196
  have g208 : jGet L206 1 = some (rv (p)) := eL206 ▸ jg_nr (by decide) g197
  have g209 : jGet L206 2 = some (.int (i32 (r201))) := eL206 ▸ jg_eq
  clear eL206
  refine jx_ld (pc_q := 6) (l_q := L206) (st_q := [rv (me)]) rfl (jl_rvn g207) ?_
  refine jx_ar (pc_q := 7) (st_q := [.int (i32 (4)), rv (me)]) rfl rfl rfl rfl ?_
  refine jx_ld (pc_q := 8) (l_q := L206) (st_q := [.int (i32 (r201)), .int (i32 (4)), rv (me)]) rfl (jl_iloadn g209) ?_
  refine jx_ar (pc_q := 10) (st_q := [.int (i32 (-2)), .int (i32 (r201)), .int (i32 (4)), rv (me)]) rfl rfl rfl rfl ?_
  refine cx_vi (c := 1) (a := me) (st := []) (as := [.int (i32 (4)), .int (i32 (r201)), .int (i32 (-2))]) rfl rfl rfl o_me t_me (by decide) rfl ⟨rfl, rfl, (Nat.le_of_ble_eq_true rfl)⟩ rfl (k_LCoder_way (dd := d) (R := R) (m := m) (tg := tg) (ln := ln) (F := F200) (me := me) (fu := 4) (lb := r201) (og := -2) (hd := by omega) (hC := hC202) (o_me := o_me) (t_me := t_me) (h_fu := by omega) (h_lb := by omega) (h_og := by omega)) (fun o V_q hq => ?_)
  obtain ⟨F210, rfl, rfl, hC211, hM212, -⟩ := hq
  have hM213 : Fq 0 [(2, 7), (2, 8), (2, 11), (20, -5), (21, -5), (2, 10), (7, 6), (7, 9)] m tg F F210 := Fq_t (ln := ln) (ln1 := ln) hM205 Ex_r hM212 (by decide) (Or.inl rfl)
  refine Or.inl ⟨rfl, ?_⟩
  refine jx_ld (pc_q := 14) (l_q := L206) (st_q := [rv (me)]) rfl (jl_rvn g207) ?_
  refine jx_ar (pc_q := 16) (st_q := [.int (i32 (13)), rv (me)]) rfl rfl rfl rfl ?_
  refine cx_vi (c := 1) (a := me) (st := []) (as := [.int (i32 (13))]) rfl rfl rfl o_me t_me (by decide) rfl ⟨rfl, rfl, (Nat.le_of_ble_eq_true rfl)⟩ rfl (k_LCoder_operation (dd := d) (R := R) (m := m) (tg := tg) (ln := ln) (F := F210) (me := me) (op := 13) (hd := by omega) (hC := hC211) (o_me := o_me) (t_me := t_me) (h_op := by omega)) (fun o V_q hq => ?_)
  obtain ⟨F214, rfl, rfl, hC215, hM216, -⟩ := hq
  have hM217 : Fq 0 [(2, 7), (2, 8), (2, 11), (20, -5), (21, -5), (2, 10), (7, 6), (7, 9)] m tg F F214 := Fq_t (ln := ln) (ln1 := ln) hM213 Ex_r hM216 (by decide) (Or.inl rfl)
  refine Or.inl ⟨rfl, ?_⟩
  refine jx_ld (pc_q := 20) (l_q := L206) (st_q := [rv (me)]) rfl (jl_rvn g207) ?_
  refine jx_ar (pc_q := 22) (st_q := [.int (i32 (13)), rv (me)]) rfl rfl rfl rfl ?_
  refine jx_ld (pc_q := 23) (l_q := L206) (st_q := [rv (p), .int (i32 (13)), rv (me)]) rfl (jl_rvn g208) ?_
  refine cx_gi (pc_q := 26) (c := 7) (q := 10) (v := F (p) (10 : Int)) rfl rfl (by decide) (by decide) (Or.inl rfl) rfl o_p t_p ((show F214 (p) (10 : Int) = F210 (p) (10 : Int) from hM216 _ _ o_p (own_z o_p) (by rw [t_p]; rfl)).trans ((show F210 (p) (10 : Int) = F200 (p) (10 : Int) from hM212 _ _ o_p (own_z o_p) (by rw [t_p]; rfl)).trans (show F200 (p) (10 : Int) = F (p) (10 : Int) from hM203 _ _ o_p (own_z o_p) (by rw [t_p]; rfl)))) ?_
  have b218 : (-2147483648 : Int) ≤ F (p) (10 : Int) ∧ F (p) (10 : Int) ≤ 2147483647 := by have z := HC_i (c := 7) (q := 10) hC215 o_p t_p (by decide) rfl; rw [show F214 (p) ((10 : Nat) : Int) = F (p) (10 : Int) from ((show F214 (p) (10 : Int) = F210 (p) (10 : Int) from hM216 _ _ o_p (own_z o_p) (by rw [t_p]; rfl)).trans ((show F210 (p) (10 : Int) = F200 (p) (10 : Int) from hM212 _ _ o_p (own_z o_p) (by rw [t_p]; rfl)).trans (show F200 (p) (10 : Int) = F (p) (10 : Int) from hM203 _ _ o_p (own_z o_p) (by rw [t_p]; rfl))))] at z; exact z
  refine cx_vi (c := 1) (a := me) (st := []) (as := [.int (i32 (13)), .int (i32 (F (p) (10 : Int)))]) rfl rfl rfl o_me t_me (by decide) rfl ⟨rfl, rfl, (Nat.le_of_ble_eq_true rfl)⟩ rfl (k_LCoder_emit (dd := d) (R := R) (m := m) (tg := tg) (ln := ln) (F := F214) (me := me) (fu := 13) (op := F (p) (10 : Int)) (hd := by omega) (hC := hC215) (o_me := o_me) (t_me := t_me) (h_fu := by omega) (h_op := by omega)) (fun o V_q hq => ?_)
  obtain ⟨F219, rfl, rfl, hC220, hM221, -⟩ := hq
  have hM222 : Fq 0 [(2, 7), (2, 8), (2, 11), (20, -5), (21, -5), (2, 10), (7, 6), (7, 9)] m tg F F219 := Fq_t (ln := ln) (ln1 := ln) hM217 Ex_r hM221 (by decide) (Or.inl rfl)
  refine Or.inl ⟨rfl, ?_⟩
  refine jx_ld (pc_q := 30) (l_q := L206) (st_q := [rv (me)]) rfl (jl_rvn g207) ?_
  refine jx_ar (pc_q := 31) (st_q := [.int (i32 (4)), rv (me)]) rfl rfl rfl rfl ?_
  refine jx_ld (pc_q := 32) (l_q := L206) (st_q := [rv (p), .int (i32 (4)), rv (me)]) rfl (jl_rvn g208) ?_
  refine cx_gi (pc_q := 35) (c := 7) (q := 2) (v := F (p) (2 : Int)) rfl rfl (by decide) (by decide) (Or.inl rfl) rfl o_p t_p ((show F219 (p) (2 : Int) = F214 (p) (2 : Int) from hM221 _ _ o_p (own_z o_p) (by rw [t_p]; rfl)).trans ((show F214 (p) (2 : Int) = F210 (p) (2 : Int) from hM216 _ _ o_p (own_z o_p) (by rw [t_p]; rfl)).trans ((show F210 (p) (2 : Int) = F200 (p) (2 : Int) from hM212 _ _ o_p (own_z o_p) (by rw [t_p]; rfl)).trans (show F200 (p) (2 : Int) = F (p) (2 : Int) from hM203 _ _ o_p (own_z o_p) (by rw [t_p]; rfl))))) ?_
  have b223 : (-2147483648 : Int) ≤ F (p) (2 : Int) ∧ F (p) (2 : Int) ≤ 2147483647 := by have z := HC_i (c := 7) (q := 2) hC220 o_p t_p (by decide) rfl; rw [show F219 (p) ((2 : Nat) : Int) = F (p) (2 : Int) from ((show F219 (p) (2 : Int) = F214 (p) (2 : Int) from hM221 _ _ o_p (own_z o_p) (by rw [t_p]; rfl)).trans ((show F214 (p) (2 : Int) = F210 (p) (2 : Int) from hM216 _ _ o_p (own_z o_p) (by rw [t_p]; rfl)).trans ((show F210 (p) (2 : Int) = F200 (p) (2 : Int) from hM212 _ _ o_p (own_z o_p) (by rw [t_p]; rfl)).trans (show F200 (p) (2 : Int) = F (p) (2 : Int) from hM203 _ _ o_p (own_z o_p) (by rw [t_p]; rfl)))))] at z; exact z
  refine cx_vi (c := 1) (a := me) (st := []) (as := [.int (i32 (4)), .int (i32 (F (p) (2 : Int)))]) rfl rfl rfl o_me t_me (by decide) rfl ⟨rfl, rfl, (Nat.le_of_ble_eq_true rfl)⟩ rfl (k_LCoder_emit (dd := d) (R := R) (m := m) (tg := tg) (ln := ln) (F := F219) (me := me) (fu := 4) (op := F (p) (2 : Int)) (hd := by omega) (hC := hC220) (o_me := o_me) (t_me := t_me) (h_fu := by omega) (h_op := by omega)) (fun o V_q hq => ?_)
  obtain ⟨F224, rfl, rfl, hC225, hM226, -⟩ := hq
  have hM227 : Fq 0 [(2, 7), (2, 8), (2, 11), (20, -5), (21, -5), (2, 10), (7, 6), (7, 9)] m tg F F224 := Fq_t (ln := ln) (ln1 := ln) hM222 Ex_r hM226 (by decide) (Or.inl rfl)
  refine Or.inl ⟨rfl, ?_⟩
  refine jx_ld (pc_q := 39) (l_q := L206) (st_q := [rv (me)]) rfl (jl_rvn g207) ?_
  refine jx_ar (pc_q := 41) (st_q := [.int (i32 (13)), rv (me)]) rfl rfl rfl rfl ?_
  refine jx_ld (pc_q := 42) (l_q := L206) (st_q := [rv (p), .int (i32 (13)), rv (me)]) rfl (jl_rvn g208) ?_
  refine cx_gi (pc_q := 45) (c := 7) (q := 10) (v := F (p) (10 : Int)) rfl rfl (by decide) (by decide) (Or.inl rfl) rfl o_p t_p ((show F224 (p) (10 : Int) = F219 (p) (10 : Int) from hM226 _ _ o_p (own_z o_p) (by rw [t_p]; rfl)).trans ((show F219 (p) (10 : Int) = F214 (p) (10 : Int) from hM221 _ _ o_p (own_z o_p) (by rw [t_p]; rfl)).trans ((show F214 (p) (10 : Int) = F210 (p) (10 : Int) from hM216 _ _ o_p (own_z o_p) (by rw [t_p]; rfl)).trans ((show F210 (p) (10 : Int) = F200 (p) (10 : Int) from hM212 _ _ o_p (own_z o_p) (by rw [t_p]; rfl)).trans (show F200 (p) (10 : Int) = F (p) (10 : Int) from hM203 _ _ o_p (own_z o_p) (by rw [t_p]; rfl)))))) ?_
  refine jx_ar (pc_q := 46) (st_q := [.int (i32 (1)), .int (i32 (F (p) (10 : Int))), .int (i32 (13)), rv (me)]) rfl rfl rfl rfl ?_
  refine jx_add (pc_q := 47) rfl rfl ?_
  obtain ⟨z228, ez228⟩ : ∃ q, q = (i32 ((F (p) (10 : Int) + 1))).toInt := ⟨_, rfl⟩
  have bz228 : (-2147483648 : Int) ≤ z228 ∧ z228 ≤ 2147483647 := ez228 ▸ i32_rg _
  rw [show i32 ((F (p) (10 : Int) + 1)) = i32 z228 by rw [ez228, i32_of]]
  clear ez228
  refine cx_vi (c := 1) (a := me) (st := []) (as := [.int (i32 (13)), .int (i32 (z228))]) rfl rfl rfl o_me t_me (by decide) rfl ⟨rfl, rfl, (Nat.le_of_ble_eq_true rfl)⟩ rfl (k_LCoder_emit (dd := d) (R := R) (m := m) (tg := tg) (ln := ln) (F := F224) (me := me) (fu := 13) (op := z228) (hd := by omega) (hC := hC225) (o_me := o_me) (t_me := t_me) (h_fu := by omega) (h_op := by omega)) (fun o V_q hq => ?_)
  obtain ⟨F229, rfl, rfl, hC230, hM231, -⟩ := hq
  have hM232 : Fq 0 [(2, 7), (2, 8), (2, 11), (20, -5), (21, -5), (2, 10), (7, 6), (7, 9)] m tg F F229 := Fq_t (ln := ln) (ln1 := ln) hM227 Ex_r hM231 (by decide) (Or.inl rfl)
  refine Or.inl ⟨rfl, ?_⟩
  refine jx_ld (pc_q := 51) (l_q := L206) (st_q := [rv (me)]) rfl (jl_rvn g207) ?_
  refine jx_ar (pc_q := 53) (st_q := [.int (i32 (30)), rv (me)]) rfl rfl rfl rfl ?_
  refine cx_vi (c := 1) (a := me) (st := []) (as := [.int (i32 (30))]) rfl rfl rfl o_me t_me (by decide) rfl ⟨rfl, rfl, (Nat.le_of_ble_eq_true rfl)⟩ rfl (k_LCoder_operation (dd := d) (R := R) (m := m) (tg := tg) (ln := ln) (F := F229) (me := me) (op := 30) (hd := by omega) (hC := hC230) (o_me := o_me) (t_me := t_me) (h_op := by omega)) (fun o V_q hq => ?_)
  obtain ⟨F233, rfl, rfl, hC234, hM235, -⟩ := hq
  have hM236 : Fq 0 [(2, 7), (2, 8), (2, 11), (20, -5), (21, -5), (2, 10), (7, 6), (7, 9)] m tg F F233 := Fq_t (ln := ln) (ln1 := ln) hM232 Ex_r hM235 (by decide) (Or.inl rfl)
  refine Or.inl ⟨rfl, ?_⟩
  refine jx_ld (pc_q := 57) (l_q := L206) (st_q := [rv (me)]) rfl (jl_rvn g207) ?_
  refine jx_ar (pc_q := 59) (st_q := [.int (i32 (13)), rv (me)]) rfl rfl rfl rfl ?_
  refine jx_ld (pc_q := 60) (l_q := L206) (st_q := [rv (p), .int (i32 (13)), rv (me)]) rfl (jl_rvn g208) ?_
  refine cx_gi (pc_q := 63) (c := 7) (q := 10) (v := F (p) (10 : Int)) rfl rfl (by decide) (by decide) (Or.inl rfl) rfl o_p t_p ((show F233 (p) (10 : Int) = F229 (p) (10 : Int) from hM235 _ _ o_p (own_z o_p) (by rw [t_p]; rfl)).trans ((show F229 (p) (10 : Int) = F224 (p) (10 : Int) from hM231 _ _ o_p (own_z o_p) (by rw [t_p]; rfl)).trans ((show F224 (p) (10 : Int) = F219 (p) (10 : Int) from hM226 _ _ o_p (own_z o_p) (by rw [t_p]; rfl)).trans ((show F219 (p) (10 : Int) = F214 (p) (10 : Int) from hM221 _ _ o_p (own_z o_p) (by rw [t_p]; rfl)).trans ((show F214 (p) (10 : Int) = F210 (p) (10 : Int) from hM216 _ _ o_p (own_z o_p) (by rw [t_p]; rfl)).trans ((show F210 (p) (10 : Int) = F200 (p) (10 : Int) from hM212 _ _ o_p (own_z o_p) (by rw [t_p]; rfl)).trans (show F200 (p) (10 : Int) = F (p) (10 : Int) from hM203 _ _ o_p (own_z o_p) (by rw [t_p]; rfl)))))))) ?_
  refine jx_ar (pc_q := 64) (st_q := [.int (i32 (2)), .int (i32 (F (p) (10 : Int))), .int (i32 (13)), rv (me)]) rfl rfl rfl rfl ?_
  refine jx_add (pc_q := 65) rfl rfl ?_
  obtain ⟨z237, ez237⟩ : ∃ q, q = (i32 ((F (p) (10 : Int) + 2))).toInt := ⟨_, rfl⟩
  have bz237 : (-2147483648 : Int) ≤ z237 ∧ z237 ≤ 2147483647 := ez237 ▸ i32_rg _
  rw [show i32 ((F (p) (10 : Int) + 2)) = i32 z237 by rw [ez237, i32_of]]
  clear ez237
  refine cx_vi (c := 1) (a := me) (st := []) (as := [.int (i32 (13)), .int (i32 (z237))]) rfl rfl rfl o_me t_me (by decide) rfl ⟨rfl, rfl, (Nat.le_of_ble_eq_true rfl)⟩ rfl (k_LCoder_emit (dd := d) (R := R) (m := m) (tg := tg) (ln := ln) (F := F233) (me := me) (fu := 13) (op := z237) (hd := by omega) (hC := hC234) (o_me := o_me) (t_me := t_me) (h_fu := by omega) (h_op := by omega)) (fun o V_q hq => ?_)
  obtain ⟨F238, rfl, rfl, hC239, hM240, -⟩ := hq
  have hM241 : Fq 0 [(2, 7), (2, 8), (2, 11), (20, -5), (21, -5), (2, 10), (7, 6), (7, 9)] m tg F F238 := Fq_t (ln := ln) (ln1 := ln) hM236 Ex_r hM240 (by decide) (Or.inl rfl)
  refine Or.inl ⟨rfl, ?_⟩
  refine jx_ld (pc_q := 69) (l_q := L206) (st_q := [rv (me)]) rfl (jl_rvn g207) ?_
  refine cx_gi (pc_q := 72) (c := 1) (q := 8) (v := F200 (me) (8 : Int)) rfl rfl (by decide) (by decide) (Or.inl rfl) rfl o_me t_me ((show F238 (me) (8 : Int) = F233 (me) (8 : Int) from hM240 _ _ o_me (own_z o_me) (by rw [t_me]; rfl)).trans ((show F233 (me) (8 : Int) = F229 (me) (8 : Int) from hM235 _ _ o_me (own_z o_me) (by rw [t_me]; rfl)).trans ((show F229 (me) (8 : Int) = F224 (me) (8 : Int) from hM231 _ _ o_me (own_z o_me) (by rw [t_me]; rfl)).trans ((show F224 (me) (8 : Int) = F219 (me) (8 : Int) from hM226 _ _ o_me (own_z o_me) (by rw [t_me]; rfl)).trans ((show F219 (me) (8 : Int) = F214 (me) (8 : Int) from hM221 _ _ o_me (own_z o_me) (by rw [t_me]; rfl)).trans ((show F214 (me) (8 : Int) = F210 (me) (8 : Int) from hM216 _ _ o_me (own_z o_me) (by rw [t_me]; rfl)).trans (show F210 (me) (8 : Int) = F200 (me) (8 : Int) from hM212 _ _ o_me (own_z o_me) (by rw [t_me]; rfl)))))))) ?_
  have b242 : (0 : Int) ≤ F200 (me) (8 : Int) ∧ F200 (me) (8 : Int) ≤ 6000 := by have z := HC_i (c := 1) (q := 8) hC239 o_me t_me (by decide) rfl; rw [show F238 (me) ((8 : Nat) : Int) = F200 (me) (8 : Int) from ((show F238 (me) (8 : Int) = F233 (me) (8 : Int) from hM240 _ _ o_me (own_z o_me) (by rw [t_me]; rfl)).trans ((show F233 (me) (8 : Int) = F229 (me) (8 : Int) from hM235 _ _ o_me (own_z o_me) (by rw [t_me]; rfl)).trans ((show F229 (me) (8 : Int) = F224 (me) (8 : Int) from hM231 _ _ o_me (own_z o_me) (by rw [t_me]; rfl)).trans ((show F224 (me) (8 : Int) = F219 (me) (8 : Int) from hM226 _ _ o_me (own_z o_me) (by rw [t_me]; rfl)).trans ((show F219 (me) (8 : Int) = F214 (me) (8 : Int) from hM221 _ _ o_me (own_z o_me) (by rw [t_me]; rfl)).trans ((show F214 (me) (8 : Int) = F210 (me) (8 : Int) from hM216 _ _ o_me (own_z o_me) (by rw [t_me]; rfl)).trans (show F210 (me) (8 : Int) = F200 (me) (8 : Int) from hM212 _ _ o_me (own_z o_me) (by rw [t_me]; rfl))))))))] at z; exact z
  refine jx_ld (pc_q := 73) (l_q := jSto1 L206 3 (.int (i32 (F200 (me) (8 : Int))))) (st_q := []) rfl rfl ?_
  obtain ⟨L243, eL243⟩ : ∃ q : jL, q = jSto1 L206 3 (.int (i32 (F200 (me) (8 : Int)))) := ⟨_, rfl⟩
  rw [← eL243]
  have g244 : jGet L243 0 = some (rv (me)) := eL243 ▸ jg_nr (by decide) g207
  have g245 : jGet L243 1 = some (rv (p)) := eL243 ▸ jg_nr (by decide) g208
  have g246 : jGet L243 2 = some (.int (i32 (r201))) := eL243 ▸ jg_ne (by decide) g209 rfl
  have g247 : jGet L243 3 = some (.int (i32 (F200 (me) (8 : Int)))) := eL243 ▸ jg_eq
  clear eL243
  refine jx_ld (pc_q := 74) (l_q := L243) (st_q := [rv (me)]) rfl (jl_rvn g244) ?_
  refine jx_ld (pc_q := 75) (l_q := L243) (st_q := [rv (p), rv (me)]) rfl (jl_rvn g245) ?_
  refine cx_vi (c := 1) (a := me) (st := []) (as := [rv (p)]) rfl rfl rfl o_me t_me (by decide) rfl ⟨rfl, rfl, (Nat.le_of_ble_eq_true rfl)⟩ rfl (k_LCoder_startBranches (dd := d) (R := R) (m := m) (tg := tg) (ln := ln) (F := F238) (kk := kk) (me := me) (p := p) (hd := by omega) (hC := hC239) (o_me := o_me) (t_me := t_me) (o_p := o_p) (t_p := t_p) (c_NT := NT_q hC c_NT hM241 rfl) (n_p := (SN_q (SN_w n_p (by omega)) hM241 rfl rfl))) (fun o V_q hq => ?_)
  obtain ⟨F248, rfl, rfl, hC249, hM250, -⟩ := hq
  have hM251 : Fq 0 [(2, 7), (2, 8), (2, 11), (20, -5), (21, -5), (2, 10), (7, 6), (7, 9)] m tg F F248 := Fq_t (ln := ln) (ln1 := ln) hM241 Ex_r hM250 (by decide) (Or.inl rfl)
  refine Or.inl ⟨rfl, ?_⟩
  refine jx_ld (pc_q := 79) (l_q := L243) (st_q := [rv (me)]) rfl (jl_rvn g244) ?_
  refine jx_ar (pc_q := 81) (st_q := [.int (i32 (18)), rv (me)]) rfl rfl rfl rfl ?_
  refine cx_vi (c := 1) (a := me) (st := []) (as := [.int (i32 (18))]) rfl rfl rfl o_me t_me (by decide) rfl ⟨rfl, rfl, (Nat.le_of_ble_eq_true rfl)⟩ rfl (k_LCoder_operation (dd := d) (R := R) (m := m) (tg := tg) (ln := ln) (F := F248) (me := me) (op := 18) (hd := by omega) (hC := hC249) (o_me := o_me) (t_me := t_me) (h_op := by omega)) (fun o V_q hq => ?_)
  obtain ⟨F252, rfl, rfl, hC253, hM254, -⟩ := hq
  have hM255 : Fq 0 [(2, 7), (2, 8), (2, 11), (20, -5), (21, -5), (2, 10), (7, 6), (7, 9)] m tg F F252 := Fq_t (ln := ln) (ln1 := ln) hM251 Ex_r hM254 (by decide) (Or.inl rfl)
  refine Or.inl ⟨rfl, ?_⟩
  refine jx_ar (pc_q := 85) (st_q := [.int (i32 (3))]) rfl rfl rfl rfl ?_
  refine jx_ld (pc_q := 87) (l_q := jSto1 L243 4 (.int (i32 (3)))) (st_q := []) rfl rfl ?_
  obtain ⟨L256, eL256⟩ : ∃ q : jL, q = jSto1 L243 4 (.int (i32 (3))) := ⟨_, rfl⟩
  rw [← eL256]
  have g257 : jGet L256 0 = some (rv (me)) := eL256 ▸ jg_nr (by decide) g244
  have g258 : jGet L256 1 = some (rv (p)) := eL256 ▸ jg_nr (by decide) g245
  have g259 : jGet L256 2 = some (.int (i32 (r201))) := eL256 ▸ jg_ne (by decide) g246 rfl
  have g260 : jGet L256 3 = some (.int (i32 (F200 (me) (8 : Int)))) := eL256 ▸ jg_ne (by decide) g247 rfl
  have g261 : jGet L256 4 = some (.int (i32 (3))) := eL256 ▸ jg_eq
  clear eL256
  refine jx_ld (pc_q := 88) (l_q := L256) (st_q := [rv (p)]) rfl (jl_rvn g258) ?_
  refine cx_gr (pc_q := 91) (c := 7) (q := 4) (v := F (p) (4 : Int)) rfl rfl (by decide) (by decide) rfl rfl o_p t_p ((show F252 (p) (4 : Int) = F248 (p) (4 : Int) from hM254 _ _ o_p (own_z o_p) (by rw [t_p]; rfl)).trans ((show F248 (p) (4 : Int) = F238 (p) (4 : Int) from hM250 _ _ o_p (own_z o_p) (by rw [t_p]; rfl)).trans ((show F238 (p) (4 : Int) = F233 (p) (4 : Int) from hM240 _ _ o_p (own_z o_p) (by rw [t_p]; rfl)).trans ((show F233 (p) (4 : Int) = F229 (p) (4 : Int) from hM235 _ _ o_p (own_z o_p) (by rw [t_p]; rfl)).trans ((show F229 (p) (4 : Int) = F224 (p) (4 : Int) from hM231 _ _ o_p (own_z o_p) (by rw [t_p]; rfl)).trans ((show F224 (p) (4 : Int) = F219 (p) (4 : Int) from hM226 _ _ o_p (own_z o_p) (by rw [t_p]; rfl)).trans ((show F219 (p) (4 : Int) = F214 (p) (4 : Int) from hM221 _ _ o_p (own_z o_p) (by rw [t_p]; rfl)).trans ((show F214 (p) (4 : Int) = F210 (p) (4 : Int) from hM216 _ _ o_p (own_z o_p) (by rw [t_p]; rfl)).trans ((show F210 (p) (4 : Int) = F200 (p) (4 : Int) from hM212 _ _ o_p (own_z o_p) (by rw [t_p]; rfl)).trans (show F200 (p) (4 : Int) = F (p) (4 : Int) from hM203 _ _ o_p (own_z o_p) (by rw [t_p]; rfl))))))))))) ?_
  have y262 : F (p) (4 : Int) = 0 ∨ (own m (F (p) (4 : Int)) ∧ tg (F (p) (4 : Int)) = 8) := by have z := HC_r (c := 7) (q := 4) hC253 o_p t_p (by decide) rfl; rw [show F252 (p) ((4 : Nat) : Int) = F (p) (4 : Int) from ((show F252 (p) (4 : Int) = F248 (p) (4 : Int) from hM254 _ _ o_p (own_z o_p) (by rw [t_p]; rfl)).trans ((show F248 (p) (4 : Int) = F238 (p) (4 : Int) from hM250 _ _ o_p (own_z o_p) (by rw [t_p]; rfl)).trans ((show F238 (p) (4 : Int) = F233 (p) (4 : Int) from hM240 _ _ o_p (own_z o_p) (by rw [t_p]; rfl)).trans ((show F233 (p) (4 : Int) = F229 (p) (4 : Int) from hM235 _ _ o_p (own_z o_p) (by rw [t_p]; rfl)).trans ((show F229 (p) (4 : Int) = F224 (p) (4 : Int) from hM231 _ _ o_p (own_z o_p) (by rw [t_p]; rfl)).trans ((show F224 (p) (4 : Int) = F219 (p) (4 : Int) from hM226 _ _ o_p (own_z o_p) (by rw [t_p]; rfl)).trans ((show F219 (p) (4 : Int) = F214 (p) (4 : Int) from hM221 _ _ o_p (own_z o_p) (by rw [t_p]; rfl)).trans ((show F214 (p) (4 : Int) = F210 (p) (4 : Int) from hM216 _ _ o_p (own_z o_p) (by rw [t_p]; rfl)).trans ((show F210 (p) (4 : Int) = F200 (p) (4 : Int) from hM212 _ _ o_p (own_z o_p) (by rw [t_p]; rfl)).trans (show F200 (p) (4 : Int) = F (p) (4 : Int) from hM203 _ _ o_p (own_z o_p) (by rw [t_p]; rfl)))))))))))] at z; exact z
  refine jx_ld (pc_q := 93) (l_q := jSto1 L256 5 (rv (F (p) (4 : Int)))) (st_q := []) rfl (js_rv (by decide)) ?_
  obtain ⟨L263, eL263⟩ : ∃ q : jL, q = jSto1 L256 5 (rv (F (p) (4 : Int))) := ⟨_, rfl⟩
  rw [← eL263]
  have g264 : jGet L263 0 = some (rv (me)) := eL263 ▸ jg_nr (by decide) g257
  have g265 : jGet L263 1 = some (rv (p)) := eL263 ▸ jg_nr (by decide) g258
  have g266 : jGet L263 2 = some (.int (i32 (r201))) := eL263 ▸ jg_ne (by decide) g259 rfl
  have g267 : jGet L263 3 = some (.int (i32 (F200 (me) (8 : Int)))) := eL263 ▸ jg_ne (by decide) g260 rfl
  have g268 : jGet L263 4 = some (.int (i32 (3))) := eL263 ▸ jg_ne (by decide) g261 rfl
  have g269 : jGet L263 5 = some (rv (F (p) (4 : Int))) := eL263 ▸ jg_eq
  clear eL263
  refine jx_ar (pc_q := 94) (st_q := [.int (i32 (0))]) rfl rfl rfl rfl ?_
  refine jx_ld (pc_q := 96) (l_q := jSto1 L263 6 (.int (i32 (0)))) (st_q := []) rfl rfl ?_
  obtain ⟨L270, eL270⟩ : ∃ q : jL, q = jSto1 L263 6 (.int (i32 (0))) := ⟨_, rfl⟩
  rw [← eL270]
  have g271 : jGet L270 0 = some (rv (me)) := eL270 ▸ jg_nr (by decide) g264
  have g272 : jGet L270 1 = some (rv (p)) := eL270 ▸ jg_nr (by decide) g265
  have g273 : jGet L270 2 = some (.int (i32 (r201))) := eL270 ▸ jg_ne (by decide) g266 rfl
  have g274 : jGet L270 3 = some (.int (i32 (F200 (me) (8 : Int)))) := eL270 ▸ jg_ne (by decide) g267 rfl
  have g275 : jGet L270 4 = some (.int (i32 (3))) := eL270 ▸ jg_ne (by decide) g268 rfl
  have g276 : jGet L270 5 = some (rv (F (p) (4 : Int))) := eL270 ▸ jg_nr (by decide) g269
  have g277 : jGet L270 6 = some (.int (i32 (0))) := eL270 ▸ jg_eq
  clear eL270
  exact k_LCoder_fork_at_96 (X := X) (kk := kk) (hE := hE) (d := d) (R := R) (m := m) (tg := tg) (ln := ln) (F := F) (me := me) (p := p) (hd := hd) (hC := hC) (o_me := o_me) (t_me := t_me) (o_p := o_p) (t_p := t_p) (c_NT := c_NT) (n_p := n_p) _ L270 F252 (r201) (F200 (me) (8 : Int)) (3) (0) (F (p) (4 : Int)) rfl g271 g272 g273 g274 g275 g277 g276 hC253 hM255 (by omega) (by omega) (by omega) (by omega) y262 (by omega) (SN_w (SN_c hC c_NT n_p (own_z o_p) (by omega)) (by omega))
set_option maxRecDepth 20000 in
set_option maxHeartbeats 4000000 in
theorem k_LCoder_answers_at_20 {X : jX} {kk : Nat} (hE : 1 ≤ kk → CPx X (kk - 1)) {d : Nat} {R : Nat → jC} {m : Nat} {tg ln : Int → Int} {F : Int → Int → Int} {me p fs : Int} (hd : 3 * kk + 14 ≤ d + 1) (hC : HC 0 m tg ln F) (o_me : own m me) (t_me : tg me = 2) (o_p : own m p) (t_p : tg p = 8) (h_fs : (-2147483648 : Int) ≤ fs ∧ fs ≤ 2147483647) (c_NT : NT m tg F) (n_p : SN m tg F p (kk)) : ∀ (mm : Nat) (L : jL) (Fx : Int → Int → Int) (en lb wd g : Int), (mz m g).toNat = mm → jGet L 0 = some (rv (me)) → jGet L 1 = some (rv (p)) → jGet L 2 = some (.int (i32 (fs))) → jGet L 3 = some (.int (i32 en)) → jGet L 4 = some (.int (i32 lb)) → jGet L 5 = some (.int (i32 wd)) → jGet L 6 = some (rv g) → HC 0 m tg ln Fx → Fq 0 [(2, 7), (2, 8), (2, 11), (20, -5), (21, -5), (2, 10), (7, 6), (7, 9)] m tg F Fx → ((-2147483648 : Int) ≤ en ∧ en ≤ 2147483647) → ((-2147483648 : Int) ≤ lb ∧ lb ≤ 2147483647) → ((-2147483648 : Int) ≤ wd ∧ wd ≤ 2147483647) → (g = 0 ∨ (own m g ∧ tg g = 8)) → (SN m tg F g (kk - 1)) → wj X d jm79 (20, L, [], cV R m tg ln Fx) (fun o V_q => ∃ (F_q : Int → Int → Int), V_q = cV R m tg ln F_q ∧ o = .inl none ∧ HC 0 m tg ln F_q ∧ Fq 0 [(2, 7), (2, 8), (2, 11), (20, -5), (21, -5), (2, 10), (7, 6), (7, 9)] m tg F F_q ∧ True) := by
  intro mm
  induction mm using Nat.strongRecOn with
  | ind mm ih =>
    intro L Fx en lb wd g hmm gL_0 gL_1 gL_2 gL_3 gL_4 gL_5 gL_6 hCx hMx rx_en rx_lb rx_wd yx_g sx_g
    have k1 := SN_p n_p (own_z o_p)
    have hE2 := hE (by omega)
    refine jx_ld (pc_q := 22) (l_q := L) (st_q := [rv (g)]) rfl (jl_rv gL_6) ?_
    refine cx_nul (pc_q := 25) (tg_q := 96) rfl rfl rfl (fun h3 => ?_) (fun h3 => ?_)
    · have _q := h3
      refine jx_ld (pc_q := 97) (l_q := L) (st_q := [rv (me)]) rfl (jl_rvn gL_0) ?_
      refine jx_ld (pc_q := 98) (l_q := L) (st_q := [.int (i32 (en)), rv (me)]) rfl (jl_iloadn gL_3) ?_
      refine cx_vi (c := 1) (a := me) (st := []) (as := [.int (i32 (en))]) rfl rfl rfl o_me t_me (by decide) rfl ⟨rfl, rfl, (Nat.le_of_ble_eq_true rfl)⟩ rfl (k_LCoder_here (dd := d) (R := R) (m := m) (tg := tg) (ln := ln) (F := Fx) (me := me) (lb := en) (hd := by omega) (hC := hCx) (o_me := o_me) (t_me := t_me) (h_lb := by omega)) (fun o V_q hq => ?_)
      obtain ⟨F4, rfl, rfl, hC5, hM6, -⟩ := hq
      have hM7 : Fq 0 [(2, 7), (2, 8), (2, 11), (20, -5), (21, -5), (2, 10), (7, 6), (7, 9)] m tg F F4 := Fq_t (ln := ln) (ln1 := ln) hMx Ex_r hM6 (by decide) (Or.inl rfl)
      refine Or.inl ⟨rfl, ?_⟩
      refine jx_rt (v := none) rfl rfl rfl rfl rfl rfl ?_
      exact ⟨F4, rfl, rfl, hC5, hM7, trivial⟩
    · have _q := h3
      have ho8 : own m (g) ∧ tg (g) = 8 := yx_g.resolve_left h3
      have k9 := SN_p sx_g h3
      refine jx_ld (pc_q := 26) (l_q := L) (st_q := [rv (me)]) rfl (jl_rvn gL_0) ?_
      refine jx_ld (pc_q := 28) (l_q := L) (st_q := [.int (i32 (lb)), rv (me)]) rfl (jl_iload gL_4) ?_
      refine cx_vi (c := 1) (a := me) (st := []) (as := [.int (i32 (lb))]) rfl rfl rfl o_me t_me (by decide) rfl ⟨rfl, rfl, (Nat.le_of_ble_eq_true rfl)⟩ rfl (k_LCoder_here (dd := d) (R := R) (m := m) (tg := tg) (ln := ln) (F := Fx) (me := me) (lb := lb) (hd := by omega) (hC := hCx) (o_me := o_me) (t_me := t_me) (h_lb := by omega)) (fun o V_q hq => ?_)
      obtain ⟨F10, rfl, rfl, hC11, hM12, -⟩ := hq
      have hM13 : Fq 0 [(2, 7), (2, 8), (2, 11), (20, -5), (21, -5), (2, 10), (7, 6), (7, 9)] m tg F F10 := Fq_t (ln := ln) (ln1 := ln) hMx Ex_r hM12 (by decide) (Or.inl rfl)
      refine Or.inl ⟨rfl, ?_⟩
      refine jx_ld (pc_q := 33) (l_q := L) (st_q := [rv (g)]) rfl (jl_rv gL_6) ?_
      refine cx_gr (pc_q := 36) (c := 7) (q := 5) (v := F (g) (5 : Int)) rfl rfl (by decide) (by decide) rfl rfl ho8.1 ho8.2 ((show F10 (g) (5 : Int) = Fx (g) (5 : Int) from hM12 _ _ ho8.1 (own_z ho8.1) (by rw [ho8.2]; rfl)).trans (show Fx (g) (5 : Int) = F (g) (5 : Int) from hMx _ _ ho8.1 (own_z ho8.1) (by rw [ho8.2]; rfl))) ?_
      have y14 : F (g) (5 : Int) = 0 ∨ (own m (F (g) (5 : Int)) ∧ tg (F (g) (5 : Int)) = 8) := by have z := HC_r (c := 7) (q := 5) hC11 ho8.1 ho8.2 (by decide) rfl; rw [show F10 (g) ((5 : Nat) : Int) = F (g) (5 : Int) from ((show F10 (g) (5 : Int) = Fx (g) (5 : Int) from hM12 _ _ ho8.1 (own_z ho8.1) (by rw [ho8.2]; rfl)).trans (show Fx (g) (5 : Int) = F (g) (5 : Int) from hMx _ _ ho8.1 (own_z ho8.1) (by rw [ho8.2]; rfl)))] at z; exact z
      refine cx_nul (pc_q := 39) (tg_q := 64) rfl rfl rfl (fun h15 => ?_) (fun h15 => ?_)
      · have _q := h15
        refine jx_ld (pc_q := 65) (l_q := L) (st_q := [rv (me)]) rfl (jl_rvn gL_0) ?_
        refine jx_ld (pc_q := 67) (l_q := L) (st_q := [rv (g), rv (me)]) rfl (jl_rv gL_6) ?_
        refine cx_gr (pc_q := 70) (c := 7) (q := 7) (v := F (g) (7 : Int)) rfl rfl (by decide) (by decide) rfl rfl ho8.1 ho8.2 ((show F10 (g) (7 : Int) = Fx (g) (7 : Int) from hM12 _ _ ho8.1 (own_z ho8.1) (by rw [ho8.2]; rfl)).trans (show Fx (g) (7 : Int) = F (g) (7 : Int) from hMx _ _ ho8.1 (own_z ho8.1) (by rw [ho8.2]; rfl))) ?_
        have y16 : F (g) (7 : Int) = 0 ∨ (own m (F (g) (7 : Int)) ∧ tg (F (g) (7 : Int)) = 8) := by have z := HC_r (c := 7) (q := 7) hC11 ho8.1 ho8.2 (by decide) rfl; rw [show F10 (g) ((7 : Nat) : Int) = F (g) (7 : Int) from ((show F10 (g) (7 : Int) = Fx (g) (7 : Int) from hM12 _ _ ho8.1 (own_z ho8.1) (by rw [ho8.2]; rfl)).trans (show Fx (g) (7 : Int) = F (g) (7 : Int) from hMx _ _ ho8.1 (own_z ho8.1) (by rw [ho8.2]; rfl)))] at z; exact z
        refine cx_vi (c := 1) (a := me) (st := []) (as := [rv (F (g) (7 : Int))]) rfl rfl rfl o_me t_me (by decide) rfl ⟨rfl, rfl, (Nat.le_of_ble_eq_true rfl)⟩ rfl (hE2 (dd := d) (R := R) (m := m) (tg := tg) (ln := ln) (F := F10) (me := me) (p := F (g) (7 : Int)) (hd := by omega) (hC := hC11) (o_me := o_me) (t_me := t_me) (y_p := y16) (c_NT := NT_q hC c_NT hM13 rfl) (n_p := (SN_q (SN_w (k_q := kk - 1) (SN_c hC c_NT sx_g (own_z ho8.1) (by omega)) (by omega)) hM13 rfl rfl))) (fun o V_q hq => ?_)
        obtain ⟨F17, rfl, rfl, hC18, hM19, -⟩ := hq
        have hM20 : Fq 0 [(2, 7), (2, 8), (2, 11), (20, -5), (21, -5), (2, 10), (7, 6), (7, 9)] m tg F F17 := Fq_t (ln := ln) (ln1 := ln) hM13 Ex_r hM19 (by decide) (Or.inl rfl)
        refine Or.inl ⟨rfl, ?_⟩
        refine jx_ld (pc_q := 74) (l_q := L) (st_q := [rv (me)]) rfl (jl_rvn gL_0) ?_
        refine jx_ar (pc_q := 75) (st_q := [.int (i32 (0)), rv (me)]) rfl rfl rfl rfl ?_
        refine jx_ld (pc_q := 76) (l_q := L) (st_q := [.int (i32 (en)), .int (i32 (0)), rv (me)]) rfl (jl_iloadn gL_3) ?_
        refine jx_ar (pc_q := 77) (st_q := [.int (i32 (-1)), .int (i32 (en)), .int (i32 (0)), rv (me)]) rfl rfl rfl rfl ?_
        refine cx_vi (c := 1) (a := me) (st := []) (as := [.int (i32 (0)), .int (i32 (en)), .int (i32 (-1))]) rfl rfl rfl o_me t_me (by decide) rfl ⟨rfl, rfl, (Nat.le_of_ble_eq_true rfl)⟩ rfl (k_LCoder_way (dd := d) (R := R) (m := m) (tg := tg) (ln := ln) (F := F17) (me := me) (fu := 0) (lb := en) (og := -1) (hd := by omega) (hC := hC18) (o_me := o_me) (t_me := t_me) (h_fu := by omega) (h_lb := by omega) (h_og := by omega)) (fun o V_q hq => ?_)
        obtain ⟨F21, rfl, rfl, hC22, hM23, -⟩ := hq
        have hM24 : Fq 0 [(2, 7), (2, 8), (2, 11), (20, -5), (21, -5), (2, 10), (7, 6), (7, 9)] m tg F F21 := Fq_t (ln := ln) (ln1 := ln) hM20 Ex_r hM23 (by decide) (Or.inl rfl)
        refine Or.inl ⟨rfl, ?_⟩
        refine jx_inc (pc_q := 83) (l_q := jSto1 L 4 (.int (i32 (lb + (1))))) (x := lb) rfl gL_4 (by decide) rfl rfl ?_
        obtain ⟨z25, ez25⟩ : ∃ q, q = (i32 ((lb + (1)))).toInt := ⟨_, rfl⟩
        have bz25 : (-2147483648 : Int) ≤ z25 ∧ z25 ≤ 2147483647 := ez25 ▸ i32_rg _
        rw [show i32 ((lb + (1))) = i32 z25 by rw [ez25, i32_of]]
        clear ez25
        obtain ⟨L26, eL26⟩ : ∃ q : jL, q = jSto1 L 4 (.int (i32 (z25))) := ⟨_, rfl⟩
        rw [← eL26]
        have g27 : jGet L26 0 = some (rv (me)) := eL26 ▸ jg_nr (by decide) gL_0
        have g28 : jGet L26 1 = some (rv (p)) := eL26 ▸ jg_nr (by decide) gL_1
        have g29 : jGet L26 2 = some (.int (i32 (fs))) := eL26 ▸ jg_ne (by decide) gL_2 rfl
        have g30 : jGet L26 3 = some (.int (i32 (en))) := eL26 ▸ jg_ne (by decide) gL_3 rfl
        have g31 : jGet L26 5 = some (.int (i32 (wd))) := eL26 ▸ jg_ne (by decide) gL_5 rfl
        have g32 : jGet L26 6 = some (rv (g)) := eL26 ▸ jg_nr (by decide) gL_6
        have g33 : jGet L26 4 = some (.int (i32 (z25))) := eL26 ▸ jg_eq
        clear eL26
        refine jx_inc (pc_q := 86) (l_q := jSto1 L26 5 (.int (i32 (wd + (2))))) (x := wd) rfl g31 (by decide) rfl rfl ?_
        obtain ⟨z34, ez34⟩ : ∃ q, q = (i32 ((wd + (2)))).toInt := ⟨_, rfl⟩
        have bz34 : (-2147483648 : Int) ≤ z34 ∧ z34 ≤ 2147483647 := ez34 ▸ i32_rg _
        rw [show i32 ((wd + (2))) = i32 z34 by rw [ez34, i32_of]]
        clear ez34
        obtain ⟨L35, eL35⟩ : ∃ q : jL, q = jSto1 L26 5 (.int (i32 (z34))) := ⟨_, rfl⟩
        rw [← eL35]
        have g36 : jGet L35 0 = some (rv (me)) := eL35 ▸ jg_nr (by decide) g27
        have g37 : jGet L35 1 = some (rv (p)) := eL35 ▸ jg_nr (by decide) g28
        have g38 : jGet L35 2 = some (.int (i32 (fs))) := eL35 ▸ jg_ne (by decide) g29 rfl
        have g39 : jGet L35 3 = some (.int (i32 (en))) := eL35 ▸ jg_ne (by decide) g30 rfl
        have g40 : jGet L35 6 = some (rv (g)) := eL35 ▸ jg_nr (by decide) g32
        have g41 : jGet L35 4 = some (.int (i32 (z25))) := eL35 ▸ jg_ne (by decide) g33 rfl
        have g42 : jGet L35 5 = some (.int (i32 (z34))) := eL35 ▸ jg_eq
        clear eL35
        refine jx_ld (pc_q := 88) (l_q := L35) (st_q := [rv (g)]) rfl (jl_rv g40) ?_
        refine cx_gr (pc_q := 91) (c := 7) (q := 8) (v := F (g) (8 : Int)) rfl rfl (by decide) (by decide) rfl rfl ho8.1 ho8.2 ((show F21 (g) (8 : Int) = F17 (g) (8 : Int) from hM23 _ _ ho8.1 (own_z ho8.1) (by rw [ho8.2]; rfl)).trans ((show F17 (g) (8 : Int) = F10 (g) (8 : Int) from hM19 _ _ ho8.1 (own_z ho8.1) (by rw [ho8.2]; rfl)).trans ((show F10 (g) (8 : Int) = Fx (g) (8 : Int) from hM12 _ _ ho8.1 (own_z ho8.1) (by rw [ho8.2]; rfl)).trans (show Fx (g) (8 : Int) = F (g) (8 : Int) from hMx _ _ ho8.1 (own_z ho8.1) (by rw [ho8.2]; rfl))))) ?_
        have y43 : F (g) (8 : Int) = 0 ∨ (own m (F (g) (8 : Int)) ∧ tg (F (g) (8 : Int)) = 8) := by have z := HC_r (c := 7) (q := 8) hC22 ho8.1 ho8.2 (by decide) rfl; rw [show F21 (g) ((8 : Nat) : Int) = F (g) (8 : Int) from ((show F21 (g) (8 : Int) = F17 (g) (8 : Int) from hM23 _ _ ho8.1 (own_z ho8.1) (by rw [ho8.2]; rfl)).trans ((show F17 (g) (8 : Int) = F10 (g) (8 : Int) from hM19 _ _ ho8.1 (own_z ho8.1) (by rw [ho8.2]; rfl)).trans ((show F10 (g) (8 : Int) = Fx (g) (8 : Int) from hM12 _ _ ho8.1 (own_z ho8.1) (by rw [ho8.2]; rfl)).trans (show Fx (g) (8 : Int) = F (g) (8 : Int) from hMx _ _ ho8.1 (own_z ho8.1) (by rw [ho8.2]; rfl)))))] at z; exact z
        have z44 := mz_n hC c_NT sx_g (own_z ho8.1)
        refine jx_ld (pc_q := 93) (l_q := jSto1 L35 6 (rv (F (g) (8 : Int)))) (st_q := []) rfl (js_rv (by decide)) ?_
        obtain ⟨L45, eL45⟩ : ∃ q : jL, q = jSto1 L35 6 (rv (F (g) (8 : Int))) := ⟨_, rfl⟩
        rw [← eL45]
        have g46 : jGet L45 0 = some (rv (me)) := eL45 ▸ jg_nr (by decide) g36
        have g47 : jGet L45 1 = some (rv (p)) := eL45 ▸ jg_nr (by decide) g37
        have g48 : jGet L45 2 = some (.int (i32 (fs))) := eL45 ▸ jg_ne (by decide) g38 rfl
        have g49 : jGet L45 3 = some (.int (i32 (en))) := eL45 ▸ jg_ne (by decide) g39 rfl
        have g50 : jGet L45 4 = some (.int (i32 (z25))) := eL45 ▸ jg_ne (by decide) g41 rfl
        have g51 : jGet L45 5 = some (.int (i32 (z34))) := eL45 ▸ jg_ne (by decide) g42 rfl
        have g52 : jGet L45 6 = some (rv (F (g) (8 : Int))) := eL45 ▸ jg_eq
        clear eL45
        refine jx_go (tg := 20) rfl rfl ?_
        exact ih _ (by omega) L45 F21 (en) (z25) (z34) (F (g) (8 : Int)) rfl g46 g47 g48 g49 g50 g51 g52 hC22 hM24 (by omega) (by omega) (by omega) y43 (SN_w (SN_n hC c_NT sx_g (own_z ho8.1)) (by omega))
      · have _q := h15
        have ho53 : own m (F (g) (5 : Int)) ∧ tg (F (g) (5 : Int)) = 8 := y14.resolve_left h15
        have k54 := SN_p (SN_c hC c_NT sx_g (own_z ho8.1) (by omega)) h15
        refine jx_ld (pc_q := 40) (l_q := L) (st_q := [rv (me)]) rfl (jl_rvn gL_0) ?_
        refine jx_ld (pc_q := 42) (l_q := L) (st_q := [rv (g), rv (me)]) rfl (jl_rv gL_6) ?_
        refine cx_gr (pc_q := 45) (c := 7) (q := 6) (v := F (g) (6 : Int)) rfl rfl (by decide) (by decide) rfl rfl ho8.1 ho8.2 ((show F10 (g) (6 : Int) = Fx (g) (6 : Int) from hM12 _ _ ho8.1 (own_z ho8.1) (by rw [ho8.2]; rfl)).trans (show Fx (g) (6 : Int) = F (g) (6 : Int) from hMx _ _ ho8.1 (own_z ho8.1) (by rw [ho8.2]; rfl))) ?_
        have y55 : F (g) (6 : Int) = 0 ∨ (own m (F (g) (6 : Int)) ∧ tg (F (g) (6 : Int)) = 8) := by have z := HC_r (c := 7) (q := 6) hC11 ho8.1 ho8.2 (by decide) rfl; rw [show F10 (g) ((6 : Nat) : Int) = F (g) (6 : Int) from ((show F10 (g) (6 : Int) = Fx (g) (6 : Int) from hM12 _ _ ho8.1 (own_z ho8.1) (by rw [ho8.2]; rfl)).trans (show Fx (g) (6 : Int) = F (g) (6 : Int) from hMx _ _ ho8.1 (own_z ho8.1) (by rw [ho8.2]; rfl)))] at z; exact z
        refine cx_vi (c := 1) (a := me) (st := []) (as := [rv (F (g) (6 : Int))]) rfl rfl rfl o_me t_me (by decide) rfl ⟨rfl, rfl, (Nat.le_of_ble_eq_true rfl)⟩ rfl (k_LCoder_address (dd := d) (R := R) (m := m) (tg := tg) (ln := ln) (F := F10) (kk := (kk - 1) - 1) (hE := fun _ => CVx_all X _) (me := me) (p := F (g) (6 : Int)) (hd := by omega) (hC := hC11) (o_me := o_me) (t_me := t_me) (y_p := y55) (c_NT := NT_q hC c_NT hM13 rfl) (n_p := (SN_q (SN_w (SN_c hC c_NT sx_g (own_z ho8.1) (by omega)) (by omega)) hM13 rfl rfl))) (fun o V_q hq => ?_)
        obtain ⟨F56, rfl, rfl, hC57, hM58, -⟩ := hq
        have hM59 : Fq 0 [(2, 7), (2, 8), (2, 11), (20, -5), (21, -5), (2, 10), (7, 6), (7, 9)] m tg F F56 := Fq_t (ln := ln) (ln1 := ln) hM13 Ex_r hM58 (by decide) (Or.inl rfl)
        refine Or.inl ⟨rfl, ?_⟩
        refine jx_ld (pc_q := 49) (l_q := L) (st_q := [rv (me)]) rfl (jl_rvn gL_0) ?_
        refine jx_ar (pc_q := 51) (st_q := [.int (i32 (7)), rv (me)]) rfl rfl rfl rfl ?_
        refine jx_ld (pc_q := 53) (l_q := L) (st_q := [.int (i32 (wd)), .int (i32 (7)), rv (me)]) rfl (jl_iload gL_5) ?_
        refine jx_ar (pc_q := 54) (st_q := [.int (i32 (1)), .int (i32 (wd)), .int (i32 (7)), rv (me)]) rfl rfl rfl rfl ?_
        refine jx_add (pc_q := 55) rfl rfl ?_
        obtain ⟨z60, ez60⟩ : ∃ q, q = (i32 ((wd + 1))).toInt := ⟨_, rfl⟩
        have bz60 : (-2147483648 : Int) ≤ z60 ∧ z60 ≤ 2147483647 := ez60 ▸ i32_rg _
        rw [show i32 ((wd + 1)) = i32 z60 by rw [ez60, i32_of]]
        clear ez60
        refine cx_vi (c := 1) (a := me) (st := []) (as := [.int (i32 (7)), .int (i32 (z60))]) rfl rfl rfl o_me t_me (by decide) rfl ⟨rfl, rfl, (Nat.le_of_ble_eq_true rfl)⟩ rfl (k_LCoder_emit (dd := d) (R := R) (m := m) (tg := tg) (ln := ln) (F := F56) (me := me) (fu := 7) (op := z60) (hd := by omega) (hC := hC57) (o_me := o_me) (t_me := t_me) (h_fu := by omega) (h_op := by omega)) (fun o V_q hq => ?_)
        obtain ⟨F61, rfl, rfl, hC62, hM63, -⟩ := hq
        have hM64 : Fq 0 [(2, 7), (2, 8), (2, 11), (20, -5), (21, -5), (2, 10), (7, 6), (7, 9)] m tg F F61 := Fq_t (ln := ln) (ln1 := ln) hM59 Ex_r hM63 (by decide) (Or.inl rfl)
        refine Or.inl ⟨rfl, ?_⟩
        refine jx_ld (pc_q := 59) (l_q := L) (st_q := [rv (me)]) rfl (jl_rvn gL_0) ?_
        refine jx_ar (pc_q := 61) (st_q := [.int (i32 (20)), rv (me)]) rfl rfl rfl rfl ?_
        refine cx_vi (c := 1) (a := me) (st := []) (as := [.int (i32 (20))]) rfl rfl rfl o_me t_me (by decide) rfl ⟨rfl, rfl, (Nat.le_of_ble_eq_true rfl)⟩ rfl (k_LCoder_operation (dd := d) (R := R) (m := m) (tg := tg) (ln := ln) (F := F61) (me := me) (op := 20) (hd := by omega) (hC := hC62) (o_me := o_me) (t_me := t_me) (h_op := by omega)) (fun o V_q hq => ?_)
        obtain ⟨F65, rfl, rfl, hC66, hM67, -⟩ := hq
        have hM68 : Fq 0 [(2, 7), (2, 8), (2, 11), (20, -5), (21, -5), (2, 10), (7, 6), (7, 9)] m tg F F65 := Fq_t (ln := ln) (ln1 := ln) hM64 Ex_r hM67 (by decide) (Or.inl rfl)
        refine Or.inl ⟨rfl, ?_⟩
        refine jx_ld (pc_q := 65) (l_q := L) (st_q := [rv (me)]) rfl (jl_rvn gL_0) ?_
        refine jx_ld (pc_q := 67) (l_q := L) (st_q := [rv (g), rv (me)]) rfl (jl_rv gL_6) ?_
        refine cx_gr (pc_q := 70) (c := 7) (q := 7) (v := F (g) (7 : Int)) rfl rfl (by decide) (by decide) rfl rfl ho8.1 ho8.2 ((show F65 (g) (7 : Int) = F61 (g) (7 : Int) from hM67 _ _ ho8.1 (own_z ho8.1) (by rw [ho8.2]; rfl)).trans ((show F61 (g) (7 : Int) = F56 (g) (7 : Int) from hM63 _ _ ho8.1 (own_z ho8.1) (by rw [ho8.2]; rfl)).trans ((show F56 (g) (7 : Int) = F10 (g) (7 : Int) from hM58 _ _ ho8.1 (own_z ho8.1) (by rw [ho8.2]; rfl)).trans ((show F10 (g) (7 : Int) = Fx (g) (7 : Int) from hM12 _ _ ho8.1 (own_z ho8.1) (by rw [ho8.2]; rfl)).trans (show Fx (g) (7 : Int) = F (g) (7 : Int) from hMx _ _ ho8.1 (own_z ho8.1) (by rw [ho8.2]; rfl)))))) ?_
        have y69 : F (g) (7 : Int) = 0 ∨ (own m (F (g) (7 : Int)) ∧ tg (F (g) (7 : Int)) = 8) := by have z := HC_r (c := 7) (q := 7) hC66 ho8.1 ho8.2 (by decide) rfl; rw [show F65 (g) ((7 : Nat) : Int) = F (g) (7 : Int) from ((show F65 (g) (7 : Int) = F61 (g) (7 : Int) from hM67 _ _ ho8.1 (own_z ho8.1) (by rw [ho8.2]; rfl)).trans ((show F61 (g) (7 : Int) = F56 (g) (7 : Int) from hM63 _ _ ho8.1 (own_z ho8.1) (by rw [ho8.2]; rfl)).trans ((show F56 (g) (7 : Int) = F10 (g) (7 : Int) from hM58 _ _ ho8.1 (own_z ho8.1) (by rw [ho8.2]; rfl)).trans ((show F10 (g) (7 : Int) = Fx (g) (7 : Int) from hM12 _ _ ho8.1 (own_z ho8.1) (by rw [ho8.2]; rfl)).trans (show Fx (g) (7 : Int) = F (g) (7 : Int) from hMx _ _ ho8.1 (own_z ho8.1) (by rw [ho8.2]; rfl))))))] at z; exact z
        refine cx_vi (c := 1) (a := me) (st := []) (as := [rv (F (g) (7 : Int))]) rfl rfl rfl o_me t_me (by decide) rfl ⟨rfl, rfl, (Nat.le_of_ble_eq_true rfl)⟩ rfl (hE2 (dd := d) (R := R) (m := m) (tg := tg) (ln := ln) (F := F65) (me := me) (p := F (g) (7 : Int)) (hd := by omega) (hC := hC66) (o_me := o_me) (t_me := t_me) (y_p := y69) (c_NT := NT_q hC c_NT hM68 rfl) (n_p := (SN_q (SN_w (k_q := kk - 1) (SN_c hC c_NT sx_g (own_z ho8.1) (by omega)) (by omega)) hM68 rfl rfl))) (fun o V_q hq => ?_)
        obtain ⟨F70, rfl, rfl, hC71, hM72, -⟩ := hq
        have hM73 : Fq 0 [(2, 7), (2, 8), (2, 11), (20, -5), (21, -5), (2, 10), (7, 6), (7, 9)] m tg F F70 := Fq_t (ln := ln) (ln1 := ln) hM68 Ex_r hM72 (by decide) (Or.inl rfl)
        refine Or.inl ⟨rfl, ?_⟩
        refine jx_ld (pc_q := 74) (l_q := L) (st_q := [rv (me)]) rfl (jl_rvn gL_0) ?_
        refine jx_ar (pc_q := 75) (st_q := [.int (i32 (0)), rv (me)]) rfl rfl rfl rfl ?_
        refine jx_ld (pc_q := 76) (l_q := L) (st_q := [.int (i32 (en)), .int (i32 (0)), rv (me)]) rfl (jl_iloadn gL_3) ?_
        refine jx_ar (pc_q := 77) (st_q := [.int (i32 (-1)), .int (i32 (en)), .int (i32 (0)), rv (me)]) rfl rfl rfl rfl ?_
        refine cx_vi (c := 1) (a := me) (st := []) (as := [.int (i32 (0)), .int (i32 (en)), .int (i32 (-1))]) rfl rfl rfl o_me t_me (by decide) rfl ⟨rfl, rfl, (Nat.le_of_ble_eq_true rfl)⟩ rfl (k_LCoder_way (dd := d) (R := R) (m := m) (tg := tg) (ln := ln) (F := F70) (me := me) (fu := 0) (lb := en) (og := -1) (hd := by omega) (hC := hC71) (o_me := o_me) (t_me := t_me) (h_fu := by omega) (h_lb := by omega) (h_og := by omega)) (fun o V_q hq => ?_)
        obtain ⟨F74, rfl, rfl, hC75, hM76, -⟩ := hq
        have hM77 : Fq 0 [(2, 7), (2, 8), (2, 11), (20, -5), (21, -5), (2, 10), (7, 6), (7, 9)] m tg F F74 := Fq_t (ln := ln) (ln1 := ln) hM73 Ex_r hM76 (by decide) (Or.inl rfl)
        refine Or.inl ⟨rfl, ?_⟩
        refine jx_inc (pc_q := 83) (l_q := jSto1 L 4 (.int (i32 (lb + (1))))) (x := lb) rfl gL_4 (by decide) rfl rfl ?_
        obtain ⟨z78, ez78⟩ : ∃ q, q = (i32 ((lb + (1)))).toInt := ⟨_, rfl⟩
        have bz78 : (-2147483648 : Int) ≤ z78 ∧ z78 ≤ 2147483647 := ez78 ▸ i32_rg _
        rw [show i32 ((lb + (1))) = i32 z78 by rw [ez78, i32_of]]
        clear ez78
        obtain ⟨L79, eL79⟩ : ∃ q : jL, q = jSto1 L 4 (.int (i32 (z78))) := ⟨_, rfl⟩
        rw [← eL79]
        have g80 : jGet L79 0 = some (rv (me)) := eL79 ▸ jg_nr (by decide) gL_0
        have g81 : jGet L79 1 = some (rv (p)) := eL79 ▸ jg_nr (by decide) gL_1
        have g82 : jGet L79 2 = some (.int (i32 (fs))) := eL79 ▸ jg_ne (by decide) gL_2 rfl
        have g83 : jGet L79 3 = some (.int (i32 (en))) := eL79 ▸ jg_ne (by decide) gL_3 rfl
        have g84 : jGet L79 5 = some (.int (i32 (wd))) := eL79 ▸ jg_ne (by decide) gL_5 rfl
        have g85 : jGet L79 6 = some (rv (g)) := eL79 ▸ jg_nr (by decide) gL_6
        have g86 : jGet L79 4 = some (.int (i32 (z78))) := eL79 ▸ jg_eq
        clear eL79
        refine jx_inc (pc_q := 86) (l_q := jSto1 L79 5 (.int (i32 (wd + (2))))) (x := wd) rfl g84 (by decide) rfl rfl ?_
        obtain ⟨z87, ez87⟩ : ∃ q, q = (i32 ((wd + (2)))).toInt := ⟨_, rfl⟩
        have bz87 : (-2147483648 : Int) ≤ z87 ∧ z87 ≤ 2147483647 := ez87 ▸ i32_rg _
        rw [show i32 ((wd + (2))) = i32 z87 by rw [ez87, i32_of]]
        clear ez87
        obtain ⟨L88, eL88⟩ : ∃ q : jL, q = jSto1 L79 5 (.int (i32 (z87))) := ⟨_, rfl⟩
        rw [← eL88]
        have g89 : jGet L88 0 = some (rv (me)) := eL88 ▸ jg_nr (by decide) g80
        have g90 : jGet L88 1 = some (rv (p)) := eL88 ▸ jg_nr (by decide) g81
        have g91 : jGet L88 2 = some (.int (i32 (fs))) := eL88 ▸ jg_ne (by decide) g82 rfl
        have g92 : jGet L88 3 = some (.int (i32 (en))) := eL88 ▸ jg_ne (by decide) g83 rfl
        have g93 : jGet L88 6 = some (rv (g)) := eL88 ▸ jg_nr (by decide) g85
        have g94 : jGet L88 4 = some (.int (i32 (z78))) := eL88 ▸ jg_ne (by decide) g86 rfl
        have g95 : jGet L88 5 = some (.int (i32 (z87))) := eL88 ▸ jg_eq
        clear eL88
        refine jx_ld (pc_q := 88) (l_q := L88) (st_q := [rv (g)]) rfl (jl_rv g93) ?_
        refine cx_gr (pc_q := 91) (c := 7) (q := 8) (v := F (g) (8 : Int)) rfl rfl (by decide) (by decide) rfl rfl ho8.1 ho8.2 ((show F74 (g) (8 : Int) = F70 (g) (8 : Int) from hM76 _ _ ho8.1 (own_z ho8.1) (by rw [ho8.2]; rfl)).trans ((show F70 (g) (8 : Int) = F65 (g) (8 : Int) from hM72 _ _ ho8.1 (own_z ho8.1) (by rw [ho8.2]; rfl)).trans ((show F65 (g) (8 : Int) = F61 (g) (8 : Int) from hM67 _ _ ho8.1 (own_z ho8.1) (by rw [ho8.2]; rfl)).trans ((show F61 (g) (8 : Int) = F56 (g) (8 : Int) from hM63 _ _ ho8.1 (own_z ho8.1) (by rw [ho8.2]; rfl)).trans ((show F56 (g) (8 : Int) = F10 (g) (8 : Int) from hM58 _ _ ho8.1 (own_z ho8.1) (by rw [ho8.2]; rfl)).trans ((show F10 (g) (8 : Int) = Fx (g) (8 : Int) from hM12 _ _ ho8.1 (own_z ho8.1) (by rw [ho8.2]; rfl)).trans (show Fx (g) (8 : Int) = F (g) (8 : Int) from hMx _ _ ho8.1 (own_z ho8.1) (by rw [ho8.2]; rfl)))))))) ?_
        have y96 : F (g) (8 : Int) = 0 ∨ (own m (F (g) (8 : Int)) ∧ tg (F (g) (8 : Int)) = 8) := by have z := HC_r (c := 7) (q := 8) hC75 ho8.1 ho8.2 (by decide) rfl; rw [show F74 (g) ((8 : Nat) : Int) = F (g) (8 : Int) from ((show F74 (g) (8 : Int) = F70 (g) (8 : Int) from hM76 _ _ ho8.1 (own_z ho8.1) (by rw [ho8.2]; rfl)).trans ((show F70 (g) (8 : Int) = F65 (g) (8 : Int) from hM72 _ _ ho8.1 (own_z ho8.1) (by rw [ho8.2]; rfl)).trans ((show F65 (g) (8 : Int) = F61 (g) (8 : Int) from hM67 _ _ ho8.1 (own_z ho8.1) (by rw [ho8.2]; rfl)).trans ((show F61 (g) (8 : Int) = F56 (g) (8 : Int) from hM63 _ _ ho8.1 (own_z ho8.1) (by rw [ho8.2]; rfl)).trans ((show F56 (g) (8 : Int) = F10 (g) (8 : Int) from hM58 _ _ ho8.1 (own_z ho8.1) (by rw [ho8.2]; rfl)).trans ((show F10 (g) (8 : Int) = Fx (g) (8 : Int) from hM12 _ _ ho8.1 (own_z ho8.1) (by rw [ho8.2]; rfl)).trans (show Fx (g) (8 : Int) = F (g) (8 : Int) from hMx _ _ ho8.1 (own_z ho8.1) (by rw [ho8.2]; rfl))))))))] at z; exact z
        have z97 := mz_n hC c_NT sx_g (own_z ho8.1)
        refine jx_ld (pc_q := 93) (l_q := jSto1 L88 6 (rv (F (g) (8 : Int)))) (st_q := []) rfl (js_rv (by decide)) ?_
        obtain ⟨L98, eL98⟩ : ∃ q : jL, q = jSto1 L88 6 (rv (F (g) (8 : Int))) := ⟨_, rfl⟩
        rw [← eL98]
        have g99 : jGet L98 0 = some (rv (me)) := eL98 ▸ jg_nr (by decide) g89
        have g100 : jGet L98 1 = some (rv (p)) := eL98 ▸ jg_nr (by decide) g90
        have g101 : jGet L98 2 = some (.int (i32 (fs))) := eL98 ▸ jg_ne (by decide) g91 rfl
        have g102 : jGet L98 3 = some (.int (i32 (en))) := eL98 ▸ jg_ne (by decide) g92 rfl
        have g103 : jGet L98 4 = some (.int (i32 (z78))) := eL98 ▸ jg_ne (by decide) g94 rfl
        have g104 : jGet L98 5 = some (.int (i32 (z87))) := eL98 ▸ jg_ne (by decide) g95 rfl
        have g105 : jGet L98 6 = some (rv (F (g) (8 : Int))) := eL98 ▸ jg_eq
        clear eL98
        refine jx_go (tg := 20) rfl rfl ?_
        exact ih _ (by omega) L98 F74 (en) (z78) (z87) (F (g) (8 : Int)) rfl g99 g100 g101 g102 g103 g104 g105 hC75 hM77 (by omega) (by omega) (by omega) y96 (SN_w (SN_n hC c_NT sx_g (own_z ho8.1)) (by omega))
set_option maxRecDepth 20000 in
set_option maxHeartbeats 4000000 in
theorem k_LCoder_answers {X : jX} {kk : Nat} (hE : 1 ≤ kk → CPx X (kk - 1)) {dd : Nat} {R : Nat → jC} {m : Nat} {tg ln : Int → Int} {F : Int → Int → Int} {me p fs : Int} (hd : 3 * kk + 14 ≤ dd) (hC : HC 0 m tg ln F) (o_me : own m me) (t_me : tg me = 2) (o_p : own m p) (t_p : tg p = 8) (h_fs : (-2147483648 : Int) ≤ fs ∧ fs ≤ 2147483647) (c_NT : NT m tg F) (n_p : SN m tg F p (kk)) : wk X dd 79 [rv me, rv p, .int (i32 fs)] (cV R m tg ln F) (fun o V_q => ∃ (F_q : Int → Int → Int), V_q = cV R m tg ln F_q ∧ o = .inl none ∧ HC 0 m tg ln F_q ∧ Fq 0 [(2, 7), (2, 8), (2, 11), (20, -5), (21, -5), (2, 10), (7, 6), (7, 9)] m tg F F_q ∧ True) := by
  obtain ⟨d, rfl⟩ : ∃ d, dd = d + 1 := ⟨dd - 1, by omega⟩
  refine wk_of (e := jm79) rfl (by rw [jS_r, jS_r, jS_i, jS_0]; exact Nat.le_of_ble_eq_true rfl) ?_
  rw [la_r, la_r, la_i, la_0]
  show wj X d jm79 (0, [(0, rv (me)), (1, rv (p)), (2, .int (i32 (fs)))], [], cV R m tg ln F) _
  have hM0 : Fq 0 [(2, 7), (2, 8), (2, 11), (20, -5), (21, -5), (2, 10), (7, 6), (7, 9)] m tg F F := Fq_r
  obtain ⟨L0, eL0⟩ : ∃ q : jL, q = [(0, rv (me)), (1, rv (p)), (2, .int (i32 (fs)))] := ⟨_, rfl⟩
  rw [← eL0]
  have g106 : jGet L0 0 = some (rv (me)) := eL0 ▸ (rfl : jGet [(0, rv (me)), (1, rv (p)), (2, .int (i32 (fs)))] 0 = some (rv (me)))
  have g107 : jGet L0 1 = some (rv (p)) := eL0 ▸ (rfl : jGet [(0, rv (me)), (1, rv (p)), (2, .int (i32 (fs)))] 1 = some (rv (p)))
  have g108 : jGet L0 2 = some (.int (i32 (fs))) := eL0 ▸ (rfl : jGet [(0, rv (me)), (1, rv (p)), (2, .int (i32 (fs)))] 2 = some (.int (i32 (fs))))
  clear eL0
  have k109 := SN_p n_p (own_z o_p)
  have hE110 := hE (by omega)
  refine jx_ld (pc_q := 1) (l_q := L0) (st_q := [rv (me)]) rfl (jl_rvn g106) ?_
  refine cx_vi (c := 1) (a := me) (st := []) (as := []) rfl rfl rfl o_me t_me (by decide) rfl ⟨rfl, rfl, (Nat.le_of_ble_eq_true rfl)⟩ rfl (k_LCoder_newLabel (dd := d) (R := R) (m := m) (tg := tg) (ln := ln) (F := F) (me := me) (hd := by omega) (hC := hC) (o_me := o_me) (t_me := t_me)) (fun o V_q hq => ?_)
  obtain ⟨F111, r112, rfl, rfl, hC113, hM114, b115, -⟩ := hq
  have hM116 : Fq 0 [(2, 7), (2, 8), (2, 11), (20, -5), (21, -5), (2, 10), (7, 6), (7, 9)] m tg F F111 := Fq_t (ln := ln) (ln1 := ln) hM0 Ex_r hM114 (by decide) (Or.inl rfl)
  refine Or.inr (Or.inl ⟨_, rfl, ?_⟩)
  refine jx_ld (pc_q := 5) (l_q := jSto1 L0 3 (.int (i32 (r112)))) (st_q := []) rfl rfl ?_
  obtain ⟨L117, eL117⟩ : ∃ q : jL, q = jSto1 L0 3 (.int (i32 (r112))) := ⟨_, rfl⟩
  rw [← eL117]
  have g118 : jGet L117 0 = some (rv (me)) := eL117 ▸ jg_nr (by decide) g106
  have g119 : jGet L117 1 = some (rv (p)) := eL117 ▸ jg_nr (by decide) g107
  have g120 : jGet L117 2 = some (.int (i32 (fs))) := eL117 ▸ jg_ne (by decide) g108 rfl
  have g121 : jGet L117 3 = some (.int (i32 (r112))) := eL117 ▸ jg_eq
  clear eL117
  refine jx_ld (pc_q := 6) (l_q := L117) (st_q := [.int (i32 (fs))]) rfl (jl_iloadn g120) ?_
  refine jx_ld (pc_q := 8) (l_q := jSto1 L117 4 (.int (i32 (fs)))) (st_q := []) rfl rfl ?_
  obtain ⟨L122, eL122⟩ : ∃ q : jL, q = jSto1 L117 4 (.int (i32 (fs))) := ⟨_, rfl⟩
  rw [← eL122]
  have g123 : jGet L122 0 = some (rv (me)) := eL122 ▸ jg_nr (by decide) g118
  have g124 : jGet L122 1 = some (rv (p)) := eL122 ▸ jg_nr (by decide) g119
  have g125 : jGet L122 2 = some (.int (i32 (fs))) := eL122 ▸ jg_ne (by decide) g120 rfl
  have g126 : jGet L122 3 = some (.int (i32 (r112))) := eL122 ▸ jg_ne (by decide) g121 rfl
  have g127 : jGet L122 4 = some (.int (i32 (fs))) := eL122 ▸ jg_eq
  clear eL122
  refine jx_ld (pc_q := 9) (l_q := L122) (st_q := [rv (p)]) rfl (jl_rvn g124) ?_
  refine cx_gi (pc_q := 12) (c := 7) (q := 10) (v := F (p) (10 : Int)) rfl rfl (by decide) (by decide) (Or.inl rfl) rfl o_p t_p (show F111 (p) (10 : Int) = F (p) (10 : Int) from hM114 _ _ o_p (own_z o_p) (by rw [t_p]; rfl)) ?_
  have b128 : (-2147483648 : Int) ≤ F (p) (10 : Int) ∧ F (p) (10 : Int) ≤ 2147483647 := by have z := HC_i (c := 7) (q := 10) hC113 o_p t_p (by decide) rfl; rw [show F111 (p) ((10 : Nat) : Int) = F (p) (10 : Int) from (show F111 (p) (10 : Int) = F (p) (10 : Int) from hM114 _ _ o_p (own_z o_p) (by rw [t_p]; rfl))] at z; exact z
  refine jx_ld (pc_q := 14) (l_q := jSto1 L122 5 (.int (i32 (F (p) (10 : Int))))) (st_q := []) rfl rfl ?_
  obtain ⟨L129, eL129⟩ : ∃ q : jL, q = jSto1 L122 5 (.int (i32 (F (p) (10 : Int)))) := ⟨_, rfl⟩
  rw [← eL129]
  have g130 : jGet L129 0 = some (rv (me)) := eL129 ▸ jg_nr (by decide) g123
  have g131 : jGet L129 1 = some (rv (p)) := eL129 ▸ jg_nr (by decide) g124
  have g132 : jGet L129 2 = some (.int (i32 (fs))) := eL129 ▸ jg_ne (by decide) g125 rfl
  have g133 : jGet L129 3 = some (.int (i32 (r112))) := eL129 ▸ jg_ne (by decide) g126 rfl
  have g134 : jGet L129 4 = some (.int (i32 (fs))) := eL129 ▸ jg_ne (by decide) g127 rfl
  have g135 : jGet L129 5 = some (.int (i32 (F (p) (10 : Int)))) := eL129 ▸ jg_eq
  clear eL129
  refine jx_ld (pc_q := 15) (l_q := L129) (st_q := [rv (p)]) rfl (jl_rvn g131) ?_
  refine cx_gr (pc_q := 18) (c := 7) (q := 4) (v := F (p) (4 : Int)) rfl rfl (by decide) (by decide) rfl rfl o_p t_p (show F111 (p) (4 : Int) = F (p) (4 : Int) from hM114 _ _ o_p (own_z o_p) (by rw [t_p]; rfl)) ?_
  have y136 : F (p) (4 : Int) = 0 ∨ (own m (F (p) (4 : Int)) ∧ tg (F (p) (4 : Int)) = 8) := by have z := HC_r (c := 7) (q := 4) hC113 o_p t_p (by decide) rfl; rw [show F111 (p) ((4 : Nat) : Int) = F (p) (4 : Int) from (show F111 (p) (4 : Int) = F (p) (4 : Int) from hM114 _ _ o_p (own_z o_p) (by rw [t_p]; rfl))] at z; exact z
  refine jx_ld (pc_q := 20) (l_q := jSto1 L129 6 (rv (F (p) (4 : Int)))) (st_q := []) rfl (js_rv (by decide)) ?_
  obtain ⟨L137, eL137⟩ : ∃ q : jL, q = jSto1 L129 6 (rv (F (p) (4 : Int))) := ⟨_, rfl⟩
  rw [← eL137]
  have g138 : jGet L137 0 = some (rv (me)) := eL137 ▸ jg_nr (by decide) g130
  have g139 : jGet L137 1 = some (rv (p)) := eL137 ▸ jg_nr (by decide) g131
  have g140 : jGet L137 2 = some (.int (i32 (fs))) := eL137 ▸ jg_ne (by decide) g132 rfl
  have g141 : jGet L137 3 = some (.int (i32 (r112))) := eL137 ▸ jg_ne (by decide) g133 rfl
  have g142 : jGet L137 4 = some (.int (i32 (fs))) := eL137 ▸ jg_ne (by decide) g134 rfl
  have g143 : jGet L137 5 = some (.int (i32 (F (p) (10 : Int)))) := eL137 ▸ jg_ne (by decide) g135 rfl
  have g144 : jGet L137 6 = some (rv (F (p) (4 : Int))) := eL137 ▸ jg_eq
  clear eL137
  exact k_LCoder_answers_at_20 (X := X) (kk := kk) (hE := hE) (d := d) (R := R) (m := m) (tg := tg) (ln := ln) (F := F) (me := me) (p := p) (fs := fs) (hd := hd) (hC := hC) (o_me := o_me) (t_me := t_me) (o_p := o_p) (t_p := t_p) (h_fs := h_fs) (c_NT := c_NT) (n_p := n_p) _ L137 F111 (r112) (fs) (F (p) (10 : Int)) (F (p) (4 : Int)) rfl g138 g139 g140 g141 g142 g143 g144 hC113 hM116 (by omega) (by omega) (by omega) y136 (SN_w (SN_c hC c_NT n_p (own_z o_p) (by omega)) (by omega))
set_option maxRecDepth 20000 in
set_option maxHeartbeats 4000000 in
theorem k_LCoder_alternative_at_100 {X : jX} {kk : Nat} (hE : 1 ≤ kk → CPx X (kk - 1)) {d : Nat} {R : Nat → jC} {m : Nat} {tg ln : Int → Int} {F : Int → Int → Int} {me p : Int} (hd : 3 * kk + 15 ≤ d + 1) (hC : HC 0 m tg ln F) (o_me : own m me) (t_me : tg me = 2) (o_p : own m p) (t_p : tg p = 8) (c_NT : NT m tg F) (n_p : SN m tg F p (kk)) : ∀ (mm : Nat) (L : jL) (Fx : Int → Int → Int) (wd cs fs g : Int), (mz m g).toNat = mm → jGet L 0 = some (rv (me)) → jGet L 1 = some (rv (p)) → jGet L 2 = some (.int (i32 wd)) → jGet L 3 = some (.int (i32 cs)) → jGet L 4 = some (.int (i32 fs)) → jGet L 5 = some (rv g) → HC 0 m tg ln Fx → Fq 0 [(2, 7), (2, 8), (2, 11), (20, -5), (21, -5), (2, 10), (7, 6), (7, 9)] m tg F Fx → ((-2147483648 : Int) ≤ wd ∧ wd ≤ 2147483647) → ((-2147483648 : Int) ≤ cs ∧ cs ≤ 2147483647) → ((-2147483648 : Int) ≤ fs ∧ fs ≤ 2147483647) → (g = 0 ∨ (own m g ∧ tg g = 8)) → (SN m tg F g (kk - 1)) → wj X d jm76 (100, L, [], cV R m tg ln Fx) (fun o V_q => ∃ (F_q : Int → Int → Int), V_q = cV R m tg ln F_q ∧ o = .inl none ∧ HC 0 m tg ln F_q ∧ Fq 0 [(2, 7), (2, 8), (2, 11), (20, -5), (21, -5), (2, 10), (7, 6), (7, 9)] m tg F F_q ∧ True) := by
  intro mm
  induction mm using Nat.strongRecOn with
  | ind mm ih =>
    intro L Fx wd cs fs g hmm gL_0 gL_1 gL_2 gL_3 gL_4 gL_5 hCx hMx rx_wd rx_cs rx_fs yx_g sx_g
    have k1 := SN_p n_p (own_z o_p)
    have hE2 := hE (by omega)
    refine jx_ld (pc_q := 102) (l_q := L) (st_q := [rv (g)]) rfl (jl_rv gL_5) ?_
    refine cx_nul (pc_q := 105) (tg_q := 139) rfl rfl rfl (fun h3 => ?_) (fun h3 => ?_)
    · have _q := h3
      refine jx_ld (pc_q := 140) (l_q := L) (st_q := [rv (me)]) rfl (jl_rvn gL_0) ?_
      refine jx_ar (pc_q := 142) (st_q := [.int (i32 (28)), rv (me)]) rfl rfl rfl rfl ?_
      refine cx_vi (c := 1) (a := me) (st := []) (as := [.int (i32 (28))]) rfl rfl rfl o_me t_me (by decide) rfl ⟨rfl, rfl, (Nat.le_of_ble_eq_true rfl)⟩ rfl (k_LCoder_operation (dd := d) (R := R) (m := m) (tg := tg) (ln := ln) (F := Fx) (me := me) (op := 28) (hd := by omega) (hC := hCx) (o_me := o_me) (t_me := t_me) (h_op := by omega)) (fun o V_q hq => ?_)
      obtain ⟨F4, rfl, rfl, hC5, hM6, -⟩ := hq
      have hM7 : Fq 0 [(2, 7), (2, 8), (2, 11), (20, -5), (21, -5), (2, 10), (7, 6), (7, 9)] m tg F F4 := Fq_t (ln := ln) (ln1 := ln) hMx Ex_r hM6 (by decide) (Or.inl rfl)
      refine Or.inl ⟨rfl, ?_⟩
      refine jx_ld (pc_q := 146) (l_q := L) (st_q := [rv (me)]) rfl (jl_rvn gL_0) ?_
      refine jx_ld (pc_q := 147) (l_q := L) (st_q := [.int (i32 (cs)), rv (me)]) rfl (jl_iloadn gL_3) ?_
      refine cx_vi (c := 1) (a := me) (st := []) (as := [.int (i32 (cs))]) rfl rfl rfl o_me t_me (by decide) rfl ⟨rfl, rfl, (Nat.le_of_ble_eq_true rfl)⟩ rfl (k_LCoder_here (dd := d) (R := R) (m := m) (tg := tg) (ln := ln) (F := F4) (me := me) (lb := cs) (hd := by omega) (hC := hC5) (o_me := o_me) (t_me := t_me) (h_lb := by omega)) (fun o V_q hq => ?_)
      obtain ⟨F8, rfl, rfl, hC9, hM10, -⟩ := hq
      have hM11 : Fq 0 [(2, 7), (2, 8), (2, 11), (20, -5), (21, -5), (2, 10), (7, 6), (7, 9)] m tg F F8 := Fq_t (ln := ln) (ln1 := ln) hM7 Ex_r hM10 (by decide) (Or.inl rfl)
      refine Or.inl ⟨rfl, ?_⟩
      refine jx_ld (pc_q := 151) (l_q := L) (st_q := [rv (me)]) rfl (jl_rvn gL_0) ?_
      refine jx_ld (pc_q := 152) (l_q := L) (st_q := [rv (p), rv (me)]) rfl (jl_rvn gL_1) ?_
      refine jx_ld (pc_q := 154) (l_q := L) (st_q := [.int (i32 (fs)), rv (p), rv (me)]) rfl (jl_iload gL_4) ?_
      refine cx_vi (c := 1) (a := me) (st := []) (as := [rv (p), .int (i32 (fs))]) rfl rfl rfl o_me t_me (by decide) rfl ⟨rfl, rfl, (Nat.le_of_ble_eq_true rfl)⟩ rfl (k_LCoder_answers (dd := d) (R := R) (m := m) (tg := tg) (ln := ln) (F := F8) (kk := kk) (hE := hE) (me := me) (p := p) (fs := fs) (hd := by omega) (hC := hC9) (o_me := o_me) (t_me := t_me) (o_p := o_p) (t_p := t_p) (h_fs := by omega) (c_NT := NT_q hC c_NT hM11 rfl) (n_p := (SN_q (SN_w n_p (by omega)) hM11 rfl rfl))) (fun o V_q hq => ?_)
      obtain ⟨F12, rfl, rfl, hC13, hM14, -⟩ := hq
      have hM15 : Fq 0 [(2, 7), (2, 8), (2, 11), (20, -5), (21, -5), (2, 10), (7, 6), (7, 9)] m tg F F12 := Fq_t (ln := ln) (ln1 := ln) hM11 Ex_r hM14 (by decide) (Or.inl rfl)
      refine Or.inl ⟨rfl, ?_⟩
      refine jx_rt (v := none) rfl rfl rfl rfl rfl rfl ?_
      exact ⟨F12, rfl, rfl, hC13, hM15, trivial⟩
    · have _q := h3
      have ho16 : own m (g) ∧ tg (g) = 8 := yx_g.resolve_left h3
      have k17 := SN_p sx_g h3
      refine jx_ld (pc_q := 106) (l_q := L) (st_q := [rv (me)]) rfl (jl_rvn gL_0) ?_
      refine jx_ar (pc_q := 107) (st_q := [.int (i32 (4)), rv (me)]) rfl rfl rfl rfl ?_
      refine jx_ld (pc_q := 108) (l_q := L) (st_q := [rv (me), .int (i32 (4)), rv (me)]) rfl (jl_rvn gL_0) ?_
      refine cx_vi (c := 1) (a := me) (st := [.int (i32 (4)), rv (me)]) (as := []) rfl rfl rfl o_me t_me (by decide) rfl ⟨rfl, rfl, (by rw [jS_i, jS_r, jS_0]; exact Nat.le_of_ble_eq_true rfl)⟩ rfl (k_LCoder_newLabel (dd := d) (R := R) (m := m) (tg := tg) (ln := ln) (F := Fx) (me := me) (hd := by omega) (hC := hCx) (o_me := o_me) (t_me := t_me)) (fun o V_q hq => ?_)
      obtain ⟨F18, r19, rfl, rfl, hC20, hM21, b22, -⟩ := hq
      have hM23 : Fq 0 [(2, 7), (2, 8), (2, 11), (20, -5), (21, -5), (2, 10), (7, 6), (7, 9)] m tg F F18 := Fq_t (ln := ln) (ln1 := ln) hMx Ex_r hM21 (by decide) (Or.inl rfl)
      refine Or.inr (Or.inl ⟨_, rfl, ?_⟩)
      refine jx_ld (pc_q := 112) (l_q := L) (st_q := [.int (i32 (cs)), .int (i32 (r19)), .int (i32 (4)), rv (me)]) rfl (jl_iloadn gL_3) ?_
      refine cx_vi (c := 1) (a := me) (st := []) (as := [.int (i32 (4)), .int (i32 (r19)), .int (i32 (cs))]) rfl rfl rfl o_me t_me (by decide) rfl ⟨rfl, rfl, (Nat.le_of_ble_eq_true rfl)⟩ rfl (k_LCoder_way (dd := d) (R := R) (m := m) (tg := tg) (ln := ln) (F := F18) (me := me) (fu := 4) (lb := r19) (og := cs) (hd := by omega) (hC := hC20) (o_me := o_me) (t_me := t_me) (h_fu := by omega) (h_lb := by omega) (h_og := by omega)) (fun o V_q hq => ?_)
      obtain ⟨F24, rfl, rfl, hC25, hM26, -⟩ := hq
      have hM27 : Fq 0 [(2, 7), (2, 8), (2, 11), (20, -5), (21, -5), (2, 10), (7, 6), (7, 9)] m tg F F24 := Fq_t (ln := ln) (ln1 := ln) hM23 Ex_r hM26 (by decide) (Or.inl rfl)
      refine Or.inl ⟨rfl, ?_⟩
      refine jx_ld (pc_q := 116) (l_q := L) (st_q := [rv (me)]) rfl (jl_rvn gL_0) ?_
      refine jx_ld (pc_q := 118) (l_q := L) (st_q := [rv (g), rv (me)]) rfl (jl_rv gL_5) ?_
      refine jx_ld (pc_q := 119) (l_q := L) (st_q := [.int (i32 (wd)), rv (g), rv (me)]) rfl (jl_iloadn gL_2) ?_
      refine jx_ar (pc_q := 121) (st_q := [.int (i32 (26)), .int (i32 (wd)), rv (g), rv (me)]) rfl rfl rfl rfl ?_
      refine jx_ar (pc_q := 123) (st_q := [.int (i32 (27)), .int (i32 (26)), .int (i32 (wd)), rv (g), rv (me)]) rfl rfl rfl rfl ?_
      refine cx_vi (c := 1) (a := me) (st := []) (as := [rv (g), .int (i32 (wd)), .int (i32 (26)), .int (i32 (27))]) rfl rfl rfl o_me t_me (by decide) rfl ⟨rfl, rfl, (Nat.le_of_ble_eq_true rfl)⟩ rfl (k_LCoder_loadGuard (dd := d) (R := R) (m := m) (tg := tg) (ln := ln) (F := F24) (me := me) (g := g) (wd := wd) (oc := 26) (os := 27) (hd := by omega) (hC := hC25) (o_me := o_me) (t_me := t_me) (o_g := ho16.1) (t_g := ho16.2) (h_wd := by omega) (h_oc := by omega) (h_os := by omega)) (fun o V_q hq => ?_)
      obtain ⟨F28, rfl, rfl, hC29, hM30, -⟩ := hq
      have hM31 : Fq 0 [(2, 7), (2, 8), (2, 11), (20, -5), (21, -5), (2, 10), (7, 6), (7, 9)] m tg F F28 := Fq_t (ln := ln) (ln1 := ln) hM27 Ex_r hM30 (by decide) (Or.inl rfl)
      refine Or.inl ⟨rfl, ?_⟩
      refine jx_inc (pc_q := 129) (l_q := jSto1 L 2 (.int (i32 (wd + (2))))) (x := wd) rfl gL_2 (by decide) rfl rfl ?_
      obtain ⟨z32, ez32⟩ : ∃ q, q = (i32 ((wd + (2)))).toInt := ⟨_, rfl⟩
      have bz32 : (-2147483648 : Int) ≤ z32 ∧ z32 ≤ 2147483647 := ez32 ▸ i32_rg _
      rw [show i32 ((wd + (2))) = i32 z32 by rw [ez32, i32_of]]
      clear ez32
      obtain ⟨L33, eL33⟩ : ∃ q : jL, q = jSto1 L 2 (.int (i32 (z32))) := ⟨_, rfl⟩
      rw [← eL33]
      have g34 : jGet L33 0 = some (rv (me)) := eL33 ▸ jg_nr (by decide) gL_0
      have g35 : jGet L33 1 = some (rv (p)) := eL33 ▸ jg_nr (by decide) gL_1
      have g36 : jGet L33 3 = some (.int (i32 (cs))) := eL33 ▸ jg_ne (by decide) gL_3 rfl
      have g37 : jGet L33 4 = some (.int (i32 (fs))) := eL33 ▸ jg_ne (by decide) gL_4 rfl
      have g38 : jGet L33 5 = some (rv (g)) := eL33 ▸ jg_nr (by decide) gL_5
      have g39 : jGet L33 2 = some (.int (i32 (z32))) := eL33 ▸ jg_eq
      clear eL33
      refine jx_ld (pc_q := 131) (l_q := L33) (st_q := [rv (g)]) rfl (jl_rv g38) ?_
      refine cx_gr (pc_q := 134) (c := 7) (q := 8) (v := F (g) (8 : Int)) rfl rfl (by decide) (by decide) rfl rfl ho16.1 ho16.2 ((show F28 (g) (8 : Int) = F24 (g) (8 : Int) from hM30 _ _ ho16.1 (own_z ho16.1) (by rw [ho16.2]; rfl)).trans ((show F24 (g) (8 : Int) = F18 (g) (8 : Int) from hM26 _ _ ho16.1 (own_z ho16.1) (by rw [ho16.2]; rfl)).trans ((show F18 (g) (8 : Int) = Fx (g) (8 : Int) from hM21 _ _ ho16.1 (own_z ho16.1) (by rw [ho16.2]; rfl)).trans (show Fx (g) (8 : Int) = F (g) (8 : Int) from hMx _ _ ho16.1 (own_z ho16.1) (by rw [ho16.2]; rfl))))) ?_
      have y40 : F (g) (8 : Int) = 0 ∨ (own m (F (g) (8 : Int)) ∧ tg (F (g) (8 : Int)) = 8) := by have z := HC_r (c := 7) (q := 8) hC29 ho16.1 ho16.2 (by decide) rfl; rw [show F28 (g) ((8 : Nat) : Int) = F (g) (8 : Int) from ((show F28 (g) (8 : Int) = F24 (g) (8 : Int) from hM30 _ _ ho16.1 (own_z ho16.1) (by rw [ho16.2]; rfl)).trans ((show F24 (g) (8 : Int) = F18 (g) (8 : Int) from hM26 _ _ ho16.1 (own_z ho16.1) (by rw [ho16.2]; rfl)).trans ((show F18 (g) (8 : Int) = Fx (g) (8 : Int) from hM21 _ _ ho16.1 (own_z ho16.1) (by rw [ho16.2]; rfl)).trans (show Fx (g) (8 : Int) = F (g) (8 : Int) from hMx _ _ ho16.1 (own_z ho16.1) (by rw [ho16.2]; rfl)))))] at z; exact z
      have z41 := mz_n hC c_NT sx_g (own_z ho16.1)
      refine jx_ld (pc_q := 136) (l_q := jSto1 L33 5 (rv (F (g) (8 : Int)))) (st_q := []) rfl (js_rv (by decide)) ?_
      obtain ⟨L42, eL42⟩ : ∃ q : jL, q = jSto1 L33 5 (rv (F (g) (8 : Int))) := ⟨_, rfl⟩
      rw [← eL42]
      have g43 : jGet L42 0 = some (rv (me)) := eL42 ▸ jg_nr (by decide) g34
      have g44 : jGet L42 1 = some (rv (p)) := eL42 ▸ jg_nr (by decide) g35
      have g45 : jGet L42 3 = some (.int (i32 (cs))) := eL42 ▸ jg_ne (by decide) g36 rfl
      have g46 : jGet L42 4 = some (.int (i32 (fs))) := eL42 ▸ jg_ne (by decide) g37 rfl
      have g47 : jGet L42 2 = some (.int (i32 (z32))) := eL42 ▸ jg_ne (by decide) g39 rfl
      have g48 : jGet L42 5 = some (rv (F (g) (8 : Int))) := eL42 ▸ jg_eq
      clear eL42
      refine jx_go (tg := 100) rfl rfl ?_
      exact ih _ (by omega) L42 F28 (z32) (cs) (fs) (F (g) (8 : Int)) rfl g43 g44 g47 g45 g46 g48 hC29 hM31 (by omega) (by omega) (by omega) y40 (SN_w (SN_n hC c_NT sx_g (own_z ho16.1)) (by omega))
set_option maxRecDepth 20000 in
set_option maxHeartbeats 4000000 in
theorem k_LCoder_alternative_at_47 {X : jX} {kk : Nat} (hE : 1 ≤ kk → CPx X (kk - 1)) {d : Nat} {R : Nat → jC} {m : Nat} {tg ln : Int → Int} {F : Int → Int → Int} {me p : Int} (hd : 3 * kk + 15 ≤ d + 1) (hC : HC 0 m tg ln F) (o_me : own m me) (t_me : tg me = 2) (o_p : own m p) (t_p : tg p = 8) (c_NT : NT m tg F) (n_p : SN m tg F p (kk)) : ∀ (mm : Nat) (L : jL) (Fx : Int → Int → Int) (wd g : Int), (mz m g).toNat = mm → jGet L 0 = some (rv (me)) → jGet L 1 = some (rv (p)) → jGet L 2 = some (.int (i32 wd)) → jGet L 3 = some (rv g) → HC 0 m tg ln Fx → Fq 0 [(2, 7), (2, 8), (2, 11), (20, -5), (21, -5), (2, 10), (7, 6), (7, 9)] m tg F Fx → ((-2147483648 : Int) ≤ wd ∧ wd ≤ 2147483647) → (g = 0 ∨ (own m g ∧ tg g = 8)) → (SN m tg F g (kk - 1)) → wj X d jm76 (47, L, [], cV R m tg ln Fx) (fun o V_q => ∃ (F_q : Int → Int → Int), V_q = cV R m tg ln F_q ∧ o = .inl none ∧ HC 0 m tg ln F_q ∧ Fq 0 [(2, 7), (2, 8), (2, 11), (20, -5), (21, -5), (2, 10), (7, 6), (7, 9)] m tg F F_q ∧ True) := by
  intro mm
  induction mm using Nat.strongRecOn with
  | ind mm ih =>
    intro L Fx wd g hmm gL_0 gL_1 gL_2 gL_3 hCx hMx rx_wd yx_g sx_g
    have k49 := SN_p n_p (own_z o_p)
    have hE50 := hE (by omega)
    refine jx_ld (pc_q := 48) (l_q := L) (st_q := [rv (g)]) rfl (jl_rvn gL_3) ?_
    refine cx_nul (pc_q := 51) (tg_q := 72) rfl rfl rfl (fun h51 => ?_) (fun h51 => ?_)
    · have _q := h51
      refine jx_ld (pc_q := 73) (l_q := L) (st_q := [rv (me)]) rfl (jl_rvn gL_0) ?_
      refine jx_ar (pc_q := 75) (st_q := [.int (i32 (25)), rv (me)]) rfl rfl rfl rfl ?_
      refine cx_vi (c := 1) (a := me) (st := []) (as := [.int (i32 (25))]) rfl rfl rfl o_me t_me (by decide) rfl ⟨rfl, rfl, (Nat.le_of_ble_eq_true rfl)⟩ rfl (k_LCoder_operation (dd := d) (R := R) (m := m) (tg := tg) (ln := ln) (F := Fx) (me := me) (op := 25) (hd := by omega) (hC := hCx) (o_me := o_me) (t_me := t_me) (h_op := by omega)) (fun o V_q hq => ?_)
      obtain ⟨F52, rfl, rfl, hC53, hM54, -⟩ := hq
      have hM55 : Fq 0 [(2, 7), (2, 8), (2, 11), (20, -5), (21, -5), (2, 10), (7, 6), (7, 9)] m tg F F52 := Fq_t (ln := ln) (ln1 := ln) hMx Ex_r hM54 (by decide) (Or.inl rfl)
      refine Or.inl ⟨rfl, ?_⟩
      refine jx_ld (pc_q := 79) (l_q := L) (st_q := [rv (me)]) rfl (jl_rvn gL_0) ?_
      refine cx_vi (c := 1) (a := me) (st := []) (as := []) rfl rfl rfl o_me t_me (by decide) rfl ⟨rfl, rfl, (Nat.le_of_ble_eq_true rfl)⟩ rfl (k_LCoder_newLabel (dd := d) (R := R) (m := m) (tg := tg) (ln := ln) (F := F52) (me := me) (hd := by omega) (hC := hC53) (o_me := o_me) (t_me := t_me)) (fun o V_q hq => ?_)
      obtain ⟨F56, r57, rfl, rfl, hC58, hM59, b60, -⟩ := hq
      have hM61 : Fq 0 [(2, 7), (2, 8), (2, 11), (20, -5), (21, -5), (2, 10), (7, 6), (7, 9)] m tg F F56 := Fq_t (ln := ln) (ln1 := ln) hM55 Ex_r hM59 (by decide) (Or.inl rfl)
      refine Or.inr (Or.inl ⟨_, rfl, ?_⟩)
      refine jx_ld (pc_q := 83) (l_q := jSto1 L 3 (.int (i32 (r57)))) (st_q := []) rfl rfl ?_
      obtain ⟨L62, eL62⟩ : ∃ q : jL, q = jSto1 L 3 (.int (i32 (r57))) := ⟨_, rfl⟩
      rw [← eL62]
      have g63 : jGet L62 0 = some (rv (me)) := eL62 ▸ jg_nr (by decide) gL_0
      have g64 : jGet L62 1 = some (rv (p)) := eL62 ▸ jg_nr (by decide) gL_1
      have g65 : jGet L62 2 = some (.int (i32 (wd))) := eL62 ▸ jg_ne (by decide) gL_2 rfl
      have g66 : jGet L62 3 = some (.int (i32 (r57))) := eL62 ▸ jg_eq
      clear eL62
      refine jx_ld (pc_q := 84) (l_q := L62) (st_q := [rv (me)]) rfl (jl_rvn g63) ?_
      refine cx_gi (pc_q := 87) (c := 1) (q := 8) (v := F56 (me) (8 : Int)) rfl rfl (by decide) (by decide) (Or.inl rfl) rfl o_me t_me rfl ?_
      have b67 : (0 : Int) ≤ F56 (me) (8 : Int) ∧ F56 (me) (8 : Int) ≤ 6000 := by have z := HC_i (c := 1) (q := 8) hC58 o_me t_me (by decide) rfl; rw [show F56 (me) ((8 : Nat) : Int) = F56 (me) (8 : Int) from rfl] at z; exact z
      refine jx_ld (pc_q := 89) (l_q := jSto1 L62 4 (.int (i32 (F56 (me) (8 : Int))))) (st_q := []) rfl rfl ?_
      obtain ⟨L68, eL68⟩ : ∃ q : jL, q = jSto1 L62 4 (.int (i32 (F56 (me) (8 : Int)))) := ⟨_, rfl⟩
      rw [← eL68]
      have g69 : jGet L68 0 = some (rv (me)) := eL68 ▸ jg_nr (by decide) g63
      have g70 : jGet L68 1 = some (rv (p)) := eL68 ▸ jg_nr (by decide) g64
      have g71 : jGet L68 2 = some (.int (i32 (wd))) := eL68 ▸ jg_ne (by decide) g65 rfl
      have g72 : jGet L68 3 = some (.int (i32 (r57))) := eL68 ▸ jg_ne (by decide) g66 rfl
      have g73 : jGet L68 4 = some (.int (i32 (F56 (me) (8 : Int)))) := eL68 ▸ jg_eq
      clear eL68
      refine jx_ld (pc_q := 90) (l_q := L68) (st_q := [rv (p)]) rfl (jl_rvn g70) ?_
      refine cx_gi (pc_q := 93) (c := 7) (q := 10) (v := F (p) (10 : Int)) rfl rfl (by decide) (by decide) (Or.inl rfl) rfl o_p t_p ((show F56 (p) (10 : Int) = F52 (p) (10 : Int) from hM59 _ _ o_p (own_z o_p) (by rw [t_p]; rfl)).trans ((show F52 (p) (10 : Int) = Fx (p) (10 : Int) from hM54 _ _ o_p (own_z o_p) (by rw [t_p]; rfl)).trans (show Fx (p) (10 : Int) = F (p) (10 : Int) from hMx _ _ o_p (own_z o_p) (by rw [t_p]; rfl)))) ?_
      have b74 : (-2147483648 : Int) ≤ F (p) (10 : Int) ∧ F (p) (10 : Int) ≤ 2147483647 := by have z := HC_i (c := 7) (q := 10) hC58 o_p t_p (by decide) rfl; rw [show F56 (p) ((10 : Nat) : Int) = F (p) (10 : Int) from ((show F56 (p) (10 : Int) = F52 (p) (10 : Int) from hM59 _ _ o_p (own_z o_p) (by rw [t_p]; rfl)).trans ((show F52 (p) (10 : Int) = Fx (p) (10 : Int) from hM54 _ _ o_p (own_z o_p) (by rw [t_p]; rfl)).trans (show Fx (p) (10 : Int) = F (p) (10 : Int) from hMx _ _ o_p (own_z o_p) (by rw [t_p]; rfl))))] at z; exact z
      refine jx_ld (pc_q := 94) (l_q := jSto1 L68 2 (.int (i32 (F (p) (10 : Int))))) (st_q := []) rfl rfl ?_
      obtain ⟨L75, eL75⟩ : ∃ q : jL, q = jSto1 L68 2 (.int (i32 (F (p) (10 : Int)))) := ⟨_, rfl⟩
      rw [← eL75]
      have g76 : jGet L75 0 = some (rv (me)) := eL75 ▸ jg_nr (by decide) g69
      have g77 : jGet L75 1 = some (rv (p)) := eL75 ▸ jg_nr (by decide) g70
      have g78 : jGet L75 3 = some (.int (i32 (r57))) := eL75 ▸ jg_ne (by decide) g72 rfl
      have g79 : jGet L75 4 = some (.int (i32 (F56 (me) (8 : Int)))) := eL75 ▸ jg_ne (by decide) g73 rfl
      have g80 : jGet L75 2 = some (.int (i32 (F (p) (10 : Int)))) := eL75 ▸ jg_eq
      clear eL75
      refine jx_ld (pc_q := 95) (l_q := L75) (st_q := [rv (p)]) rfl (jl_rvn g77) ?_
      refine cx_gr (pc_q := 98) (c := 7) (q := 4) (v := F (p) (4 : Int)) rfl rfl (by decide) (by decide) rfl rfl o_p t_p ((show F56 (p) (4 : Int) = F52 (p) (4 : Int) from hM59 _ _ o_p (own_z o_p) (by rw [t_p]; rfl)).trans ((show F52 (p) (4 : Int) = Fx (p) (4 : Int) from hM54 _ _ o_p (own_z o_p) (by rw [t_p]; rfl)).trans (show Fx (p) (4 : Int) = F (p) (4 : Int) from hMx _ _ o_p (own_z o_p) (by rw [t_p]; rfl)))) ?_
      have y81 : F (p) (4 : Int) = 0 ∨ (own m (F (p) (4 : Int)) ∧ tg (F (p) (4 : Int)) = 8) := by have z := HC_r (c := 7) (q := 4) hC58 o_p t_p (by decide) rfl; rw [show F56 (p) ((4 : Nat) : Int) = F (p) (4 : Int) from ((show F56 (p) (4 : Int) = F52 (p) (4 : Int) from hM59 _ _ o_p (own_z o_p) (by rw [t_p]; rfl)).trans ((show F52 (p) (4 : Int) = Fx (p) (4 : Int) from hM54 _ _ o_p (own_z o_p) (by rw [t_p]; rfl)).trans (show Fx (p) (4 : Int) = F (p) (4 : Int) from hMx _ _ o_p (own_z o_p) (by rw [t_p]; rfl))))] at z; exact z
      refine jx_ld (pc_q := 100) (l_q := jSto1 L75 5 (rv (F (p) (4 : Int)))) (st_q := []) rfl (js_rv (by decide)) ?_
      obtain ⟨L82, eL82⟩ : ∃ q : jL, q = jSto1 L75 5 (rv (F (p) (4 : Int))) := ⟨_, rfl⟩
      rw [← eL82]
      have g83 : jGet L82 0 = some (rv (me)) := eL82 ▸ jg_nr (by decide) g76
      have g84 : jGet L82 1 = some (rv (p)) := eL82 ▸ jg_nr (by decide) g77
      have g85 : jGet L82 3 = some (.int (i32 (r57))) := eL82 ▸ jg_ne (by decide) g78 rfl
      have g86 : jGet L82 4 = some (.int (i32 (F56 (me) (8 : Int)))) := eL82 ▸ jg_ne (by decide) g79 rfl
      have g87 : jGet L82 2 = some (.int (i32 (F (p) (10 : Int)))) := eL82 ▸ jg_ne (by decide) g80 rfl
      have g88 : jGet L82 5 = some (rv (F (p) (4 : Int))) := eL82 ▸ jg_eq
      clear eL82
      exact k_LCoder_alternative_at_100 (X := X) (kk := kk) (hE := hE) (d := d) (R := R) (m := m) (tg := tg) (ln := ln) (F := F) (me := me) (p := p) (hd := hd) (hC := hC) (o_me := o_me) (t_me := t_me) (o_p := o_p) (t_p := t_p) (c_NT := c_NT) (n_p := n_p) _ L82 F56 (F (p) (10 : Int)) (r57) (F56 (me) (8 : Int)) (F (p) (4 : Int)) rfl g83 g84 g87 g85 g86 g88 hC58 hM61 (by omega) (by omega) (by omega) y81 (SN_w (SN_c hC c_NT n_p (own_z o_p) (by omega)) (by omega))
    · have _q := h51
      have ho89 : own m (g) ∧ tg (g) = 8 := yx_g.resolve_left h51
      have k90 := SN_p sx_g h51
      refine jx_ld (pc_q := 52) (l_q := L) (st_q := [rv (me)]) rfl (jl_rvn gL_0) ?_
      refine jx_ld (pc_q := 53) (l_q := L) (st_q := [rv (g), rv (me)]) rfl (jl_rvn gL_3) ?_
      refine jx_ld (pc_q := 54) (l_q := L) (st_q := [.int (i32 (wd)), rv (g), rv (me)]) rfl (jl_iloadn gL_2) ?_
      refine jx_ar (pc_q := 56) (st_q := [.int (i32 (23)), .int (i32 (wd)), rv (g), rv (me)]) rfl rfl rfl rfl ?_
      refine jx_ar (pc_q := 58) (st_q := [.int (i32 (24)), .int (i32 (23)), .int (i32 (wd)), rv (g), rv (me)]) rfl rfl rfl rfl ?_
      refine cx_vi (c := 1) (a := me) (st := []) (as := [rv (g), .int (i32 (wd)), .int (i32 (23)), .int (i32 (24))]) rfl rfl rfl o_me t_me (by decide) rfl ⟨rfl, rfl, (Nat.le_of_ble_eq_true rfl)⟩ rfl (k_LCoder_loadGuard (dd := d) (R := R) (m := m) (tg := tg) (ln := ln) (F := Fx) (me := me) (g := g) (wd := wd) (oc := 23) (os := 24) (hd := by omega) (hC := hCx) (o_me := o_me) (t_me := t_me) (o_g := ho89.1) (t_g := ho89.2) (h_wd := by omega) (h_oc := by omega) (h_os := by omega)) (fun o V_q hq => ?_)
      obtain ⟨F91, rfl, rfl, hC92, hM93, -⟩ := hq
      have hM94 : Fq 0 [(2, 7), (2, 8), (2, 11), (20, -5), (21, -5), (2, 10), (7, 6), (7, 9)] m tg F F91 := Fq_t (ln := ln) (ln1 := ln) hMx Ex_r hM93 (by decide) (Or.inl rfl)
      refine Or.inl ⟨rfl, ?_⟩
      refine jx_inc (pc_q := 64) (l_q := jSto1 L 2 (.int (i32 (wd + (2))))) (x := wd) rfl gL_2 (by decide) rfl rfl ?_
      obtain ⟨z95, ez95⟩ : ∃ q, q = (i32 ((wd + (2)))).toInt := ⟨_, rfl⟩
      have bz95 : (-2147483648 : Int) ≤ z95 ∧ z95 ≤ 2147483647 := ez95 ▸ i32_rg _
      rw [show i32 ((wd + (2))) = i32 z95 by rw [ez95, i32_of]]
      clear ez95
      obtain ⟨L96, eL96⟩ : ∃ q : jL, q = jSto1 L 2 (.int (i32 (z95))) := ⟨_, rfl⟩
      rw [← eL96]
      have g97 : jGet L96 0 = some (rv (me)) := eL96 ▸ jg_nr (by decide) gL_0
      have g98 : jGet L96 1 = some (rv (p)) := eL96 ▸ jg_nr (by decide) gL_1
      have g99 : jGet L96 3 = some (rv (g)) := eL96 ▸ jg_nr (by decide) gL_3
      have g100 : jGet L96 2 = some (.int (i32 (z95))) := eL96 ▸ jg_eq
      clear eL96
      refine jx_ld (pc_q := 65) (l_q := L96) (st_q := [rv (g)]) rfl (jl_rvn g99) ?_
      refine cx_gr (pc_q := 68) (c := 7) (q := 8) (v := F (g) (8 : Int)) rfl rfl (by decide) (by decide) rfl rfl ho89.1 ho89.2 ((show F91 (g) (8 : Int) = Fx (g) (8 : Int) from hM93 _ _ ho89.1 (own_z ho89.1) (by rw [ho89.2]; rfl)).trans (show Fx (g) (8 : Int) = F (g) (8 : Int) from hMx _ _ ho89.1 (own_z ho89.1) (by rw [ho89.2]; rfl))) ?_
      have y101 : F (g) (8 : Int) = 0 ∨ (own m (F (g) (8 : Int)) ∧ tg (F (g) (8 : Int)) = 8) := by have z := HC_r (c := 7) (q := 8) hC92 ho89.1 ho89.2 (by decide) rfl; rw [show F91 (g) ((8 : Nat) : Int) = F (g) (8 : Int) from ((show F91 (g) (8 : Int) = Fx (g) (8 : Int) from hM93 _ _ ho89.1 (own_z ho89.1) (by rw [ho89.2]; rfl)).trans (show Fx (g) (8 : Int) = F (g) (8 : Int) from hMx _ _ ho89.1 (own_z ho89.1) (by rw [ho89.2]; rfl)))] at z; exact z
      have z102 := mz_n hC c_NT sx_g (own_z ho89.1)
      refine jx_ld (pc_q := 69) (l_q := jSto1 L96 3 (rv (F (g) (8 : Int)))) (st_q := []) rfl (js_rvn (by decide)) ?_
      obtain ⟨L103, eL103⟩ : ∃ q : jL, q = jSto1 L96 3 (rv (F (g) (8 : Int))) := ⟨_, rfl⟩
      rw [← eL103]
      have g104 : jGet L103 0 = some (rv (me)) := eL103 ▸ jg_nr (by decide) g97
      have g105 : jGet L103 1 = some (rv (p)) := eL103 ▸ jg_nr (by decide) g98
      have g106 : jGet L103 2 = some (.int (i32 (z95))) := eL103 ▸ jg_ne (by decide) g100 rfl
      have g107 : jGet L103 3 = some (rv (F (g) (8 : Int))) := eL103 ▸ jg_eq
      clear eL103
      refine jx_go (tg := 47) rfl rfl ?_
      exact ih _ (by omega) L103 F91 (z95) (F (g) (8 : Int)) rfl g104 g105 g106 g107 hC92 hM94 (by omega) y101 (SN_w (SN_n hC c_NT sx_g (own_z ho89.1)) (by omega))
set_option maxRecDepth 20000 in
set_option maxHeartbeats 4000000 in
theorem k_LCoder_alternative_at_10 {X : jX} {kk : Nat} (hE : 1 ≤ kk → CPx X (kk - 1)) {d : Nat} {R : Nat → jC} {m : Nat} {tg ln : Int → Int} {F : Int → Int → Int} {me p : Int} (hd : 3 * kk + 15 ≤ d + 1) (hC : HC 0 m tg ln F) (o_me : own m me) (t_me : tg me = 2) (o_p : own m p) (t_p : tg p = 8) (c_NT : NT m tg F) (n_p : SN m tg F p (kk)) : ∀ (mm : Nat) (L : jL) (Fx : Int → Int → Int) (wd g : Int), (mz m g).toNat = mm → jGet L 0 = some (rv (me)) → jGet L 1 = some (rv (p)) → jGet L 2 = some (.int (i32 wd)) → jGet L 3 = some (rv g) → HC 0 m tg ln Fx → Fq 0 [(2, 7), (2, 8), (2, 11), (20, -5), (21, -5), (2, 10), (7, 6), (7, 9)] m tg F Fx → ((-2147483648 : Int) ≤ wd ∧ wd ≤ 2147483647) → (g = 0 ∨ (own m g ∧ tg g = 8)) → (SN m tg F g (kk - 1)) → wj X d jm76 (10, L, [], cV R m tg ln Fx) (fun o V_q => ∃ (F_q : Int → Int → Int), V_q = cV R m tg ln F_q ∧ o = .inl none ∧ HC 0 m tg ln F_q ∧ Fq 0 [(2, 7), (2, 8), (2, 11), (20, -5), (21, -5), (2, 10), (7, 6), (7, 9)] m tg F F_q ∧ True) := by
  intro mm
  induction mm using Nat.strongRecOn with
  | ind mm ih =>
    intro L Fx wd g hmm gL_0 gL_1 gL_2 gL_3 hCx hMx rx_wd yx_g sx_g
    have k108 := SN_p n_p (own_z o_p)
    have hE109 := hE (by omega)
    refine jx_ld (pc_q := 11) (l_q := L) (st_q := [rv (g)]) rfl (jl_rvn gL_3) ?_
    refine cx_nul (pc_q := 14) (tg_q := 31) rfl rfl rfl (fun h110 => ?_) (fun h110 => ?_)
    · have _q := h110
      refine jx_ld (pc_q := 32) (l_q := L) (st_q := [rv (me)]) rfl (jl_rvn gL_0) ?_
      refine jx_ar (pc_q := 34) (st_q := [.int (i32 (22)), rv (me)]) rfl rfl rfl rfl ?_
      refine cx_vi (c := 1) (a := me) (st := []) (as := [.int (i32 (22))]) rfl rfl rfl o_me t_me (by decide) rfl ⟨rfl, rfl, (Nat.le_of_ble_eq_true rfl)⟩ rfl (k_LCoder_operation (dd := d) (R := R) (m := m) (tg := tg) (ln := ln) (F := Fx) (me := me) (op := 22) (hd := by omega) (hC := hCx) (o_me := o_me) (t_me := t_me) (h_op := by omega)) (fun o V_q hq => ?_)
      obtain ⟨F111, rfl, rfl, hC112, hM113, -⟩ := hq
      have hM114 : Fq 0 [(2, 7), (2, 8), (2, 11), (20, -5), (21, -5), (2, 10), (7, 6), (7, 9)] m tg F F111 := Fq_t (ln := ln) (ln1 := ln) hMx Ex_r hM113 (by decide) (Or.inl rfl)
      refine Or.inl ⟨rfl, ?_⟩
      refine jx_ld (pc_q := 38) (l_q := L) (st_q := [rv (p)]) rfl (jl_rvn gL_1) ?_
      refine cx_gi (pc_q := 41) (c := 7) (q := 10) (v := F (p) (10 : Int)) rfl rfl (by decide) (by decide) (Or.inl rfl) rfl o_p t_p ((show F111 (p) (10 : Int) = Fx (p) (10 : Int) from hM113 _ _ o_p (own_z o_p) (by rw [t_p]; rfl)).trans (show Fx (p) (10 : Int) = F (p) (10 : Int) from hMx _ _ o_p (own_z o_p) (by rw [t_p]; rfl))) ?_
      have b115 : (-2147483648 : Int) ≤ F (p) (10 : Int) ∧ F (p) (10 : Int) ≤ 2147483647 := by have z := HC_i (c := 7) (q := 10) hC112 o_p t_p (by decide) rfl; rw [show F111 (p) ((10 : Nat) : Int) = F (p) (10 : Int) from ((show F111 (p) (10 : Int) = Fx (p) (10 : Int) from hM113 _ _ o_p (own_z o_p) (by rw [t_p]; rfl)).trans (show Fx (p) (10 : Int) = F (p) (10 : Int) from hMx _ _ o_p (own_z o_p) (by rw [t_p]; rfl)))] at z; exact z
      refine jx_ld (pc_q := 42) (l_q := jSto1 L 2 (.int (i32 (F (p) (10 : Int))))) (st_q := []) rfl rfl ?_
      obtain ⟨L116, eL116⟩ : ∃ q : jL, q = jSto1 L 2 (.int (i32 (F (p) (10 : Int)))) := ⟨_, rfl⟩
      rw [← eL116]
      have g117 : jGet L116 0 = some (rv (me)) := eL116 ▸ jg_nr (by decide) gL_0
      have g118 : jGet L116 1 = some (rv (p)) := eL116 ▸ jg_nr (by decide) gL_1
      have g119 : jGet L116 3 = some (rv (g)) := eL116 ▸ jg_nr (by decide) gL_3
      have g120 : jGet L116 2 = some (.int (i32 (F (p) (10 : Int)))) := eL116 ▸ jg_eq
      clear eL116
      refine jx_ld (pc_q := 43) (l_q := L116) (st_q := [rv (p)]) rfl (jl_rvn g118) ?_
      refine cx_gr (pc_q := 46) (c := 7) (q := 4) (v := F (p) (4 : Int)) rfl rfl (by decide) (by decide) rfl rfl o_p t_p ((show F111 (p) (4 : Int) = Fx (p) (4 : Int) from hM113 _ _ o_p (own_z o_p) (by rw [t_p]; rfl)).trans (show Fx (p) (4 : Int) = F (p) (4 : Int) from hMx _ _ o_p (own_z o_p) (by rw [t_p]; rfl))) ?_
      have y121 : F (p) (4 : Int) = 0 ∨ (own m (F (p) (4 : Int)) ∧ tg (F (p) (4 : Int)) = 8) := by have z := HC_r (c := 7) (q := 4) hC112 o_p t_p (by decide) rfl; rw [show F111 (p) ((4 : Nat) : Int) = F (p) (4 : Int) from ((show F111 (p) (4 : Int) = Fx (p) (4 : Int) from hM113 _ _ o_p (own_z o_p) (by rw [t_p]; rfl)).trans (show Fx (p) (4 : Int) = F (p) (4 : Int) from hMx _ _ o_p (own_z o_p) (by rw [t_p]; rfl)))] at z; exact z
      refine jx_ld (pc_q := 47) (l_q := jSto1 L116 3 (rv (F (p) (4 : Int)))) (st_q := []) rfl (js_rvn (by decide)) ?_
      obtain ⟨L122, eL122⟩ : ∃ q : jL, q = jSto1 L116 3 (rv (F (p) (4 : Int))) := ⟨_, rfl⟩
      rw [← eL122]
      have g123 : jGet L122 0 = some (rv (me)) := eL122 ▸ jg_nr (by decide) g117
      have g124 : jGet L122 1 = some (rv (p)) := eL122 ▸ jg_nr (by decide) g118
      have g125 : jGet L122 2 = some (.int (i32 (F (p) (10 : Int)))) := eL122 ▸ jg_ne (by decide) g120 rfl
      have g126 : jGet L122 3 = some (rv (F (p) (4 : Int))) := eL122 ▸ jg_eq
      clear eL122
      exact k_LCoder_alternative_at_47 (X := X) (kk := kk) (hE := hE) (d := d) (R := R) (m := m) (tg := tg) (ln := ln) (F := F) (me := me) (p := p) (hd := hd) (hC := hC) (o_me := o_me) (t_me := t_me) (o_p := o_p) (t_p := t_p) (c_NT := c_NT) (n_p := n_p) _ L122 F111 (F (p) (10 : Int)) (F (p) (4 : Int)) rfl g123 g124 g125 g126 hC112 hM114 (by omega) y121 (SN_w (SN_c hC c_NT n_p (own_z o_p) (by omega)) (by omega))
    · have _q := h110
      have ho127 : own m (g) ∧ tg (g) = 8 := yx_g.resolve_left h110
      have k128 := SN_p sx_g h110
      refine jx_ld (pc_q := 15) (l_q := L) (st_q := [rv (me)]) rfl (jl_rvn gL_0) ?_
      refine jx_ld (pc_q := 16) (l_q := L) (st_q := [rv (g), rv (me)]) rfl (jl_rvn gL_3) ?_
      refine jx_ld (pc_q := 17) (l_q := L) (st_q := [.int (i32 (wd)), rv (g), rv (me)]) rfl (jl_iloadn gL_2) ?_
      refine cx_vi (c := 1) (a := me) (st := []) (as := [rv (g), .int (i32 (wd))]) rfl rfl rfl o_me t_me (by decide) rfl ⟨rfl, rfl, (Nat.le_of_ble_eq_true rfl)⟩ rfl (k_LCoder_prepare (dd := d) (R := R) (m := m) (tg := tg) (ln := ln) (F := Fx) (kk := kk - 1) (me := me) (g := g) (wd := wd) (hd := by omega) (hC := hCx) (o_me := o_me) (t_me := t_me) (o_g := ho127.1) (t_g := ho127.2) (h_wd := by omega) (c_NT := NT_q hC c_NT hMx rfl) (n_g := (SN_q (SN_w sx_g (by omega)) hMx rfl rfl))) (fun o V_q hq => ?_)
      obtain ⟨F129, rfl, rfl, hC130, hM131, -⟩ := hq
      have hM132 : Fq 0 [(2, 7), (2, 8), (2, 11), (20, -5), (21, -5), (2, 10), (7, 6), (7, 9)] m tg F F129 := Fq_t (ln := ln) (ln1 := ln) hMx Ex_r hM131 (by decide) (Or.inl rfl)
      refine Or.inl ⟨rfl, ?_⟩
      refine jx_inc (pc_q := 23) (l_q := jSto1 L 2 (.int (i32 (wd + (2))))) (x := wd) rfl gL_2 (by decide) rfl rfl ?_
      obtain ⟨z133, ez133⟩ : ∃ q, q = (i32 ((wd + (2)))).toInt := ⟨_, rfl⟩
      have bz133 : (-2147483648 : Int) ≤ z133 ∧ z133 ≤ 2147483647 := ez133 ▸ i32_rg _
      rw [show i32 ((wd + (2))) = i32 z133 by rw [ez133, i32_of]]
      clear ez133
      obtain ⟨L134, eL134⟩ : ∃ q : jL, q = jSto1 L 2 (.int (i32 (z133))) := ⟨_, rfl⟩
      rw [← eL134]
      have g135 : jGet L134 0 = some (rv (me)) := eL134 ▸ jg_nr (by decide) gL_0
      have g136 : jGet L134 1 = some (rv (p)) := eL134 ▸ jg_nr (by decide) gL_1
      have g137 : jGet L134 3 = some (rv (g)) := eL134 ▸ jg_nr (by decide) gL_3
      have g138 : jGet L134 2 = some (.int (i32 (z133))) := eL134 ▸ jg_eq
      clear eL134
      refine jx_ld (pc_q := 24) (l_q := L134) (st_q := [rv (g)]) rfl (jl_rvn g137) ?_
      refine cx_gr (pc_q := 27) (c := 7) (q := 8) (v := F (g) (8 : Int)) rfl rfl (by decide) (by decide) rfl rfl ho127.1 ho127.2 ((show F129 (g) (8 : Int) = Fx (g) (8 : Int) from hM131 _ _ ho127.1 (own_z ho127.1) (by rw [ho127.2]; rfl)).trans (show Fx (g) (8 : Int) = F (g) (8 : Int) from hMx _ _ ho127.1 (own_z ho127.1) (by rw [ho127.2]; rfl))) ?_
      have y139 : F (g) (8 : Int) = 0 ∨ (own m (F (g) (8 : Int)) ∧ tg (F (g) (8 : Int)) = 8) := by have z := HC_r (c := 7) (q := 8) hC130 ho127.1 ho127.2 (by decide) rfl; rw [show F129 (g) ((8 : Nat) : Int) = F (g) (8 : Int) from ((show F129 (g) (8 : Int) = Fx (g) (8 : Int) from hM131 _ _ ho127.1 (own_z ho127.1) (by rw [ho127.2]; rfl)).trans (show Fx (g) (8 : Int) = F (g) (8 : Int) from hMx _ _ ho127.1 (own_z ho127.1) (by rw [ho127.2]; rfl)))] at z; exact z
      have z140 := mz_n hC c_NT sx_g (own_z ho127.1)
      refine jx_ld (pc_q := 28) (l_q := jSto1 L134 3 (rv (F (g) (8 : Int)))) (st_q := []) rfl (js_rvn (by decide)) ?_
      obtain ⟨L141, eL141⟩ : ∃ q : jL, q = jSto1 L134 3 (rv (F (g) (8 : Int))) := ⟨_, rfl⟩
      rw [← eL141]
      have g142 : jGet L141 0 = some (rv (me)) := eL141 ▸ jg_nr (by decide) g135
      have g143 : jGet L141 1 = some (rv (p)) := eL141 ▸ jg_nr (by decide) g136
      have g144 : jGet L141 2 = some (.int (i32 (z133))) := eL141 ▸ jg_ne (by decide) g138 rfl
      have g145 : jGet L141 3 = some (rv (F (g) (8 : Int))) := eL141 ▸ jg_eq
      clear eL141
      refine jx_go (tg := 10) rfl rfl ?_
      exact ih _ (by omega) L141 F129 (z133) (F (g) (8 : Int)) rfl g142 g143 g144 g145 hC130 hM132 (by omega) y139 (SN_w (SN_n hC c_NT sx_g (own_z ho127.1)) (by omega))
set_option maxRecDepth 20000 in
set_option maxHeartbeats 4000000 in
theorem k_LCoder_alternative {X : jX} {kk : Nat} (hE : 1 ≤ kk → CPx X (kk - 1)) {dd : Nat} {R : Nat → jC} {m : Nat} {tg ln : Int → Int} {F : Int → Int → Int} {me p : Int} (hd : 3 * kk + 15 ≤ dd) (hC : HC 0 m tg ln F) (o_me : own m me) (t_me : tg me = 2) (o_p : own m p) (t_p : tg p = 8) (c_NT : NT m tg F) (n_p : SN m tg F p (kk)) : wk X dd 76 [rv me, rv p] (cV R m tg ln F) (fun o V_q => ∃ (F_q : Int → Int → Int), V_q = cV R m tg ln F_q ∧ o = .inl none ∧ HC 0 m tg ln F_q ∧ Fq 0 [(2, 7), (2, 8), (2, 11), (20, -5), (21, -5), (2, 10), (7, 6), (7, 9)] m tg F F_q ∧ True) := by
  obtain ⟨d, rfl⟩ : ∃ d, dd = d + 1 := ⟨dd - 1, by omega⟩
  refine wk_of (e := jm76) rfl (by rw [jS_r, jS_r, jS_0]; exact Nat.le_of_ble_eq_true rfl) ?_
  rw [la_r, la_r, la_0]
  show wj X d jm76 (0, [(0, rv (me)), (1, rv (p))], [], cV R m tg ln F) _
  have hM0 : Fq 0 [(2, 7), (2, 8), (2, 11), (20, -5), (21, -5), (2, 10), (7, 6), (7, 9)] m tg F F := Fq_r
  obtain ⟨L0, eL0⟩ : ∃ q : jL, q = [(0, rv (me)), (1, rv (p))] := ⟨_, rfl⟩
  rw [← eL0]
  have g146 : jGet L0 0 = some (rv (me)) := eL0 ▸ (rfl : jGet [(0, rv (me)), (1, rv (p))] 0 = some (rv (me)))
  have g147 : jGet L0 1 = some (rv (p)) := eL0 ▸ (rfl : jGet [(0, rv (me)), (1, rv (p))] 1 = some (rv (p)))
  clear eL0
  have k148 := SN_p n_p (own_z o_p)
  have hE149 := hE (by omega)
  refine jx_ld (pc_q := 1) (l_q := L0) (st_q := [rv (p)]) rfl (jl_rvn g147) ?_
  refine cx_gi (pc_q := 4) (c := 7) (q := 10) (v := F (p) (10 : Int)) rfl rfl (by decide) (by decide) (Or.inl rfl) rfl o_p t_p rfl ?_
  have b150 : (-2147483648 : Int) ≤ F (p) (10 : Int) ∧ F (p) (10 : Int) ≤ 2147483647 := by have z := HC_i (c := 7) (q := 10) hC o_p t_p (by decide) rfl; rw [show F (p) ((10 : Nat) : Int) = F (p) (10 : Int) from rfl] at z; exact z
  refine jx_ld (pc_q := 5) (l_q := jSto1 L0 2 (.int (i32 (F (p) (10 : Int))))) (st_q := []) rfl rfl ?_
  obtain ⟨L151, eL151⟩ : ∃ q : jL, q = jSto1 L0 2 (.int (i32 (F (p) (10 : Int)))) := ⟨_, rfl⟩
  rw [← eL151]
  have g152 : jGet L151 0 = some (rv (me)) := eL151 ▸ jg_nr (by decide) g146
  have g153 : jGet L151 1 = some (rv (p)) := eL151 ▸ jg_nr (by decide) g147
  have g154 : jGet L151 2 = some (.int (i32 (F (p) (10 : Int)))) := eL151 ▸ jg_eq
  clear eL151
  refine jx_ld (pc_q := 6) (l_q := L151) (st_q := [rv (p)]) rfl (jl_rvn g153) ?_
  refine cx_gr (pc_q := 9) (c := 7) (q := 4) (v := F (p) (4 : Int)) rfl rfl (by decide) (by decide) rfl rfl o_p t_p rfl ?_
  have y155 : F (p) (4 : Int) = 0 ∨ (own m (F (p) (4 : Int)) ∧ tg (F (p) (4 : Int)) = 8) := by have z := HC_r (c := 7) (q := 4) hC o_p t_p (by decide) rfl; rw [show F (p) ((4 : Nat) : Int) = F (p) (4 : Int) from rfl] at z; exact z
  refine jx_ld (pc_q := 10) (l_q := jSto1 L151 3 (rv (F (p) (4 : Int)))) (st_q := []) rfl (js_rvn (by decide)) ?_
  obtain ⟨L156, eL156⟩ : ∃ q : jL, q = jSto1 L151 3 (rv (F (p) (4 : Int))) := ⟨_, rfl⟩
  rw [← eL156]
  have g157 : jGet L156 0 = some (rv (me)) := eL156 ▸ jg_nr (by decide) g152
  have g158 : jGet L156 1 = some (rv (p)) := eL156 ▸ jg_nr (by decide) g153
  have g159 : jGet L156 2 = some (.int (i32 (F (p) (10 : Int)))) := eL156 ▸ jg_ne (by decide) g154 rfl
  have g160 : jGet L156 3 = some (rv (F (p) (4 : Int))) := eL156 ▸ jg_eq
  clear eL156
  exact k_LCoder_alternative_at_10 (X := X) (kk := kk) (hE := hE) (d := d) (R := R) (m := m) (tg := tg) (ln := ln) (F := F) (me := me) (p := p) (hd := hd) (hC := hC) (o_me := o_me) (t_me := t_me) (o_p := o_p) (t_p := t_p) (c_NT := c_NT) (n_p := n_p) _ L156 F (F (p) (10 : Int)) (F (p) (4 : Int)) rfl g157 g158 g159 g160 hC hM0 (by omega) y155 (SN_w (SN_c hC c_NT n_p (own_z o_p) (by omega)) (by omega))
set_option maxRecDepth 20000 in
set_option maxHeartbeats 4000000 in
theorem k_LCoder_process_at_231 {X : jX} {kk : Nat} (hE : 1 ≤ kk → CPx X (kk - 1)) {d : Nat} {R : Nat → jC} {m : Nat} {tg ln : Int → Int} {F : Int → Int → Int} {me p : Int} (hd : 3 * kk + 16 ≤ d + 1) (hC : HC 0 m tg ln F) (o_me : own m me) (t_me : tg me = 2) (y_p : p = 0 ∨ (own m p ∧ tg p = 8)) (c_NT : NT m tg F) (n_p : SN m tg F p (kk)) : ∀ (mm : Nat) (L : jL) (Fx : Int → Int → Int) (ch : Int), (mz m ch).toNat = mm → jGet L 0 = some (rv (me)) → jGet L 1 = some (rv (p)) → jGet L 2 = some (rv ch) → HC 0 m tg ln Fx → Fq 0 [(2, 7), (2, 8), (2, 11), (20, -5), (21, -5), (2, 10), (7, 6), (7, 9)] m tg F Fx → (ch = 0 ∨ (own m ch ∧ tg ch = 8)) → (p ≠ 0) → (SN m tg F ch (kk - 1)) → wj X d jm66 (231, L, [], cV R m tg ln Fx) (fun o V_q => ∃ (F_q : Int → Int → Int), V_q = cV R m tg ln F_q ∧ o = .inl none ∧ HC 0 m tg ln F_q ∧ Fq 0 [(2, 7), (2, 8), (2, 11), (20, -5), (21, -5), (2, 10), (7, 6), (7, 9)] m tg F F_q ∧ True) := by
  intro mm
  induction mm using Nat.strongRecOn with
  | ind mm ih =>
    intro L Fx ch hmm gL_0 gL_1 gL_2 hCx hMx yx_ch iv_0 sx_ch
    refine jx_ld (pc_q := 232) (l_q := L) (st_q := [rv (ch)]) rfl (jl_rvn gL_2) ?_
    refine cx_nul (pc_q := 235) (tg_q := 248) rfl rfl rfl (fun h1 => ?_) (fun h1 => ?_)
    · have _q := h1
      refine jx_rt (v := none) rfl rfl rfl rfl rfl rfl ?_
      exact ⟨Fx, rfl, rfl, hCx, hMx, trivial⟩
    · have _q := h1
      have ho2 : own m (ch) ∧ tg (ch) = 8 := yx_ch.resolve_left h1
      have k3 := SN_p sx_ch h1
      have hE4 := hE (by omega)
      refine jx_ld (pc_q := 236) (l_q := L) (st_q := [rv (me)]) rfl (jl_rvn gL_0) ?_
      refine jx_ld (pc_q := 237) (l_q := L) (st_q := [rv (ch), rv (me)]) rfl (jl_rvn gL_2) ?_
      refine cx_vi (c := 1) (a := me) (st := []) (as := [rv (ch)]) rfl rfl rfl o_me t_me (by decide) rfl ⟨rfl, rfl, (Nat.le_of_ble_eq_true rfl)⟩ rfl (hE4 (dd := d) (R := R) (m := m) (tg := tg) (ln := ln) (F := Fx) (me := me) (p := ch) (hd := by omega) (hC := hCx) (o_me := o_me) (t_me := t_me) (y_p := (Or.inr ⟨ho2.1, ho2.2⟩)) (c_NT := NT_q hC c_NT hMx rfl) (n_p := (SN_q (SN_w (k_q := kk - 1) sx_ch (by omega)) hMx rfl rfl))) (fun o V_q hq => ?_)
      obtain ⟨F5, rfl, rfl, hC6, hM7, -⟩ := hq
      have hM8 : Fq 0 [(2, 7), (2, 8), (2, 11), (20, -5), (21, -5), (2, 10), (7, 6), (7, 9)] m tg F F5 := Fq_t (ln := ln) (ln1 := ln) hMx Ex_r hM7 (by decide) (Or.inl rfl)
      refine Or.inl ⟨rfl, ?_⟩
      refine jx_ld (pc_q := 241) (l_q := L) (st_q := [rv (ch)]) rfl (jl_rvn gL_2) ?_
      refine cx_gr (pc_q := 244) (c := 7) (q := 8) (v := F (ch) (8 : Int)) rfl rfl (by decide) (by decide) rfl rfl ho2.1 ho2.2 ((show F5 (ch) (8 : Int) = Fx (ch) (8 : Int) from hM7 _ _ ho2.1 (own_z ho2.1) (by rw [ho2.2]; rfl)).trans (show Fx (ch) (8 : Int) = F (ch) (8 : Int) from hMx _ _ ho2.1 (own_z ho2.1) (by rw [ho2.2]; rfl))) ?_
      have y9 : F (ch) (8 : Int) = 0 ∨ (own m (F (ch) (8 : Int)) ∧ tg (F (ch) (8 : Int)) = 8) := by have z := HC_r (c := 7) (q := 8) hC6 ho2.1 ho2.2 (by decide) rfl; rw [show F5 (ch) ((8 : Nat) : Int) = F (ch) (8 : Int) from ((show F5 (ch) (8 : Int) = Fx (ch) (8 : Int) from hM7 _ _ ho2.1 (own_z ho2.1) (by rw [ho2.2]; rfl)).trans (show Fx (ch) (8 : Int) = F (ch) (8 : Int) from hMx _ _ ho2.1 (own_z ho2.1) (by rw [ho2.2]; rfl)))] at z; exact z
      have z10 := mz_n hC c_NT sx_ch (own_z ho2.1)
      refine jx_ld (pc_q := 245) (l_q := jSto1 L 2 (rv (F (ch) (8 : Int)))) (st_q := []) rfl (js_rvn (by decide)) ?_
      obtain ⟨L11, eL11⟩ : ∃ q : jL, q = jSto1 L 2 (rv (F (ch) (8 : Int))) := ⟨_, rfl⟩
      rw [← eL11]
      have g12 : jGet L11 0 = some (rv (me)) := eL11 ▸ jg_nr (by decide) gL_0
      have g13 : jGet L11 1 = some (rv (p)) := eL11 ▸ jg_nr (by decide) gL_1
      have g14 : jGet L11 2 = some (rv (F (ch) (8 : Int))) := eL11 ▸ jg_eq
      clear eL11
      refine jx_go (tg := 231) rfl rfl ?_
      exact ih _ (by omega) L11 F5 (F (ch) (8 : Int)) rfl g12 g13 g14 hC6 hM8 y9 (by omega) (SN_w (SN_n hC c_NT sx_ch (own_z ho2.1)) (by omega))
set_option maxRecDepth 20000 in
set_option maxHeartbeats 4000000 in
theorem k_LCoder_process_at_17 {X : jX} {kk : Nat} (hE : 1 ≤ kk → CPx X (kk - 1)) {d : Nat} {R : Nat → jC} {m : Nat} {tg ln : Int → Int} {F : Int → Int → Int} {me p : Int} (hd : 3 * kk + 16 ≤ d + 1) (hC : HC 0 m tg ln F) (o_me : own m me) (t_me : tg me = 2) (y_p : p = 0 ∨ (own m p ∧ tg p = 8)) (c_NT : NT m tg F) (n_p : SN m tg F p (kk)) : ∀ (mm : Nat) (L : jL) (Fx : Int → Int → Int) (nm : Int), (mz m nm).toNat = mm → jGet L 0 = some (rv (me)) → jGet L 1 = some (rv (p)) → jGet L 2 = some (rv nm) → HC 0 m tg ln Fx → Fq 0 [(2, 7), (2, 8), (2, 11), (20, -5), (21, -5), (2, 10), (7, 6), (7, 9)] m tg F Fx → (nm = 0 ∨ (own m nm ∧ tg nm = 7)) → (p ≠ 0) → wj X d jm66 (17, L, [], cV R m tg ln Fx) (fun o V_q => ∃ (F_q : Int → Int → Int), V_q = cV R m tg ln F_q ∧ o = .inl none ∧ HC 0 m tg ln F_q ∧ Fq 0 [(2, 7), (2, 8), (2, 11), (20, -5), (21, -5), (2, 10), (7, 6), (7, 9)] m tg F F_q ∧ True) := by
  intro mm
  induction mm using Nat.strongRecOn with
  | ind mm ih =>
    intro L Fx nm hmm gL_0 gL_1 gL_2 hCx hMx yx_nm iv_0
    refine jx_ld (pc_q := 18) (l_q := L) (st_q := [rv (nm)]) rfl (jl_rvn gL_2) ?_
    refine cx_nul (pc_q := 21) (tg_q := 34) rfl rfl rfl (fun h15 => ?_) (fun h15 => ?_)
    · have _q := h15
      refine jx_ld (pc_q := 35) (l_q := L) (st_q := [rv (p)]) rfl (jl_rvn gL_1) ?_
      have hn16 : p ≠ 0 := iv_0
      have ho17 : own m (p) ∧ tg (p) = 8 := y_p.resolve_left hn16
      have k18 := SN_p n_p hn16
      have hE19 := hE (by omega)
      refine cx_gi (pc_q := 38) (c := 7) (q := 0) (v := F (p) (0 : Int)) rfl rfl (by decide) (by decide) (Or.inl rfl) rfl ho17.1 ho17.2 (show Fx (p) (0 : Int) = F (p) (0 : Int) from hMx _ _ ho17.1 (own_z ho17.1) (by rw [ho17.2]; rfl)) ?_
      have b20 : (-2147483648 : Int) ≤ F (p) (0 : Int) ∧ F (p) (0 : Int) ≤ 2147483647 := by have z := HC_i (c := 7) (q := 0) hCx ho17.1 ho17.2 (by decide) rfl; rw [show Fx (p) ((0 : Nat) : Int) = F (p) (0 : Int) from (show Fx (p) (0 : Int) = F (p) (0 : Int) from hMx _ _ ho17.1 (own_z ho17.1) (by rw [ho17.2]; rfl))] at z; exact z
      by_cases h21 : F (p) (0 : Int) = 0
      · refine jx_swe (tg := 108) h21 rfl rfl rfl rfl ?_
        refine jx_go (tg := 248) rfl rfl ?_
        refine jx_rt (v := none) rfl rfl rfl rfl rfl rfl ?_
        exact ⟨Fx, rfl, rfl, hCx, hMx, trivial⟩
      by_cases h22 : F (p) (0 : Int) = 1
      · refine jx_swe (tg := 111) h22 rfl rfl rfl rfl ?_
        refine jx_ld (pc_q := 112) (l_q := L) (st_q := [rv (me)]) rfl (jl_rvn gL_0) ?_
        refine jx_ar (pc_q := 114) (st_q := [.int (i32 (18)), rv (me)]) rfl rfl rfl rfl ?_
        refine cx_vi (c := 1) (a := me) (st := []) (as := [.int (i32 (18))]) rfl rfl rfl o_me t_me (by decide) rfl ⟨rfl, rfl, (Nat.le_of_ble_eq_true rfl)⟩ rfl (k_LCoder_operation (dd := d) (R := R) (m := m) (tg := tg) (ln := ln) (F := Fx) (me := me) (op := 18) (hd := by omega) (hC := hCx) (o_me := o_me) (t_me := t_me) (h_op := by omega)) (fun o V_q hq => ?_)
        obtain ⟨F23, rfl, rfl, hC24, hM25, -⟩ := hq
        have hM26 : Fq 0 [(2, 7), (2, 8), (2, 11), (20, -5), (21, -5), (2, 10), (7, 6), (7, 9)] m tg F F23 := Fq_t (ln := ln) (ln1 := ln) hMx Ex_r hM25 (by decide) (Or.inl rfl)
        refine Or.inl ⟨rfl, ?_⟩
        refine jx_go (tg := 248) rfl rfl ?_
        refine jx_rt (v := none) rfl rfl rfl rfl rfl rfl ?_
        exact ⟨F23, rfl, rfl, hC24, hM26, trivial⟩
      by_cases h27 : F (p) (0 : Int) = 2
      · refine jx_swe (tg := 120) h27 rfl rfl rfl rfl ?_
        refine jx_ld (pc_q := 121) (l_q := L) (st_q := [rv (me)]) rfl (jl_rvn gL_0) ?_
        refine jx_ld (pc_q := 122) (l_q := L) (st_q := [rv (p), rv (me)]) rfl (jl_rvn gL_1) ?_
        refine cx_vi (c := 1) (a := me) (st := []) (as := [rv (p)]) rfl rfl rfl o_me t_me (by decide) rfl ⟨rfl, rfl, (Nat.le_of_ble_eq_true rfl)⟩ rfl (k_LCoder_assign (dd := d) (R := R) (m := m) (tg := tg) (ln := ln) (F := Fx) (kk := kk) (me := me) (p := p) (hd := by omega) (hC := hCx) (o_me := o_me) (t_me := t_me) (o_p := ho17.1) (t_p := ho17.2) (c_NT := NT_q hC c_NT hMx rfl) (n_p := (SN_q (SN_w n_p (by omega)) hMx rfl rfl))) (fun o V_q hq => ?_)
        obtain ⟨F28, rfl, rfl, hC29, hM30, -⟩ := hq
        have hM31 : Fq 0 [(2, 7), (2, 8), (2, 11), (20, -5), (21, -5), (2, 10), (7, 6), (7, 9)] m tg F F28 := Fq_t (ln := ln) (ln1 := ln) hMx Ex_r hM30 (by decide) (Or.inl rfl)
        refine Or.inl ⟨rfl, ?_⟩
        refine jx_go (tg := 248) rfl rfl ?_
        refine jx_rt (v := none) rfl rfl rfl rfl rfl rfl ?_
        exact ⟨F28, rfl, rfl, hC29, hM31, trivial⟩
      by_cases h32 : F (p) (0 : Int) = 3
      · refine jx_swe (tg := 128) h32 rfl rfl rfl rfl ?_
        refine jx_ld (pc_q := 129) (l_q := L) (st_q := [rv (me)]) rfl (jl_rvn gL_0) ?_
        refine jx_ld (pc_q := 130) (l_q := L) (st_q := [rv (p), rv (me)]) rfl (jl_rvn gL_1) ?_
        refine cx_gr (pc_q := 133) (c := 7) (q := 5) (v := F (p) (5 : Int)) rfl rfl (by decide) (by decide) rfl rfl ho17.1 ho17.2 (show Fx (p) (5 : Int) = F (p) (5 : Int) from hMx _ _ ho17.1 (own_z ho17.1) (by rw [ho17.2]; rfl)) ?_
        have y33 : F (p) (5 : Int) = 0 ∨ (own m (F (p) (5 : Int)) ∧ tg (F (p) (5 : Int)) = 8) := by have z := HC_r (c := 7) (q := 5) hCx ho17.1 ho17.2 (by decide) rfl; rw [show Fx (p) ((5 : Nat) : Int) = F (p) (5 : Int) from (show Fx (p) (5 : Int) = F (p) (5 : Int) from hMx _ _ ho17.1 (own_z ho17.1) (by rw [ho17.2]; rfl))] at z; exact z
        refine cx_vi (c := 1) (a := me) (st := []) (as := [rv (F (p) (5 : Int))]) rfl rfl rfl o_me t_me (by decide) rfl ⟨rfl, rfl, (Nat.le_of_ble_eq_true rfl)⟩ rfl (CVx_all X ((kk) - 1) (dd := d) (R := R) (m := m) (tg := tg) (ln := ln) (F := Fx) (me := me) (e := F (p) (5 : Int)) (hd := by omega) (hC := hCx) (o_me := o_me) (t_me := t_me) (y_e := y33) (c_NT := NT_q hC c_NT hMx rfl) (n_e := (SN_q (SN_w (SN_c hC c_NT n_p (own_z ho17.1) (by omega)) (by omega)) hMx rfl rfl))) (fun o V_q hq => ?_)
        obtain ⟨F34, rfl, rfl, hC35, hM36, -⟩ := hq
        have hM37 : Fq 0 [(2, 7), (2, 8), (2, 11), (20, -5), (21, -5), (2, 10), (7, 6), (7, 9)] m tg F F34 := Fq_t (ln := ln) (ln1 := ln) hMx Ex_r hM36 (by decide) (Or.inl rfl)
        refine Or.inl ⟨rfl, ?_⟩
        refine jx_ld (pc_q := 137) (l_q := L) (st_q := [rv (me)]) rfl (jl_rvn gL_0) ?_
        refine jx_ld (pc_q := 138) (l_q := L) (st_q := [rv (p), rv (me)]) rfl (jl_rvn gL_1) ?_
        refine cx_gr (pc_q := 141) (c := 7) (q := 4) (v := F (p) (4 : Int)) rfl rfl (by decide) (by decide) rfl rfl ho17.1 ho17.2 ((show F34 (p) (4 : Int) = Fx (p) (4 : Int) from hM36 _ _ ho17.1 (own_z ho17.1) (by rw [ho17.2]; rfl)).trans (show Fx (p) (4 : Int) = F (p) (4 : Int) from hMx _ _ ho17.1 (own_z ho17.1) (by rw [ho17.2]; rfl))) ?_
        have y38 : F (p) (4 : Int) = 0 ∨ (own m (F (p) (4 : Int)) ∧ tg (F (p) (4 : Int)) = 8) := by have z := HC_r (c := 7) (q := 4) hC35 ho17.1 ho17.2 (by decide) rfl; rw [show F34 (p) ((4 : Nat) : Int) = F (p) (4 : Int) from ((show F34 (p) (4 : Int) = Fx (p) (4 : Int) from hM36 _ _ ho17.1 (own_z ho17.1) (by rw [ho17.2]; rfl)).trans (show Fx (p) (4 : Int) = F (p) (4 : Int) from hMx _ _ ho17.1 (own_z ho17.1) (by rw [ho17.2]; rfl)))] at z; exact z
        refine cx_vi (c := 1) (a := me) (st := []) (as := [rv (F (p) (4 : Int))]) rfl rfl rfl o_me t_me (by decide) rfl ⟨rfl, rfl, (Nat.le_of_ble_eq_true rfl)⟩ rfl (k_LCoder_address (dd := d) (R := R) (m := m) (tg := tg) (ln := ln) (F := F34) (kk := (kk) - 1) (hE := fun _ => CVx_all X _) (me := me) (p := F (p) (4 : Int)) (hd := by omega) (hC := hC35) (o_me := o_me) (t_me := t_me) (y_p := y38) (c_NT := NT_q hC c_NT hM37 rfl) (n_p := (SN_q (SN_w (SN_c hC c_NT n_p (own_z ho17.1) (by omega)) (by omega)) hM37 rfl rfl))) (fun o V_q hq => ?_)
        obtain ⟨F39, rfl, rfl, hC40, hM41, -⟩ := hq
        have hM42 : Fq 0 [(2, 7), (2, 8), (2, 11), (20, -5), (21, -5), (2, 10), (7, 6), (7, 9)] m tg F F39 := Fq_t (ln := ln) (ln1 := ln) hM37 Ex_r hM41 (by decide) (Or.inl rfl)
        refine Or.inl ⟨rfl, ?_⟩
        refine jx_ld (pc_q := 145) (l_q := L) (st_q := [rv (me)]) rfl (jl_rvn gL_0) ?_
        refine jx_ar (pc_q := 147) (st_q := [.int (i32 (21)), rv (me)]) rfl rfl rfl rfl ?_
        refine cx_vi (c := 1) (a := me) (st := []) (as := [.int (i32 (21))]) rfl rfl rfl o_me t_me (by decide) rfl ⟨rfl, rfl, (Nat.le_of_ble_eq_true rfl)⟩ rfl (k_LCoder_operation (dd := d) (R := R) (m := m) (tg := tg) (ln := ln) (F := F39) (me := me) (op := 21) (hd := by omega) (hC := hC40) (o_me := o_me) (t_me := t_me) (h_op := by omega)) (fun o V_q hq => ?_)
        obtain ⟨F43, rfl, rfl, hC44, hM45, -⟩ := hq
        have hM46 : Fq 0 [(2, 7), (2, 8), (2, 11), (20, -5), (21, -5), (2, 10), (7, 6), (7, 9)] m tg F F43 := Fq_t (ln := ln) (ln1 := ln) hM42 Ex_r hM45 (by decide) (Or.inl rfl)
        refine Or.inl ⟨rfl, ?_⟩
        refine jx_go (tg := 248) rfl rfl ?_
        refine jx_rt (v := none) rfl rfl rfl rfl rfl rfl ?_
        exact ⟨F43, rfl, rfl, hC44, hM46, trivial⟩
      by_cases h47 : F (p) (0 : Int) = 4
      · refine jx_swe (tg := 153) h47 rfl rfl rfl rfl ?_
        refine jx_ld (pc_q := 154) (l_q := L) (st_q := [rv (me)]) rfl (jl_rvn gL_0) ?_
        refine jx_ld (pc_q := 155) (l_q := L) (st_q := [rv (p), rv (me)]) rfl (jl_rvn gL_1) ?_
        refine cx_gr (pc_q := 158) (c := 7) (q := 5) (v := F (p) (5 : Int)) rfl rfl (by decide) (by decide) rfl rfl ho17.1 ho17.2 (show Fx (p) (5 : Int) = F (p) (5 : Int) from hMx _ _ ho17.1 (own_z ho17.1) (by rw [ho17.2]; rfl)) ?_
        have y48 : F (p) (5 : Int) = 0 ∨ (own m (F (p) (5 : Int)) ∧ tg (F (p) (5 : Int)) = 8) := by have z := HC_r (c := 7) (q := 5) hCx ho17.1 ho17.2 (by decide) rfl; rw [show Fx (p) ((5 : Nat) : Int) = F (p) (5 : Int) from (show Fx (p) (5 : Int) = F (p) (5 : Int) from hMx _ _ ho17.1 (own_z ho17.1) (by rw [ho17.2]; rfl))] at z; exact z
        refine cx_vi (c := 1) (a := me) (st := []) (as := [rv (F (p) (5 : Int))]) rfl rfl rfl o_me t_me (by decide) rfl ⟨rfl, rfl, (Nat.le_of_ble_eq_true rfl)⟩ rfl (k_LCoder_address (dd := d) (R := R) (m := m) (tg := tg) (ln := ln) (F := Fx) (kk := (kk) - 1) (hE := fun _ => CVx_all X _) (me := me) (p := F (p) (5 : Int)) (hd := by omega) (hC := hCx) (o_me := o_me) (t_me := t_me) (y_p := y48) (c_NT := NT_q hC c_NT hMx rfl) (n_p := (SN_q (SN_w (SN_c hC c_NT n_p (own_z ho17.1) (by omega)) (by omega)) hMx rfl rfl))) (fun o V_q hq => ?_)
        obtain ⟨F49, rfl, rfl, hC50, hM51, -⟩ := hq
        have hM52 : Fq 0 [(2, 7), (2, 8), (2, 11), (20, -5), (21, -5), (2, 10), (7, 6), (7, 9)] m tg F F49 := Fq_t (ln := ln) (ln1 := ln) hMx Ex_r hM51 (by decide) (Or.inl rfl)
        refine Or.inl ⟨rfl, ?_⟩
        refine jx_ld (pc_q := 162) (l_q := L) (st_q := [rv (me)]) rfl (jl_rvn gL_0) ?_
        refine jx_ld (pc_q := 163) (l_q := L) (st_q := [rv (p), rv (me)]) rfl (jl_rvn gL_1) ?_
        refine cx_gr (pc_q := 166) (c := 7) (q := 4) (v := F (p) (4 : Int)) rfl rfl (by decide) (by decide) rfl rfl ho17.1 ho17.2 ((show F49 (p) (4 : Int) = Fx (p) (4 : Int) from hM51 _ _ ho17.1 (own_z ho17.1) (by rw [ho17.2]; rfl)).trans (show Fx (p) (4 : Int) = F (p) (4 : Int) from hMx _ _ ho17.1 (own_z ho17.1) (by rw [ho17.2]; rfl))) ?_
        have y53 : F (p) (4 : Int) = 0 ∨ (own m (F (p) (4 : Int)) ∧ tg (F (p) (4 : Int)) = 8) := by have z := HC_r (c := 7) (q := 4) hC50 ho17.1 ho17.2 (by decide) rfl; rw [show F49 (p) ((4 : Nat) : Int) = F (p) (4 : Int) from ((show F49 (p) (4 : Int) = Fx (p) (4 : Int) from hM51 _ _ ho17.1 (own_z ho17.1) (by rw [ho17.2]; rfl)).trans (show Fx (p) (4 : Int) = F (p) (4 : Int) from hMx _ _ ho17.1 (own_z ho17.1) (by rw [ho17.2]; rfl)))] at z; exact z
        refine cx_vi (c := 1) (a := me) (st := []) (as := [rv (F (p) (4 : Int))]) rfl rfl rfl o_me t_me (by decide) rfl ⟨rfl, rfl, (Nat.le_of_ble_eq_true rfl)⟩ rfl (k_LCoder_address (dd := d) (R := R) (m := m) (tg := tg) (ln := ln) (F := F49) (kk := (kk) - 1) (hE := fun _ => CVx_all X _) (me := me) (p := F (p) (4 : Int)) (hd := by omega) (hC := hC50) (o_me := o_me) (t_me := t_me) (y_p := y53) (c_NT := NT_q hC c_NT hM52 rfl) (n_p := (SN_q (SN_w (SN_c hC c_NT n_p (own_z ho17.1) (by omega)) (by omega)) hM52 rfl rfl))) (fun o V_q hq => ?_)
        obtain ⟨F54, rfl, rfl, hC55, hM56, -⟩ := hq
        have hM57 : Fq 0 [(2, 7), (2, 8), (2, 11), (20, -5), (21, -5), (2, 10), (7, 6), (7, 9)] m tg F F54 := Fq_t (ln := ln) (ln1 := ln) hM52 Ex_r hM56 (by decide) (Or.inl rfl)
        refine Or.inl ⟨rfl, ?_⟩
        refine jx_ld (pc_q := 170) (l_q := L) (st_q := [rv (me)]) rfl (jl_rvn gL_0) ?_
        refine jx_ar (pc_q := 172) (st_q := [.int (i32 (20)), rv (me)]) rfl rfl rfl rfl ?_
        refine cx_vi (c := 1) (a := me) (st := []) (as := [.int (i32 (20))]) rfl rfl rfl o_me t_me (by decide) rfl ⟨rfl, rfl, (Nat.le_of_ble_eq_true rfl)⟩ rfl (k_LCoder_operation (dd := d) (R := R) (m := m) (tg := tg) (ln := ln) (F := F54) (me := me) (op := 20) (hd := by omega) (hC := hC55) (o_me := o_me) (t_me := t_me) (h_op := by omega)) (fun o V_q hq => ?_)
        obtain ⟨F58, rfl, rfl, hC59, hM60, -⟩ := hq
        have hM61 : Fq 0 [(2, 7), (2, 8), (2, 11), (20, -5), (21, -5), (2, 10), (7, 6), (7, 9)] m tg F F58 := Fq_t (ln := ln) (ln1 := ln) hM57 Ex_r hM60 (by decide) (Or.inl rfl)
        refine Or.inl ⟨rfl, ?_⟩
        refine jx_go (tg := 248) rfl rfl ?_
        refine jx_rt (v := none) rfl rfl rfl rfl rfl rfl ?_
        exact ⟨F58, rfl, rfl, hC59, hM61, trivial⟩
      by_cases h62 : F (p) (0 : Int) = 5
      · refine jx_swe (tg := 178) h62 rfl rfl rfl rfl ?_
        refine jx_ld (pc_q := 179) (l_q := L) (st_q := [rv (me)]) rfl (jl_rvn gL_0) ?_
        refine jx_ld (pc_q := 180) (l_q := L) (st_q := [rv (p), rv (me)]) rfl (jl_rvn gL_1) ?_
        refine cx_vi (c := 1) (a := me) (st := []) (as := [rv (p)]) rfl rfl rfl o_me t_me (by decide) rfl ⟨rfl, rfl, (Nat.le_of_ble_eq_true rfl)⟩ rfl (k_LCoder_call (dd := d) (R := R) (m := m) (tg := tg) (ln := ln) (F := Fx) (kk := kk) (me := me) (p := p) (hd := by omega) (hC := hCx) (o_me := o_me) (t_me := t_me) (o_p := ho17.1) (t_p := ho17.2) (c_NT := NT_q hC c_NT hMx rfl) (n_p := (SN_q (SN_w n_p (by omega)) hMx rfl rfl))) (fun o V_q hq => ?_)
        obtain ⟨F63, rfl, rfl, hC64, hM65, -⟩ := hq
        have hM66 : Fq 0 [(2, 7), (2, 8), (2, 11), (20, -5), (21, -5), (2, 10), (7, 6), (7, 9)] m tg F F63 := Fq_t (ln := ln) (ln1 := ln) hMx Ex_r hM65 (by decide) (Or.inl rfl)
        refine Or.inl ⟨rfl, ?_⟩
        refine jx_go (tg := 248) rfl rfl ?_
        refine jx_rt (v := none) rfl rfl rfl rfl rfl rfl ?_
        exact ⟨F63, rfl, rfl, hC64, hM66, trivial⟩
      by_cases h67 : F (p) (0 : Int) = 6
      · refine jx_swe (tg := 226) h67 rfl rfl rfl rfl ?_
        refine jx_ld (pc_q := 227) (l_q := L) (st_q := [rv (p)]) rfl (jl_rvn gL_1) ?_
        refine cx_gr (pc_q := 230) (c := 7) (q := 4) (v := F (p) (4 : Int)) rfl rfl (by decide) (by decide) rfl rfl ho17.1 ho17.2 (show Fx (p) (4 : Int) = F (p) (4 : Int) from hMx _ _ ho17.1 (own_z ho17.1) (by rw [ho17.2]; rfl)) ?_
        have y68 : F (p) (4 : Int) = 0 ∨ (own m (F (p) (4 : Int)) ∧ tg (F (p) (4 : Int)) = 8) := by have z := HC_r (c := 7) (q := 4) hCx ho17.1 ho17.2 (by decide) rfl; rw [show Fx (p) ((4 : Nat) : Int) = F (p) (4 : Int) from (show Fx (p) (4 : Int) = F (p) (4 : Int) from hMx _ _ ho17.1 (own_z ho17.1) (by rw [ho17.2]; rfl))] at z; exact z
        refine jx_ld (pc_q := 231) (l_q := jSto1 L 2 (rv (F (p) (4 : Int)))) (st_q := []) rfl (js_rvn (by decide)) ?_
        obtain ⟨L69, eL69⟩ : ∃ q : jL, q = jSto1 L 2 (rv (F (p) (4 : Int))) := ⟨_, rfl⟩
        rw [← eL69]
        have g70 : jGet L69 0 = some (rv (me)) := eL69 ▸ jg_nr (by decide) gL_0
        have g71 : jGet L69 1 = some (rv (p)) := eL69 ▸ jg_nr (by decide) gL_1
        have g72 : jGet L69 2 = some (rv (F (p) (4 : Int))) := eL69 ▸ jg_eq
        clear eL69
        exact k_LCoder_process_at_231 (X := X) (kk := kk) (hE := hE) (d := d) (R := R) (m := m) (tg := tg) (ln := ln) (F := F) (me := me) (p := p) (hd := hd) (hC := hC) (o_me := o_me) (t_me := t_me) (y_p := y_p) (c_NT := c_NT) (n_p := n_p) _ L69 Fx (F (p) (4 : Int)) rfl g70 g71 g72 hCx hMx y68 (by omega) (SN_w (SN_c hC c_NT n_p (own_z ho17.1) (by omega)) (by omega))
      by_cases h73 : F (p) (0 : Int) = 7
      · refine jx_swe (tg := 186) h73 rfl rfl rfl rfl ?_
        refine jx_ld (pc_q := 187) (l_q := L) (st_q := [rv (me)]) rfl (jl_rvn gL_0) ?_
        refine jx_ld (pc_q := 188) (l_q := L) (st_q := [rv (p), rv (me)]) rfl (jl_rvn gL_1) ?_
        refine cx_vi (c := 1) (a := me) (st := []) (as := [rv (p)]) rfl rfl rfl o_me t_me (by decide) rfl ⟨rfl, rfl, (Nat.le_of_ble_eq_true rfl)⟩ rfl (k_LCoder_loop (dd := d) (R := R) (m := m) (tg := tg) (ln := ln) (F := Fx) (kk := kk) (hE := hE) (me := me) (p := p) (hd := by omega) (hC := hCx) (o_me := o_me) (t_me := t_me) (o_p := ho17.1) (t_p := ho17.2) (c_NT := NT_q hC c_NT hMx rfl) (n_p := (SN_q (SN_w n_p (by omega)) hMx rfl rfl))) (fun o V_q hq => ?_)
        obtain ⟨F74, rfl, rfl, hC75, hM76, -⟩ := hq
        have hM77 : Fq 0 [(2, 7), (2, 8), (2, 11), (20, -5), (21, -5), (2, 10), (7, 6), (7, 9)] m tg F F74 := Fq_t (ln := ln) (ln1 := ln) hMx Ex_r hM76 (by decide) (Or.inl rfl)
        refine Or.inl ⟨rfl, ?_⟩
        refine jx_go (tg := 248) rfl rfl ?_
        refine jx_rt (v := none) rfl rfl rfl rfl rfl rfl ?_
        exact ⟨F74, rfl, rfl, hC75, hM77, trivial⟩
      by_cases h78 : F (p) (0 : Int) = 8
      · refine jx_swe (tg := 210) h78 rfl rfl rfl rfl ?_
        refine jx_ld (pc_q := 211) (l_q := L) (st_q := [rv (me)]) rfl (jl_rvn gL_0) ?_
        refine jx_ld (pc_q := 212) (l_q := L) (st_q := [rv (p), rv (me)]) rfl (jl_rvn gL_1) ?_
        refine cx_vi (c := 1) (a := me) (st := []) (as := [rv (p)]) rfl rfl rfl o_me t_me (by decide) rfl ⟨rfl, rfl, (Nat.le_of_ble_eq_true rfl)⟩ rfl (k_LCoder_fork (dd := d) (R := R) (m := m) (tg := tg) (ln := ln) (F := Fx) (kk := kk) (hE := hE) (me := me) (p := p) (hd := by omega) (hC := hCx) (o_me := o_me) (t_me := t_me) (o_p := ho17.1) (t_p := ho17.2) (c_NT := NT_q hC c_NT hMx rfl) (n_p := (SN_q (SN_w n_p (by omega)) hMx rfl rfl))) (fun o V_q hq => ?_)
        obtain ⟨F79, rfl, rfl, hC80, hM81, -⟩ := hq
        have hM82 : Fq 0 [(2, 7), (2, 8), (2, 11), (20, -5), (21, -5), (2, 10), (7, 6), (7, 9)] m tg F F79 := Fq_t (ln := ln) (ln1 := ln) hMx Ex_r hM81 (by decide) (Or.inl rfl)
        refine Or.inl ⟨rfl, ?_⟩
        refine jx_go (tg := 248) rfl rfl ?_
        refine jx_rt (v := none) rfl rfl rfl rfl rfl rfl ?_
        exact ⟨F79, rfl, rfl, hC80, hM82, trivial⟩
      by_cases h83 : F (p) (0 : Int) = 9
      · refine jx_swe (tg := 210) h83 rfl rfl rfl rfl ?_
        refine jx_ld (pc_q := 211) (l_q := L) (st_q := [rv (me)]) rfl (jl_rvn gL_0) ?_
        refine jx_ld (pc_q := 212) (l_q := L) (st_q := [rv (p), rv (me)]) rfl (jl_rvn gL_1) ?_
        refine cx_vi (c := 1) (a := me) (st := []) (as := [rv (p)]) rfl rfl rfl o_me t_me (by decide) rfl ⟨rfl, rfl, (Nat.le_of_ble_eq_true rfl)⟩ rfl (k_LCoder_fork (dd := d) (R := R) (m := m) (tg := tg) (ln := ln) (F := Fx) (kk := kk) (hE := hE) (me := me) (p := p) (hd := by omega) (hC := hCx) (o_me := o_me) (t_me := t_me) (o_p := ho17.1) (t_p := ho17.2) (c_NT := NT_q hC c_NT hMx rfl) (n_p := (SN_q (SN_w n_p (by omega)) hMx rfl rfl))) (fun o V_q hq => ?_)
        obtain ⟨F84, rfl, rfl, hC85, hM86, -⟩ := hq
        have hM87 : Fq 0 [(2, 7), (2, 8), (2, 11), (20, -5), (21, -5), (2, 10), (7, 6), (7, 9)] m tg F F84 := Fq_t (ln := ln) (ln1 := ln) hMx Ex_r hM86 (by decide) (Or.inl rfl)
        refine Or.inl ⟨rfl, ?_⟩
        refine jx_go (tg := 248) rfl rfl ?_
        refine jx_rt (v := none) rfl rfl rfl rfl rfl rfl ?_
        exact ⟨F84, rfl, rfl, hC85, hM87, trivial⟩
      by_cases h88 : F (p) (0 : Int) = 10
      · refine jx_swe (tg := 210) h88 rfl rfl rfl rfl ?_
        refine jx_ld (pc_q := 211) (l_q := L) (st_q := [rv (me)]) rfl (jl_rvn gL_0) ?_
        refine jx_ld (pc_q := 212) (l_q := L) (st_q := [rv (p), rv (me)]) rfl (jl_rvn gL_1) ?_
        refine cx_vi (c := 1) (a := me) (st := []) (as := [rv (p)]) rfl rfl rfl o_me t_me (by decide) rfl ⟨rfl, rfl, (Nat.le_of_ble_eq_true rfl)⟩ rfl (k_LCoder_fork (dd := d) (R := R) (m := m) (tg := tg) (ln := ln) (F := Fx) (kk := kk) (hE := hE) (me := me) (p := p) (hd := by omega) (hC := hCx) (o_me := o_me) (t_me := t_me) (o_p := ho17.1) (t_p := ho17.2) (c_NT := NT_q hC c_NT hMx rfl) (n_p := (SN_q (SN_w n_p (by omega)) hMx rfl rfl))) (fun o V_q hq => ?_)
        obtain ⟨F89, rfl, rfl, hC90, hM91, -⟩ := hq
        have hM92 : Fq 0 [(2, 7), (2, 8), (2, 11), (20, -5), (21, -5), (2, 10), (7, 6), (7, 9)] m tg F F89 := Fq_t (ln := ln) (ln1 := ln) hMx Ex_r hM91 (by decide) (Or.inl rfl)
        refine Or.inl ⟨rfl, ?_⟩
        refine jx_go (tg := 248) rfl rfl ?_
        refine jx_rt (v := none) rfl rfl rfl rfl rfl rfl ?_
        exact ⟨F89, rfl, rfl, hC90, hM92, trivial⟩
      by_cases h93 : F (p) (0 : Int) = 11
      · refine jx_swe (tg := 194) h93 rfl rfl rfl rfl ?_
        refine jx_ld (pc_q := 195) (l_q := L) (st_q := [rv (me)]) rfl (jl_rvn gL_0) ?_
        refine jx_ld (pc_q := 196) (l_q := L) (st_q := [rv (p), rv (me)]) rfl (jl_rvn gL_1) ?_
        refine cx_vi (c := 1) (a := me) (st := []) (as := [rv (p)]) rfl rfl rfl o_me t_me (by decide) rfl ⟨rfl, rfl, (Nat.le_of_ble_eq_true rfl)⟩ rfl (k_LCoder_choose (dd := d) (R := R) (m := m) (tg := tg) (ln := ln) (F := Fx) (kk := kk) (hE := hE) (me := me) (p := p) (hd := by omega) (hC := hCx) (o_me := o_me) (t_me := t_me) (o_p := ho17.1) (t_p := ho17.2) (c_NT := NT_q hC c_NT hMx rfl) (n_p := (SN_q (SN_w n_p (by omega)) hMx rfl rfl))) (fun o V_q hq => ?_)
        obtain ⟨F94, rfl, rfl, hC95, hM96, -⟩ := hq
        have hM97 : Fq 0 [(2, 7), (2, 8), (2, 11), (20, -5), (21, -5), (2, 10), (7, 6), (7, 9)] m tg F F94 := Fq_t (ln := ln) (ln1 := ln) hMx Ex_r hM96 (by decide) (Or.inl rfl)
        refine Or.inl ⟨rfl, ?_⟩
        refine jx_go (tg := 248) rfl rfl ?_
        refine jx_rt (v := none) rfl rfl rfl rfl rfl rfl ?_
        exact ⟨F94, rfl, rfl, hC95, hM97, trivial⟩
      by_cases h98 : F (p) (0 : Int) = 12
      · refine jx_swe (tg := 202) h98 rfl rfl rfl rfl ?_
        refine jx_ld (pc_q := 203) (l_q := L) (st_q := [rv (me)]) rfl (jl_rvn gL_0) ?_
        refine jx_ld (pc_q := 204) (l_q := L) (st_q := [rv (p), rv (me)]) rfl (jl_rvn gL_1) ?_
        refine cx_vi (c := 1) (a := me) (st := []) (as := [rv (p)]) rfl rfl rfl o_me t_me (by decide) rfl ⟨rfl, rfl, (Nat.le_of_ble_eq_true rfl)⟩ rfl (k_LCoder_repeat (dd := d) (R := R) (m := m) (tg := tg) (ln := ln) (F := Fx) (kk := kk) (hE := hE) (me := me) (p := p) (hd := by omega) (hC := hCx) (o_me := o_me) (t_me := t_me) (o_p := ho17.1) (t_p := ho17.2) (c_NT := NT_q hC c_NT hMx rfl) (n_p := (SN_q (SN_w n_p (by omega)) hMx rfl rfl))) (fun o V_q hq => ?_)
        obtain ⟨F99, rfl, rfl, hC100, hM101, -⟩ := hq
        have hM102 : Fq 0 [(2, 7), (2, 8), (2, 11), (20, -5), (21, -5), (2, 10), (7, 6), (7, 9)] m tg F F99 := Fq_t (ln := ln) (ln1 := ln) hMx Ex_r hM101 (by decide) (Or.inl rfl)
        refine Or.inl ⟨rfl, ?_⟩
        refine jx_go (tg := 248) rfl rfl ?_
        refine jx_rt (v := none) rfl rfl rfl rfl rfl rfl ?_
        exact ⟨F99, rfl, rfl, hC100, hM102, trivial⟩
      by_cases h103 : F (p) (0 : Int) = 13
      · refine jx_swe (tg := 218) h103 rfl rfl rfl rfl ?_
        refine jx_ld (pc_q := 219) (l_q := L) (st_q := [rv (me)]) rfl (jl_rvn gL_0) ?_
        refine jx_ld (pc_q := 220) (l_q := L) (st_q := [rv (p), rv (me)]) rfl (jl_rvn gL_1) ?_
        refine cx_vi (c := 1) (a := me) (st := []) (as := [rv (p)]) rfl rfl rfl o_me t_me (by decide) rfl ⟨rfl, rfl, (Nat.le_of_ble_eq_true rfl)⟩ rfl (k_LCoder_alternative (dd := d) (R := R) (m := m) (tg := tg) (ln := ln) (F := Fx) (kk := kk) (hE := hE) (me := me) (p := p) (hd := by omega) (hC := hCx) (o_me := o_me) (t_me := t_me) (o_p := ho17.1) (t_p := ho17.2) (c_NT := NT_q hC c_NT hMx rfl) (n_p := (SN_q (SN_w n_p (by omega)) hMx rfl rfl))) (fun o V_q hq => ?_)
        obtain ⟨F104, rfl, rfl, hC105, hM106, -⟩ := hq
        have hM107 : Fq 0 [(2, 7), (2, 8), (2, 11), (20, -5), (21, -5), (2, 10), (7, 6), (7, 9)] m tg F F104 := Fq_t (ln := ln) (ln1 := ln) hMx Ex_r hM106 (by decide) (Or.inl rfl)
        refine Or.inl ⟨rfl, ?_⟩
        refine jx_go (tg := 248) rfl rfl ?_
        refine jx_rt (v := none) rfl rfl rfl rfl rfl rfl ?_
        exact ⟨F104, rfl, rfl, hC105, hM107, trivial⟩
      refine jx_swt (tg := 226) (by omega) (by omega) rfl (by omega) rfl ?_
      refine jx_ld (pc_q := 227) (l_q := L) (st_q := [rv (p)]) rfl (jl_rvn gL_1) ?_
      refine cx_gr (pc_q := 230) (c := 7) (q := 4) (v := F (p) (4 : Int)) rfl rfl (by decide) (by decide) rfl rfl ho17.1 ho17.2 (show Fx (p) (4 : Int) = F (p) (4 : Int) from hMx _ _ ho17.1 (own_z ho17.1) (by rw [ho17.2]; rfl)) ?_
      have y108 : F (p) (4 : Int) = 0 ∨ (own m (F (p) (4 : Int)) ∧ tg (F (p) (4 : Int)) = 8) := by have z := HC_r (c := 7) (q := 4) hCx ho17.1 ho17.2 (by decide) rfl; rw [show Fx (p) ((4 : Nat) : Int) = F (p) (4 : Int) from (show Fx (p) (4 : Int) = F (p) (4 : Int) from hMx _ _ ho17.1 (own_z ho17.1) (by rw [ho17.2]; rfl))] at z; exact z
      refine jx_ld (pc_q := 231) (l_q := jSto1 L 2 (rv (F (p) (4 : Int)))) (st_q := []) rfl (js_rvn (by decide)) ?_
      obtain ⟨L109, eL109⟩ : ∃ q : jL, q = jSto1 L 2 (rv (F (p) (4 : Int))) := ⟨_, rfl⟩
      rw [← eL109]
      have g110 : jGet L109 0 = some (rv (me)) := eL109 ▸ jg_nr (by decide) gL_0
      have g111 : jGet L109 1 = some (rv (p)) := eL109 ▸ jg_nr (by decide) gL_1
      have g112 : jGet L109 2 = some (rv (F (p) (4 : Int))) := eL109 ▸ jg_eq
      clear eL109
      exact k_LCoder_process_at_231 (X := X) (kk := kk) (hE := hE) (d := d) (R := R) (m := m) (tg := tg) (ln := ln) (F := F) (me := me) (p := p) (hd := hd) (hC := hC) (o_me := o_me) (t_me := t_me) (y_p := y_p) (c_NT := c_NT) (n_p := n_p) _ L109 Fx (F (p) (4 : Int)) rfl g110 g111 g112 hCx hMx y108 (by omega) (SN_w (SN_c hC c_NT n_p (own_z ho17.1) (by omega)) (by omega))
    · have _q := h15
      have ho113 : own m (nm) ∧ tg (nm) = 7 := yx_nm.resolve_left h15
      refine jx_ld (pc_q := 22) (l_q := L) (st_q := [rv (me)]) rfl (jl_rvn gL_0) ?_
      refine jx_ld (pc_q := 23) (l_q := L) (st_q := [rv (nm), rv (me)]) rfl (jl_rvn gL_2) ?_
      refine cx_vi (c := 1) (a := me) (st := []) (as := [rv (nm)]) rfl rfl rfl o_me t_me (by decide) rfl ⟨rfl, rfl, (Nat.le_of_ble_eq_true rfl)⟩ rfl (k_LCoder_declare (dd := d) (R := R) (m := m) (tg := tg) (ln := ln) (F := Fx) (me := me) (nm := nm) (hd := by omega) (hC := hCx) (o_me := o_me) (t_me := t_me) (o_nm := ho113.1) (t_nm := ho113.2)) (fun o V_q hq => ?_)
      obtain ⟨F114, rfl, rfl, hC115, hM116, -⟩ := hq
      have hM117 : Fq 0 [(2, 7), (2, 8), (2, 11), (20, -5), (21, -5), (2, 10), (7, 6), (7, 9)] m tg F F114 := Fq_t (ln := ln) (ln1 := ln) hMx Ex_r hM116 (by decide) (Or.inl rfl)
      refine Or.inl ⟨rfl, ?_⟩
      refine jx_ld (pc_q := 27) (l_q := L) (st_q := [rv (nm)]) rfl (jl_rvn gL_2) ?_
      refine cx_gr (pc_q := 30) (c := 6) (q := 14) (v := F (nm) (14 : Int)) rfl rfl (by decide) (by decide) rfl rfl ho113.1 ho113.2 ((show F114 (nm) (14 : Int) = Fx (nm) (14 : Int) from hM116 _ _ ho113.1 (own_z ho113.1) (by rw [ho113.2]; rfl)).trans (show Fx (nm) (14 : Int) = F (nm) (14 : Int) from hMx _ _ ho113.1 (own_z ho113.1) (by rw [ho113.2]; rfl))) ?_
      have y118 : F (nm) (14 : Int) = 0 ∨ (own m (F (nm) (14 : Int)) ∧ tg (F (nm) (14 : Int)) = 7) := by have z := HC_r (c := 6) (q := 14) hC115 ho113.1 ho113.2 (by decide) rfl; rw [show F114 (nm) ((14 : Nat) : Int) = F (nm) (14 : Int) from ((show F114 (nm) (14 : Int) = Fx (nm) (14 : Int) from hM116 _ _ ho113.1 (own_z ho113.1) (by rw [ho113.2]; rfl)).trans (show Fx (nm) (14 : Int) = F (nm) (14 : Int) from hMx _ _ ho113.1 (own_z ho113.1) (by rw [ho113.2]; rfl)))] at z; exact z
      have z119 := mz_a hC c_NT ho113.1 ho113.2
      refine jx_ld (pc_q := 31) (l_q := jSto1 L 2 (rv (F (nm) (14 : Int)))) (st_q := []) rfl (js_rvn (by decide)) ?_
      obtain ⟨L120, eL120⟩ : ∃ q : jL, q = jSto1 L 2 (rv (F (nm) (14 : Int))) := ⟨_, rfl⟩
      rw [← eL120]
      have g121 : jGet L120 0 = some (rv (me)) := eL120 ▸ jg_nr (by decide) gL_0
      have g122 : jGet L120 1 = some (rv (p)) := eL120 ▸ jg_nr (by decide) gL_1
      have g123 : jGet L120 2 = some (rv (F (nm) (14 : Int))) := eL120 ▸ jg_eq
      clear eL120
      refine jx_go (tg := 17) rfl rfl ?_
      exact ih _ (by omega) L120 F114 (F (nm) (14 : Int)) rfl g121 g122 g123 hC115 hM117 y118 (by omega)
set_option maxRecDepth 20000 in
set_option maxHeartbeats 4000000 in
theorem k_LCoder_process {X : jX} {kk : Nat} (hE : 1 ≤ kk → CPx X (kk - 1)) {dd : Nat} {R : Nat → jC} {m : Nat} {tg ln : Int → Int} {F : Int → Int → Int} {me p : Int} (hd : 3 * kk + 16 ≤ dd) (hC : HC 0 m tg ln F) (o_me : own m me) (t_me : tg me = 2) (y_p : p = 0 ∨ (own m p ∧ tg p = 8)) (c_NT : NT m tg F) (n_p : SN m tg F p (kk)) : wk X dd 66 [rv me, rv p] (cV R m tg ln F) (fun o V_q => ∃ (F_q : Int → Int → Int), V_q = cV R m tg ln F_q ∧ o = .inl none ∧ HC 0 m tg ln F_q ∧ Fq 0 [(2, 7), (2, 8), (2, 11), (20, -5), (21, -5), (2, 10), (7, 6), (7, 9)] m tg F F_q ∧ True) := by
  obtain ⟨d, rfl⟩ : ∃ d, dd = d + 1 := ⟨dd - 1, by omega⟩
  refine wk_of (e := jm66) rfl (by rw [jS_r, jS_r, jS_0]; exact Nat.le_of_ble_eq_true rfl) ?_
  rw [la_r, la_r, la_0]
  show wj X d jm66 (0, [(0, rv (me)), (1, rv (p))], [], cV R m tg ln F) _
  have hM0 : Fq 0 [(2, 7), (2, 8), (2, 11), (20, -5), (21, -5), (2, 10), (7, 6), (7, 9)] m tg F F := Fq_r
  obtain ⟨L0, eL0⟩ : ∃ q : jL, q = [(0, rv (me)), (1, rv (p))] := ⟨_, rfl⟩
  rw [← eL0]
  have g124 : jGet L0 0 = some (rv (me)) := eL0 ▸ (rfl : jGet [(0, rv (me)), (1, rv (p))] 0 = some (rv (me)))
  have g125 : jGet L0 1 = some (rv (p)) := eL0 ▸ (rfl : jGet [(0, rv (me)), (1, rv (p))] 1 = some (rv (p)))
  clear eL0
  refine jx_ld (pc_q := 1) (l_q := L0) (st_q := [rv (p)]) rfl (jl_rvn g125) ?_
  refine cx_nul (pc_q := 4) (tg_q := 11) rfl rfl rfl (fun h126 => ?_) (fun h126 => ?_)
  · have _q := h126
    refine jx_rt (v := none) rfl rfl rfl rfl rfl rfl ?_
    exact ⟨F, rfl, rfl, hC, hM0, trivial⟩
  · have _q := h126
    have ho127 : own m (p) ∧ tg (p) = 8 := y_p.resolve_left h126
    have k128 := SN_p n_p h126
    have hE129 := hE (by omega)
    refine jx_ld (pc_q := 5) (l_q := L0) (st_q := [rv (me)]) rfl (jl_rvn g124) ?_
    refine cx_gi (pc_q := 8) (c := 1) (q := 11) (v := F (me) (11 : Int)) rfl rfl (by decide) (by decide) (Or.inr rfl) rfl o_me t_me rfl ?_
    have b130 : (0 : Int) ≤ F (me) (11 : Int) ∧ F (me) (11 : Int) ≤ 1 := by have z := HC_i (c := 1) (q := 11) hC o_me t_me (by decide) rfl; rw [show F (me) ((11 : Nat) : Int) = F (me) (11 : Int) from rfl] at z; exact z
    refine jx_if_eq (pc_q := 11) (tg := 12) rfl rfl rfl (by omega) (by omega) (fun h131 => ?_) (fun h131 => ?_)
    · have _q := h131
      refine jx_ld (pc_q := 13) (l_q := L0) (st_q := [rv (p)]) rfl (jl_rvn g125) ?_
      refine cx_gr (pc_q := 16) (c := 7) (q := 9) (v := F (p) (9 : Int)) rfl rfl (by decide) (by decide) rfl rfl ho127.1 ho127.2 rfl ?_
      have y132 : F (p) (9 : Int) = 0 ∨ (own m (F (p) (9 : Int)) ∧ tg (F (p) (9 : Int)) = 7) := by have z := HC_r (c := 7) (q := 9) hC ho127.1 ho127.2 (by decide) rfl; rw [show F (p) ((9 : Nat) : Int) = F (p) (9 : Int) from rfl] at z; exact z
      refine jx_ld (pc_q := 17) (l_q := jSto1 L0 2 (rv (F (p) (9 : Int)))) (st_q := []) rfl (js_rvn (by decide)) ?_
      obtain ⟨L133, eL133⟩ : ∃ q : jL, q = jSto1 L0 2 (rv (F (p) (9 : Int))) := ⟨_, rfl⟩
      rw [← eL133]
      have g134 : jGet L133 0 = some (rv (me)) := eL133 ▸ jg_nr (by decide) g124
      have g135 : jGet L133 1 = some (rv (p)) := eL133 ▸ jg_nr (by decide) g125
      have g136 : jGet L133 2 = some (rv (F (p) (9 : Int))) := eL133 ▸ jg_eq
      clear eL133
      exact k_LCoder_process_at_17 (X := X) (kk := kk) (hE := hE) (d := d) (R := R) (m := m) (tg := tg) (ln := ln) (F := F) (me := me) (p := p) (hd := hd) (hC := hC) (o_me := o_me) (t_me := t_me) (y_p := y_p) (c_NT := c_NT) (n_p := n_p) _ L133 F (F (p) (9 : Int)) rfl g134 g135 g136 hC hM0 y132 (by omega)
    · have _q := h131
      refine jx_rt (v := none) rfl rfl rfl rfl rfl rfl ?_
      exact ⟨F, rfl, rfl, hC, hM0, trivial⟩
theorem CPx_all (X : jX) : ∀ k, CPx X k
  | 0 => @k_LCoder_process X 0 (fun h => absurd h (by decide))
  | k + 1 => @k_LCoder_process X (k + 1) (fun _ => CPx_all X k)
