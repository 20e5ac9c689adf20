set_option maxRecDepth 20000 in
set_option maxHeartbeats 4000000 in
theorem k_LMachine_count_at_4 {X : jX} {d : Nat} {R : Nat → jC} {m : Nat} {tg ln : Int → Int} {F : Int → Int → Int} {me : Int} (hd : 1 ≤ d + 1) (hC : HC 0 m tg ln F) (o_me : own m me) (t_me : tg me = 6) : ∀ (mm : Nat) (L : jL) (n p : Int), (6 - p).toNat = mm → jGet L 0 = some (rv (me)) → jGet L 1 = some (.int (i32 n)) → jGet L 2 = some (.int (i32 p)) → ((-2147483648 : Int) ≤ n ∧ n ≤ 2147483647) → ((-2147483648 : Int) ≤ p ∧ p ≤ 2147483647) → (0 ≤ p) → (p ≤ 6) → (0 ≤ n) → (n ≤ p) → wj X d jm142 (4, L, [], cV R m tg ln F) (fun o V_q => ∃ (r : Int), V_q = cV R m tg ln F ∧ o = .inl (some (.int (i32 r))) ∧ (0 ≤ r ∧ r ≤ 6) ∧ True) := by
  intro mm
  induction mm using Nat.strongRecOn with
  | ind mm ih =>
    intro L n p hmm gL_0 gL_1 gL_2 rx_n rx_p iv_0 iv_1 iv_2 iv_3
    refine jx_ld (pc_q := 5) (l_q := L) (st_q := [.int (i32 (p))]) rfl (jl_iloadn gL_2) ?_
    refine jx_ar (pc_q := 7) (st_q := [.int (i32 (6)), .int (i32 (p))]) rfl rfl rfl rfl ?_
    refine jx_icmp_ge (pc_q := 10) (tg := 33) rfl rfl rfl (by omega) (by omega) (by decide) (by decide) (fun h1 => ?_) (fun h1 => ?_)
    · have _q := h1
      refine jx_ld (pc_q := 34) (l_q := L) (st_q := [.int (i32 (n))]) rfl (jl_iloadn gL_1) ?_
      refine jx_rt (v := some (.int (i32 (n)))) rfl rfl rfl rfl rfl rfl ?_
      exact ⟨(n), rfl, rfl, by omega, trivial⟩
    · have _q := h1
      refine jx_ld (pc_q := 11) (l_q := L) (st_q := [.int (i32 (n))]) rfl (jl_iloadn gL_1) ?_
      refine jx_ld (pc_q := 12) (l_q := L) (st_q := [rv (me), .int (i32 (n))]) rfl (jl_rvn gL_0) ?_
      refine cx_gr (pc_q := 15) (c := 5) (q := 1) (v := F (me) (1 : Int)) rfl rfl (by decide) (by decide) rfl rfl o_me t_me rfl ?_
      have y2 : own m (F (me) (1 : Int)) ∧ tg (F (me) (1 : Int)) = 27 ∧ ((6 : Int) ≠ 0 → ln (F (me) (1 : Int)) = 6) := by have z := HC_n (c := 5) (q := 1) hC o_me t_me (own_z o_me) (by decide) rfl; rw [show F (me) ((1 : Nat) : Int) = F (me) (1 : Int) from rfl] at z; exact ⟨z.1, z.2.1, z.2.2.1⟩
      have ly2 : ln (F (me) (1 : Int)) = 6 := y2.2.2 (by decide)
      refine jx_ld (pc_q := 16) (l_q := L) (st_q := [.int (i32 (p)), rv (F (me) (1 : Int)), .int (i32 (n))]) rfl (jl_iloadn gL_2) ?_
      have b3 := HC_l hC y2.1 y2.2.1 (by decide)
      refine cx_aal (pc_q := 17) (z := p) rfl rfl y2.1 (by rw [y2.2.1]; decide) (by omega) (by omega) (by omega) ?_
      have y4 : F (F (me) (1 : Int)) (p) = 0 ∨ (own m (F (F (me) (1 : Int)) (p)) ∧ tg (F (F (me) (1 : Int)) (p)) = 3) := by have z := HC_er (j := p) hC y2.1 y2.2.1 (by decide) (by omega); exact z
      refine cx_non (pc_q := 20) (tg_q := 24) rfl rfl rfl (fun h5 => ?_) (fun h5 => ?_)
      · have _q := h5
        have ho6 : own m (F (F (me) (1 : Int)) (p)) ∧ tg (F (F (me) (1 : Int)) (p)) = 3 := y4.resolve_left h5
        refine jx_ar (pc_q := 25) (st_q := [.int (i32 (1)), .int (i32 (n))]) rfl rfl rfl rfl ?_
        refine jx_add (pc_q := 26) rfl rfl ?_
        refine jx_ld (pc_q := 27) (l_q := jSto1 L 1 (.int (i32 ((n + 1))))) (st_q := []) rfl rfl ?_
        obtain ⟨L7, eL7⟩ : ∃ q : jL, q = jSto1 L 1 (.int (i32 ((n + 1)))) := ⟨_, rfl⟩
        rw [← eL7]
        have g8 : jGet L7 0 = some (rv (me)) := eL7 ▸ jg_nr (by decide) gL_0
        have g9 : jGet L7 2 = some (.int (i32 (p))) := eL7 ▸ jg_ne (by decide) gL_2 rfl
        have g10 : jGet L7 1 = some (.int (i32 ((n + 1)))) := eL7 ▸ jg_eq
        clear eL7
        refine jx_inc (pc_q := 30) (l_q := jSto1 L7 2 (.int (i32 (p + (1))))) (x := p) rfl g9 (by decide) rfl rfl ?_
        obtain ⟨L11, eL11⟩ : ∃ q : jL, q = jSto1 L7 2 (.int (i32 ((p + (1))))) := ⟨_, rfl⟩
        rw [← eL11]
        have g12 : jGet L11 0 = some (rv (me)) := eL11 ▸ jg_nr (by decide) g8
        have g13 : jGet L11 1 = some (.int (i32 ((n + 1)))) := eL11 ▸ jg_ne (by decide) g10 rfl
        have g14 : jGet L11 2 = some (.int (i32 ((p + (1))))) := eL11 ▸ jg_eq
        clear eL11
        refine jx_go (tg := 4) rfl rfl ?_
        exact ih _ (by omega) L11 ((n + 1)) ((p + (1))) rfl g12 g13 g14 (by omega) (by omega) (by omega) (by omega) (by omega) (by omega)
      · have _q := h5
        refine jx_ar (pc_q := 21) (st_q := [.int (i32 (0)), .int (i32 (n))]) rfl rfl rfl rfl ?_
        refine jx_go (tg := 25) rfl rfl ?_
        refine jx_add (pc_q := 26) rfl rfl ?_
        refine jx_ld (pc_q := 27) (l_q := jSto1 L 1 (.int (i32 ((n + 0))))) (st_q := []) rfl rfl ?_
        obtain ⟨L15, eL15⟩ : ∃ q : jL, q = jSto1 L 1 (.int (i32 ((n + 0)))) := ⟨_, rfl⟩
        rw [← eL15]
        have g16 : jGet L15 0 = some (rv (me)) := eL15 ▸ jg_nr (by decide) gL_0
        have g17 : jGet L15 2 = some (.int (i32 (p))) := eL15 ▸ jg_ne (by decide) gL_2 rfl
        have g18 : jGet L15 1 = some (.int (i32 ((n + 0)))) := eL15 ▸ jg_eq
        clear eL15
        refine jx_inc (pc_q := 30) (l_q := jSto1 L15 2 (.int (i32 (p + (1))))) (x := p) rfl g17 (by decide) rfl rfl ?_
        obtain ⟨L19, eL19⟩ : ∃ q : jL, q = jSto1 L15 2 (.int (i32 ((p + (1))))) := ⟨_, rfl⟩
        rw [← eL19]
        have g20 : jGet L19 0 = some (rv (me)) := eL19 ▸ jg_nr (by decide) g16
        have g21 : jGet L19 1 = some (.int (i32 ((n + 0)))) := eL19 ▸ jg_ne (by decide) g18 rfl
        have g22 : jGet L19 2 = some (.int (i32 ((p + (1))))) := eL19 ▸ jg_eq
        clear eL19
        refine jx_go (tg := 4) rfl rfl ?_
        exact ih _ (by omega) L19 ((n + 0)) ((p + (1))) rfl g20 g21 g22 (by omega) (by omega) (by omega) (by omega) (by omega) (by omega)
set_option maxRecDepth 20000 in
set_option maxHeartbeats 4000000 in
theorem k_LMachine_count {X : jX} {dd : Nat} {R : Nat → jC} {m : Nat} {tg ln : Int → Int} {F : Int → Int → Int} {me : Int} (hd : 1 ≤ dd) (hC : HC 0 m tg ln F) (o_me : own m me) (t_me : tg me = 6) : wk X dd 142 [rv me] (cV R m tg ln F) (fun o V_q => ∃ (r : Int), V_q = cV R m tg ln F ∧ o = .inl (some (.int (i32 r))) ∧ (0 ≤ r ∧ r ≤ 6) ∧ True) := by
  obtain ⟨d, rfl⟩ : ∃ d, dd = d + 1 := ⟨dd - 1, by omega⟩
  refine wk_of (e := jm142) rfl (by rw [jS_r, jS_0]; exact Nat.le_of_ble_eq_true rfl) ?_
  rw [la_r, la_0]
  show wj X d jm142 (0, [(0, rv (me))], [], cV R m tg ln F) _
  obtain ⟨L0, eL0⟩ : ∃ q : jL, q = [(0, rv (me))] := ⟨_, rfl⟩
  rw [← eL0]
  have g23 : jGet L0 0 = some (rv (me)) := eL0 ▸ (rfl : jGet [(0, rv (me))] 0 = some (rv (me)))
  clear eL0
  refine jx_ar (pc_q := 1) (st_q := [.int (i32 (0))]) rfl rfl rfl rfl ?_
  refine jx_ld (pc_q := 2) (l_q := jSto1 L0 1 (.int (i32 (0)))) (st_q := []) rfl rfl ?_
  obtain ⟨L24, eL24⟩ : ∃ q : jL, q = jSto1 L0 1 (.int (i32 (0))) := ⟨_, rfl⟩
  rw [← eL24]
  have g25 : jGet L24 0 = some (rv (me)) := eL24 ▸ jg_nr (by decide) g23
  have g26 : jGet L24 1 = some (.int (i32 (0))) := eL24 ▸ jg_eq
  clear eL24
  refine jx_ar (pc_q := 3) (st_q := [.int (i32 (0))]) rfl rfl rfl rfl ?_
  refine jx_ld (pc_q := 4) (l_q := jSto1 L24 2 (.int (i32 (0)))) (st_q := []) rfl rfl ?_
  obtain ⟨L27, eL27⟩ : ∃ q : jL, q = jSto1 L24 2 (.int (i32 (0))) := ⟨_, rfl⟩
  rw [← eL27]
  have g28 : jGet L27 0 = some (rv (me)) := eL27 ▸ jg_nr (by decide) g25
  have g29 : jGet L27 1 = some (.int (i32 (0))) := eL27 ▸ jg_ne (by decide) g26 rfl
  have g30 : jGet L27 2 = some (.int (i32 (0))) := eL27 ▸ jg_eq
  clear eL27
  exact k_LMachine_count_at_4 (X := X) (d := d) (R := R) (m := m) (tg := tg) (ln := ln) (F := F) (me := me) (hd := hd) (hC := hC) (o_me := o_me) (t_me := t_me) _ L27 (0) (0) rfl g28 g29 g30 (by omega) (by omega) (by omega) (by omega) (by omega) (by omega)
set_option maxRecDepth 20000 in
set_option maxHeartbeats 4000000 in
theorem k_LMachine_carry {X : jX} {dd : Nat} {R : Nat → jC} {m : Nat} {tg ln : Int → Int} {F : Int → Int → Int} {me lk l : Int} (hd : 5 ≤ dd) (hC : HC 0 m tg ln F) (o_me : own m me) (t_me : tg me = 6) (o_lk : own m lk) (t_lk : tg lk = 5) (h_l : (-2147483648 : Int) ≤ l ∧ l ≤ 2147483647) : wk X dd 151 [rv me, rv lk, .int (i32 l)] (cV R m tg ln F) (fun o V_q => ∃ (F_q : Int → Int → Int), V_q = cV R m tg ln F_q ∧ o = .inl none ∧ HC 0 m tg ln F_q ∧ Fq 0 [(3, 16), (3, 17), (5, 2), (5, 3), (5, 4), (5, 5), (5, 6), (5, 7), (21, -5)] m tg F F_q ∧ True) := by
  obtain ⟨d, rfl⟩ : ∃ d, dd = d + 1 := ⟨dd - 1, by omega⟩
  refine wk_of (e := jm151) rfl (by rw [jS_r, jS_r, jS_i, jS_0]; exact Nat.le_of_ble_eq_true rfl) ?_
  rw [la_r, la_r, la_i, la_0]
  show wj X d jm151 (0, [(0, rv (me)), (1, rv (lk)), (2, .int (i32 (l)))], [], cV R m tg ln F) _
  have hM0 : Fq 0 [(3, 16), (3, 17), (5, 2), (5, 3), (5, 4), (5, 5), (5, 6), (5, 7), (21, -5)] m tg F F := Fq_r
  obtain ⟨L0, eL0⟩ : ∃ q : jL, q = [(0, rv (me)), (1, rv (lk)), (2, .int (i32 (l)))] := ⟨_, rfl⟩
  rw [← eL0]
  have g1 : jGet L0 0 = some (rv (me)) := eL0 ▸ (rfl : jGet [(0, rv (me)), (1, rv (lk)), (2, .int (i32 (l)))] 0 = some (rv (me)))
  have g2 : jGet L0 1 = some (rv (lk)) := eL0 ▸ (rfl : jGet [(0, rv (me)), (1, rv (lk)), (2, .int (i32 (l)))] 1 = some (rv (lk)))
  have g3 : jGet L0 2 = some (.int (i32 (l))) := eL0 ▸ (rfl : jGet [(0, rv (me)), (1, rv (lk)), (2, .int (i32 (l)))] 2 = some (.int (i32 (l))))
  clear eL0
  refine jx_ld (pc_q := 1) (l_q := L0) (st_q := [rv (lk)]) rfl (jl_rvn g2) ?_
  refine cx_gi (pc_q := 4) (c := 4) (q := 6) (v := F (lk) (6 : Int)) rfl rfl (by decide) (by decide) (Or.inr rfl) rfl o_lk t_lk rfl ?_
  have b4 : (0 : Int) ≤ F (lk) (6 : Int) ∧ F (lk) (6 : Int) ≤ 1 := by have z := HC_i (c := 4) (q := 6) hC o_lk t_lk (by decide) rfl; rw [show F (lk) ((6 : Nat) : Int) = F (lk) (6 : Int) from rfl] at z; exact z
  refine jx_if_ne (pc_q := 7) (tg := 77) rfl rfl rfl (by omega) (by omega) (fun h5 => ?_) (fun h5 => ?_)
  · have _q := h5
    refine jx_ld (pc_q := 78) (l_q := L0) (st_q := [rv (lk)]) rfl (jl_rvn g2) ?_
    refine jx_ar (pc_q := 79) (st_q := [.int (i32 (0)), rv (lk)]) rfl rfl rfl rfl ?_
    refine cx_pb (pc_q := 82) (c := 4) (q := 6) (qi := (6 : Int)) (z := 0) rfl rfl (by decide) (by decide) rfl rfl rfl (by decide) (by omega) rfl o_lk t_lk rfl ?_
    obtain ⟨F6, eF6⟩ : ∃ q, q = uF F (lk) (6 : Int) (0) := ⟨_, rfl⟩
    rw [← eF6]
    have hC7 : HC 0 m tg ln F6 := by rw [eF6]; exact HC_fi (c := 4) (q := 6) hC t_lk (by decide) rfl (by omega) (by omega) ⟨fun w => absurd w (by decide), fun w => absurd w (by decide)⟩
    have hM8 : Fq 0 [(3, 16), (3, 17), (5, 2), (5, 3), (5, 4), (5, 5), (5, 6), (5, 7), (21, -5)] m tg F F6 := by rw [eF6]; exact Fq_p hM0 t_lk (fun _ => rfl) rfl
    refine jx_ld (pc_q := 83) (l_q := L0) (st_q := [rv (lk)]) rfl (jl_rvn g2) ?_
    refine cx_gi (pc_q := 86) (c := 4) (q := 4) (v := F (lk) (4 : Int)) rfl rfl (by decide) (by decide) (Or.inl rfl) rfl o_lk t_lk (show F6 (lk) (4 : Int) = F (lk) (4 : Int) from by rw [eF6]; exact uF_j (by decide)) ?_
    have b9 : (-2147483648 : Int) ≤ F (lk) (4 : Int) ∧ F (lk) (4 : Int) ≤ 2147483647 := by have z := HC_i (c := 4) (q := 4) hC7 o_lk t_lk (by decide) rfl; rw [show F6 (lk) ((4 : Nat) : Int) = F (lk) (4 : Int) from (show F6 (lk) (4 : Int) = F (lk) (4 : Int) from by rw [eF6]; exact uF_j (by decide))] at z; exact z
    refine jx_ar (pc_q := 87) (st_q := [.int (i32 (4)), .int (i32 (F (lk) (4 : Int)))]) rfl rfl rfl rfl ?_
    refine jx_icmp_ge (pc_q := 90) (tg := 96) rfl rfl rfl (by omega) (by omega) (by decide) (by decide) (fun h10 => ?_) (fun h10 => ?_)
    · have _q := h10
      refine jx_ld (pc_q := 97) (l_q := L0) (st_q := [rv (lk)]) rfl (jl_rvn g2) ?_
      refine cx_vi (c := 4) (a := lk) (st := []) (as := []) rfl rfl rfl o_lk t_lk (by decide) rfl ⟨rfl, rfl, (Nat.le_of_ble_eq_true rfl)⟩ rfl (k_LLink_clear (dd := d) (R := R) (m := m) (tg := tg) (ln := ln) (F := F6) (me := lk) (hd := by omega) (hC := hC7) (o_me := o_lk) (t_me := t_lk)) (fun o V_q hq => ?_)
      obtain ⟨F11, rfl, rfl, hC12, hM13, -⟩ := hq
      have hM14 : Fq 0 [(3, 16), (3, 17), (5, 2), (5, 3), (5, 4), (5, 5), (5, 6), (5, 7), (21, -5)] m tg F F11 := Fq_t (ln := ln) (ln1 := ln) hM8 Ex_r hM13 (by decide) (Or.inl rfl)
      refine Or.inl ⟨rfl, ?_⟩
      refine jx_ld (pc_q := 101) (l_q := L0) (st_q := [rv (me)]) rfl (jl_rvn g1) ?_
      refine jx_ld (pc_q := 102) (l_q := L0) (st_q := [rv (lk), rv (me)]) rfl (jl_rvn g2) ?_
      refine cx_gi (pc_q := 105) (c := 4) (q := 0) (v := F (lk) (0 : Int)) rfl rfl (by decide) (by decide) (Or.inl rfl) rfl o_lk t_lk ((show F11 (lk) (0 : Int) = F6 (lk) (0 : Int) from hM13 _ _ o_lk (own_z o_lk) (by rw [t_lk]; rfl)).trans (show F6 (lk) (0 : Int) = F (lk) (0 : Int) from by rw [eF6]; exact uF_j (by decide))) ?_
      have b15 : (-2147483648 : Int) ≤ F (lk) (0 : Int) ∧ F (lk) (0 : Int) ≤ 2147483647 := by have z := HC_i (c := 4) (q := 0) hC12 o_lk t_lk (by decide) rfl; rw [show F11 (lk) ((0 : Nat) : Int) = F (lk) (0 : Int) from ((show F11 (lk) (0 : Int) = F6 (lk) (0 : Int) from hM13 _ _ o_lk (own_z o_lk) (by rw [t_lk]; rfl)).trans (show F6 (lk) (0 : Int) = F (lk) (0 : Int) from by rw [eF6]; exact uF_j (by decide)))] at z; exact z
      refine cx_vi (c := 5) (a := me) (st := []) (as := [.int (i32 (F (lk) (0 : Int)))]) rfl rfl rfl o_me t_me (by decide) rfl ⟨rfl, rfl, (Nat.le_of_ble_eq_true rfl)⟩ rfl (k_LMachine_coreAt (dd := d) (R := R) (m := m) (tg := tg) (ln := ln) (F := F11) (me := me) (a0 := F (lk) (0 : Int)) (hd := by omega) (hC := hC12) (o_me := o_me) (t_me := t_me) (h_a0 := by omega)) (fun o V_q hq => ?_)
      obtain ⟨r16, rfl, rfl, b17, -⟩ := hq
      refine Or.inr (Or.inl ⟨_, rfl, ?_⟩)
      refine jx_ld (pc_q := 109) (l_q := jSto1 L0 3 (rv (r16))) (st_q := []) rfl (js_rvn (by decide)) ?_
      obtain ⟨L18, eL18⟩ : ∃ q : jL, q = jSto1 L0 3 (rv (r16)) := ⟨_, rfl⟩
      rw [← eL18]
      have g19 : jGet L18 0 = some (rv (me)) := eL18 ▸ jg_nr (by decide) g1
      have g20 : jGet L18 1 = some (rv (lk)) := eL18 ▸ jg_nr (by decide) g2
      have g21 : jGet L18 2 = some (.int (i32 (l))) := eL18 ▸ jg_ne (by decide) g3 rfl
      have g22 : jGet L18 3 = some (rv (r16)) := eL18 ▸ jg_eq
      clear eL18
      refine jx_ld (pc_q := 110) (l_q := L18) (st_q := [rv (r16)]) rfl (jl_rvn g22) ?_
      refine cx_nul (pc_q := 113) (tg_q := 118) rfl rfl rfl (fun h23 => ?_) (fun h23 => ?_)
      · have _q := h23
        refine jx_rt (v := none) rfl rfl rfl rfl rfl rfl ?_
        exact ⟨F11, rfl, rfl, hC12, hM14, trivial⟩
      · have _q := h23
        have ho24 : own m (r16) ∧ tg (r16) = 3 := b17.resolve_left h23
        refine jx_ld (pc_q := 114) (l_q := L18) (st_q := [rv (r16)]) rfl (jl_rvn g22) ?_
        refine jx_ld (pc_q := 115) (l_q := L18) (st_q := [.int (i32 (l)), rv (r16)]) rfl (jl_iloadn g21) ?_
        refine cx_vi (c := 2) (a := r16) (st := []) (as := [.int (i32 (l))]) rfl rfl rfl ho24.1 ho24.2 (by decide) rfl ⟨rfl, rfl, (Nat.le_of_ble_eq_true rfl)⟩ rfl (k_LCore_release (dd := d) (R := R) (m := m) (tg := tg) (ln := ln) (F := F11) (me := r16) (a0 := l) (hd := by omega) (hC := hC12) (o_me := ho24.1) (t_me := ho24.2) (h_a0 := by omega)) (fun o V_q hq => ?_)
        obtain ⟨F25, rfl, rfl, hC26, hM27, -⟩ := hq
        have hM28 : Fq 0 [(3, 16), (3, 17), (5, 2), (5, 3), (5, 4), (5, 5), (5, 6), (5, 7), (21, -5)] m tg F F25 := Fq_t (ln := ln) (ln1 := ln) hM14 Ex_r hM27 (by decide) (Or.inl rfl)
        refine Or.inl ⟨rfl, ?_⟩
        refine jx_rt (v := none) rfl rfl rfl rfl rfl rfl ?_
        exact ⟨F25, rfl, rfl, hC26, hM28, trivial⟩
    · have _q := h10
      refine jx_ld (pc_q := 91) (l_q := L0) (st_q := [rv (lk)]) rfl (jl_rvn g2) ?_
      refine jx_ar (pc_q := 92) (st_q := [.int (i32 (1)), rv (lk)]) rfl rfl rfl rfl ?_
      refine cx_pb (pc_q := 95) (c := 4) (q := 7) (qi := (7 : Int)) (z := 1) rfl rfl (by decide) (by decide) rfl rfl rfl (by decide) (by omega) rfl o_lk t_lk rfl ?_
      obtain ⟨F29, eF29⟩ : ∃ q, q = uF F6 (lk) (7 : Int) (1) := ⟨_, rfl⟩
      rw [← eF29]
      have hC30 : HC 0 m tg ln F29 := by rw [eF29]; exact HC_fi (c := 4) (q := 7) hC7 t_lk (by decide) rfl (by omega) (by omega) ⟨fun w => absurd w (by decide), fun w => absurd w (by decide)⟩
      have hM31 : Fq 0 [(3, 16), (3, 17), (5, 2), (5, 3), (5, 4), (5, 5), (5, 6), (5, 7), (21, -5)] m tg F F29 := by rw [eF29]; exact Fq_p hM8 t_lk (fun _ => rfl) rfl
      refine jx_rt (v := none) rfl rfl rfl rfl rfl rfl ?_
      exact ⟨F29, rfl, rfl, hC30, hM31, trivial⟩
  · have _q := h5
    refine jx_ld (pc_q := 8) (l_q := L0) (st_q := [rv (lk)]) rfl (jl_rvn g2) ?_
    refine jx_ar (pc_q := 9) (st_q := [rv (lk), rv (lk)]) rfl rfl ja_dup rfl ?_
    refine cx_gi (pc_q := 12) (c := 4) (q := 4) (v := F (lk) (4 : Int)) rfl rfl (by decide) (by decide) (Or.inl rfl) rfl o_lk t_lk rfl ?_
    have b32 : (-2147483648 : Int) ≤ F (lk) (4 : Int) ∧ F (lk) (4 : Int) ≤ 2147483647 := by have z := HC_i (c := 4) (q := 4) hC o_lk t_lk (by decide) rfl; rw [show F (lk) ((4 : Nat) : Int) = F (lk) (4 : Int) from rfl] at z; exact z
    refine jx_ar (pc_q := 13) (st_q := [.int (i32 (1)), .int (i32 (F (lk) (4 : Int))), rv (lk)]) rfl rfl rfl rfl ?_
    refine jx_add (pc_q := 14) rfl rfl ?_
    obtain ⟨z33, ez33⟩ : ∃ q, q = (i32 ((F (lk) (4 : Int) + 1))).toInt := ⟨_, rfl⟩
    have bz33 : (-2147483648 : Int) ≤ z33 ∧ z33 ≤ 2147483647 := ez33 ▸ i32_rg _
    rw [show i32 ((F (lk) (4 : Int) + 1)) = i32 z33 by rw [ez33, i32_of]]
    clear ez33
    refine cx_pi (pc_q := 17) (c := 4) (q := 4) (qi := (4 : Int)) (z := z33) rfl rfl (by decide) (by decide) rfl rfl rfl (by decide) rfl o_lk t_lk rfl ?_
    obtain ⟨F34, eF34⟩ : ∃ q, q = uF F (lk) (4 : Int) (z33) := ⟨_, rfl⟩
    rw [← eF34]
    have hC35 : HC 0 m tg ln F34 := by rw [eF34]; exact HC_fi (c := 4) (q := 4) hC t_lk (by decide) rfl (by omega) (by omega) ⟨fun w => absurd w (by decide), fun w => absurd w (by decide)⟩
    have hM36 : Fq 0 [(3, 16), (3, 17), (5, 2), (5, 3), (5, 4), (5, 5), (5, 6), (5, 7), (21, -5)] m tg F F34 := by rw [eF34]; exact Fq_p hM0 t_lk (fun _ => rfl) rfl
    refine jx_ld (pc_q := 18) (l_q := L0) (st_q := [rv (lk)]) rfl (jl_rvn g2) ?_
    refine jx_ar (pc_q := 19) (st_q := [.int (i32 (0)), rv (lk)]) rfl rfl rfl rfl ?_
    refine cx_pb (pc_q := 22) (c := 4) (q := 7) (qi := (7 : Int)) (z := 0) rfl rfl (by decide) (by decide) rfl rfl rfl (by decide) (by omega) rfl o_lk t_lk rfl ?_
    obtain ⟨F37, eF37⟩ : ∃ q, q = uF F34 (lk) (7 : Int) (0) := ⟨_, rfl⟩
    rw [← eF37]
    have hC38 : HC 0 m tg ln F37 := by rw [eF37]; exact HC_fi (c := 4) (q := 7) hC35 t_lk (by decide) rfl (by omega) (by omega) ⟨fun w => absurd w (by decide), fun w => absurd w (by decide)⟩
    have hM39 : Fq 0 [(3, 16), (3, 17), (5, 2), (5, 3), (5, 4), (5, 5), (5, 6), (5, 7), (21, -5)] m tg F F37 := by rw [eF37]; exact Fq_p hM36 t_lk (fun _ => rfl) rfl
    refine jx_ld (pc_q := 23) (l_q := L0) (st_q := [rv (lk)]) rfl (jl_rvn g2) ?_
    refine jx_ld (pc_q := 24) (l_q := L0) (st_q := [rv (lk), rv (lk)]) rfl (jl_rvn g2) ?_
    refine cx_gi (pc_q := 27) (c := 4) (q := 4) (v := z33) rfl rfl (by decide) (by decide) (Or.inl rfl) rfl o_lk t_lk ((show F37 (lk) (4 : Int) = F34 (lk) (4 : Int) from by rw [eF37]; exact uF_j (by decide)).trans (show F34 (lk) (4 : Int) = z33 from by rw [eF34]; exact uF_e)) ?_
    refine jx_ar (pc_q := 28) (st_q := [.int (i32 (4)), .int (i32 (z33)), rv (lk)]) rfl rfl rfl rfl ?_
    refine jx_icmp_ge (pc_q := 31) (tg := 35) rfl rfl rfl (by omega) (by omega) (by decide) (by decide) (fun h40 => ?_) (fun h40 => ?_)
    · have _q := h40
      refine jx_ar (pc_q := 36) (st_q := [.int (i32 (0)), rv (lk)]) rfl rfl rfl rfl ?_
      refine cx_pb (pc_q := 39) (c := 4) (q := 6) (qi := (6 : Int)) (z := 0) rfl rfl (by decide) (by decide) rfl rfl rfl (by decide) (by omega) rfl o_lk t_lk rfl ?_
      obtain ⟨F41, eF41⟩ : ∃ q, q = uF F37 (lk) (6 : Int) (0) := ⟨_, rfl⟩
      rw [← eF41]
      have hC42 : HC 0 m tg ln F41 := by rw [eF41]; exact HC_fi (c := 4) (q := 6) hC38 t_lk (by decide) rfl (by omega) (by omega) ⟨fun w => absurd w (by decide), fun w => absurd w (by decide)⟩
      have hM43 : Fq 0 [(3, 16), (3, 17), (5, 2), (5, 3), (5, 4), (5, 5), (5, 6), (5, 7), (21, -5)] m tg F F41 := by rw [eF41]; exact Fq_p hM39 t_lk (fun _ => rfl) rfl
      refine jx_ld (pc_q := 40) (l_q := L0) (st_q := [rv (me)]) rfl (jl_rvn g1) ?_
      refine jx_ld (pc_q := 41) (l_q := L0) (st_q := [rv (lk), rv (me)]) rfl (jl_rvn g2) ?_
      refine cx_gi (pc_q := 44) (c := 4) (q := 1) (v := F (lk) (1 : Int)) rfl rfl (by decide) (by decide) (Or.inl rfl) rfl o_lk t_lk ((show F41 (lk) (1 : Int) = F37 (lk) (1 : Int) from by rw [eF41]; exact uF_j (by decide)).trans ((show F37 (lk) (1 : Int) = F34 (lk) (1 : Int) from by rw [eF37]; exact uF_j (by decide)).trans (show F34 (lk) (1 : Int) = F (lk) (1 : Int) from by rw [eF34]; exact uF_j (by decide)))) ?_
      have b44 : (-2147483648 : Int) ≤ F (lk) (1 : Int) ∧ F (lk) (1 : Int) ≤ 2147483647 := by have z := HC_i (c := 4) (q := 1) hC42 o_lk t_lk (by decide) rfl; rw [show F41 (lk) ((1 : Nat) : Int) = F (lk) (1 : Int) from ((show F41 (lk) (1 : Int) = F37 (lk) (1 : Int) from by rw [eF41]; exact uF_j (by decide)).trans ((show F37 (lk) (1 : Int) = F34 (lk) (1 : Int) from by rw [eF37]; exact uF_j (by decide)).trans (show F34 (lk) (1 : Int) = F (lk) (1 : Int) from by rw [eF34]; exact uF_j (by decide))))] at z; exact z
      refine cx_vi (c := 5) (a := me) (st := []) (as := [.int (i32 (F (lk) (1 : Int)))]) rfl rfl rfl o_me t_me (by decide) rfl ⟨rfl, rfl, (Nat.le_of_ble_eq_true rfl)⟩ rfl (k_LMachine_coreAt (dd := d) (R := R) (m := m) (tg := tg) (ln := ln) (F := F41) (me := me) (a0 := F (lk) (1 : Int)) (hd := by omega) (hC := hC42) (o_me := o_me) (t_me := t_me) (h_a0 := by omega)) (fun o V_q hq => ?_)
      obtain ⟨r45, rfl, rfl, b46, -⟩ := hq
      refine Or.inr (Or.inl ⟨_, rfl, ?_⟩)
      refine jx_ld (pc_q := 48) (l_q := jSto1 L0 3 (rv (r45))) (st_q := []) rfl (js_rvn (by decide)) ?_
      obtain ⟨L47, eL47⟩ : ∃ q : jL, q = jSto1 L0 3 (rv (r45)) := ⟨_, rfl⟩
      rw [← eL47]
      have g48 : jGet L47 0 = some (rv (me)) := eL47 ▸ jg_nr (by decide) g1
      have g49 : jGet L47 1 = some (rv (lk)) := eL47 ▸ jg_nr (by decide) g2
      have g50 : jGet L47 2 = some (.int (i32 (l))) := eL47 ▸ jg_ne (by decide) g3 rfl
      have g51 : jGet L47 3 = some (rv (r45)) := eL47 ▸ jg_eq
      clear eL47
      refine jx_ld (pc_q := 49) (l_q := L47) (st_q := [rv (lk)]) rfl (jl_rvn g49) ?_
      refine cx_gi (pc_q := 52) (c := 4) (q := 4) (v := z33) rfl rfl (by decide) (by decide) (Or.inl rfl) rfl o_lk t_lk ((show F41 (lk) (4 : Int) = F37 (lk) (4 : Int) from by rw [eF41]; exact uF_j (by decide)).trans ((show F37 (lk) (4 : Int) = F34 (lk) (4 : Int) from by rw [eF37]; exact uF_j (by decide)).trans (show F34 (lk) (4 : Int) = z33 from by rw [eF34]; exact uF_e))) ?_
      refine jx_ar (pc_q := 53) (st_q := [.int (i32 (4)), .int (i32 (z33))]) rfl rfl rfl rfl ?_
      refine jx_icmp_ne (pc_q := 56) (tg := 76) rfl rfl rfl (by omega) (by omega) (by decide) (by decide) (fun h52 => ?_) (fun h52 => ?_)
      · have _q := h52
        refine jx_rt (v := none) rfl rfl rfl rfl rfl rfl ?_
        exact ⟨F41, rfl, rfl, hC42, hM43, trivial⟩
      · have _q := h52
        refine jx_ld (pc_q := 57) (l_q := L47) (st_q := [rv (r45)]) rfl (jl_rvn g51) ?_
        refine cx_nul (pc_q := 60) (tg_q := 76) rfl rfl rfl (fun h53 => ?_) (fun h53 => ?_)
        · have _q := h53
          refine jx_rt (v := none) rfl rfl rfl rfl rfl rfl ?_
          exact ⟨F41, rfl, rfl, hC42, hM43, trivial⟩
        · have _q := h53
          have ho54 : own m (r45) ∧ tg (r45) = 3 := b46.resolve_left h53
          refine jx_ld (pc_q := 61) (l_q := L47) (st_q := [rv (r45)]) rfl (jl_rvn g51) ?_
          refine jx_ld (pc_q := 62) (l_q := L47) (st_q := [.int (i32 (l)), rv (r45)]) rfl (jl_iloadn g50) ?_
          refine jx_ld (pc_q := 63) (l_q := L47) (st_q := [rv (lk), .int (i32 (l)), rv (r45)]) rfl (jl_rvn g49) ?_
          refine cx_gi (pc_q := 66) (c := 4) (q := 2) (v := F (lk) (2 : Int)) rfl rfl (by decide) (by decide) (Or.inl rfl) rfl o_lk t_lk ((show F41 (lk) (2 : Int) = F37 (lk) (2 : Int) from by rw [eF41]; exact uF_j (by decide)).trans ((show F37 (lk) (2 : Int) = F34 (lk) (2 : Int) from by rw [eF37]; exact uF_j (by decide)).trans (show F34 (lk) (2 : Int) = F (lk) (2 : Int) from by rw [eF34]; exact uF_j (by decide)))) ?_
          have b55 : (-2147483648 : Int) ≤ F (lk) (2 : Int) ∧ F (lk) (2 : Int) ≤ 2147483647 := by have z := HC_i (c := 4) (q := 2) hC42 o_lk t_lk (by decide) rfl; rw [show F41 (lk) ((2 : Nat) : Int) = F (lk) (2 : Int) from ((show F41 (lk) (2 : Int) = F37 (lk) (2 : Int) from by rw [eF41]; exact uF_j (by decide)).trans ((show F37 (lk) (2 : Int) = F34 (lk) (2 : Int) from by rw [eF37]; exact uF_j (by decide)).trans (show F34 (lk) (2 : Int) = F (lk) (2 : Int) from by rw [eF34]; exact uF_j (by decide))))] at z; exact z
          refine cx_vi (c := 2) (a := r45) (st := []) (as := [.int (i32 (l)), .int (i32 (F (lk) (2 : Int)))]) rfl rfl rfl ho54.1 ho54.2 (by decide) rfl ⟨rfl, rfl, (Nat.le_of_ble_eq_true rfl)⟩ rfl (k_LCore_receive (dd := d) (R := R) (m := m) (tg := tg) (ln := ln) (F := F41) (me := r45) (a0 := l) (a1 := F (lk) (2 : Int)) (hd := by omega) (hC := hC42) (o_me := ho54.1) (t_me := ho54.2) (h_a0 := by omega) (h_a1 := by omega)) (fun o V_q hq => ?_)
          obtain ⟨F56, r57, rfl, rfl, hC58, hM59, b60, -⟩ := hq
          have hM61 : Fq 0 [(3, 16), (3, 17), (5, 2), (5, 3), (5, 4), (5, 5), (5, 6), (5, 7), (21, -5)] m tg F F56 := Fq_t (ln := ln) (ln1 := ln) hM43 Ex_r hM59 (by decide) (Or.inl rfl)
          refine Or.inr (Or.inl ⟨_, rfl, ?_⟩)
          refine jx_if_eq (pc_q := 72) (tg := 76) rfl rfl rfl (by omega) (by omega) (fun h62 => ?_) (fun h62 => ?_)
          · have _q := h62
            refine jx_rt (v := none) rfl rfl rfl rfl rfl rfl ?_
            exact ⟨F56, rfl, rfl, hC58, hM61, trivial⟩
          · have _q := h62
            refine jx_ld (pc_q := 73) (l_q := L47) (st_q := [rv (lk)]) rfl (jl_rvn g49) ?_
            refine cx_vi (c := 4) (a := lk) (st := []) (as := []) rfl rfl rfl o_lk t_lk (by decide) rfl ⟨rfl, rfl, (Nat.le_of_ble_eq_true rfl)⟩ rfl (k_LLink_take (dd := d) (R := R) (m := m) (tg := tg) (ln := ln) (F := F56) (me := lk) (hd := by omega) (hC := hC58) (o_me := o_lk) (t_me := t_lk)) (fun o V_q hq => ?_)
            obtain ⟨F63, rfl, rfl, hC64, hM65, -⟩ := hq
            have hM66 : Fq 0 [(3, 16), (3, 17), (5, 2), (5, 3), (5, 4), (5, 5), (5, 6), (5, 7), (21, -5)] m tg F F63 := Fq_t (ln := ln) (ln1 := ln) hM61 Ex_r hM65 (by decide) (Or.inl rfl)
            refine Or.inl ⟨rfl, ?_⟩
            refine jx_rt (v := none) rfl rfl rfl rfl rfl rfl ?_
            exact ⟨F63, rfl, rfl, hC64, hM66, trivial⟩
    · have _q := h40
      refine jx_ar (pc_q := 32) (st_q := [.int (i32 (1)), rv (lk)]) rfl rfl rfl rfl ?_
      refine jx_go (tg := 36) rfl rfl ?_
      refine cx_pb (pc_q := 39) (c := 4) (q := 6) (qi := (6 : Int)) (z := 1) rfl rfl (by decide) (by decide) rfl rfl rfl (by decide) (by omega) rfl o_lk t_lk rfl ?_
      obtain ⟨F67, eF67⟩ : ∃ q, q = uF F37 (lk) (6 : Int) (1) := ⟨_, rfl⟩
      rw [← eF67]
      have hC68 : HC 0 m tg ln F67 := by rw [eF67]; exact HC_fi (c := 4) (q := 6) hC38 t_lk (by decide) rfl (by omega) (by omega) ⟨fun w => absurd w (by decide), fun w => absurd w (by decide)⟩
      have hM69 : Fq 0 [(3, 16), (3, 17), (5, 2), (5, 3), (5, 4), (5, 5), (5, 6), (5, 7), (21, -5)] m tg F F67 := by rw [eF67]; exact Fq_p hM39 t_lk (fun _ => rfl) rfl
      refine jx_ld (pc_q := 40) (l_q := L0) (st_q := [rv (me)]) rfl (jl_rvn g1) ?_
      refine jx_ld (pc_q := 41) (l_q := L0) (st_q := [rv (lk), rv (me)]) rfl (jl_rvn g2) ?_
      refine cx_gi (pc_q := 44) (c := 4) (q := 1) (v := F (lk) (1 : Int)) rfl rfl (by decide) (by decide) (Or.inl rfl) rfl o_lk t_lk ((show F67 (lk) (1 : Int) = F37 (lk) (1 : Int) from by rw [eF67]; exact uF_j (by decide)).trans ((show F37 (lk) (1 : Int) = F34 (lk) (1 : Int) from by rw [eF37]; exact uF_j (by decide)).trans (show F34 (lk) (1 : Int) = F (lk) (1 : Int) from by rw [eF34]; exact uF_j (by decide)))) ?_
      have b70 : (-2147483648 : Int) ≤ F (lk) (1 : Int) ∧ F (lk) (1 : Int) ≤ 2147483647 := by have z := HC_i (c := 4) (q := 1) hC68 o_lk t_lk (by decide) rfl; rw [show F67 (lk) ((1 : Nat) : Int) = F (lk) (1 : Int) from ((show F67 (lk) (1 : Int) = F37 (lk) (1 : Int) from by rw [eF67]; exact uF_j (by decide)).trans ((show F37 (lk) (1 : Int) = F34 (lk) (1 : Int) from by rw [eF37]; exact uF_j (by decide)).trans (show F34 (lk) (1 : Int) = F (lk) (1 : Int) from by rw [eF34]; exact uF_j (by decide))))] at z; exact z
      refine cx_vi (c := 5) (a := me) (st := []) (as := [.int (i32 (F (lk) (1 : Int)))]) rfl rfl rfl o_me t_me (by decide) rfl ⟨rfl, rfl, (Nat.le_of_ble_eq_true rfl)⟩ rfl (k_LMachine_coreAt (dd := d) (R := R) (m := m) (tg := tg) (ln := ln) (F := F67) (me := me) (a0 := F (lk) (1 : Int)) (hd := by omega) (hC := hC68) (o_me := o_me) (t_me := t_me) (h_a0 := by omega)) (fun o V_q hq => ?_)
      obtain ⟨r71, rfl, rfl, b72, -⟩ := hq
      refine Or.inr (Or.inl ⟨_, rfl, ?_⟩)
      refine jx_ld (pc_q := 48) (l_q := jSto1 L0 3 (rv (r71))) (st_q := []) rfl (js_rvn (by decide)) ?_
      obtain ⟨L73, eL73⟩ : ∃ q : jL, q = jSto1 L0 3 (rv (r71)) := ⟨_, rfl⟩
      rw [← eL73]
      have g74 : jGet L73 0 = some (rv (me)) := eL73 ▸ jg_nr (by decide) g1
      have g75 : jGet L73 1 = some (rv (lk)) := eL73 ▸ jg_nr (by decide) g2
      have g76 : jGet L73 2 = some (.int (i32 (l))) := eL73 ▸ jg_ne (by decide) g3 rfl
      have g77 : jGet L73 3 = some (rv (r71)) := eL73 ▸ jg_eq
      clear eL73
      refine jx_ld (pc_q := 49) (l_q := L73) (st_q := [rv (lk)]) rfl (jl_rvn g75) ?_
      refine cx_gi (pc_q := 52) (c := 4) (q := 4) (v := z33) rfl rfl (by decide) (by decide) (Or.inl rfl) rfl o_lk t_lk ((show F67 (lk) (4 : Int) = F37 (lk) (4 : Int) from by rw [eF67]; exact uF_j (by decide)).trans ((show F37 (lk) (4 : Int) = F34 (lk) (4 : Int) from by rw [eF37]; exact uF_j (by decide)).trans (show F34 (lk) (4 : Int) = z33 from by rw [eF34]; exact uF_e))) ?_
      refine jx_ar (pc_q := 53) (st_q := [.int (i32 (4)), .int (i32 (z33))]) rfl rfl rfl rfl ?_
      refine jx_icmp_ne (pc_q := 56) (tg := 76) rfl rfl rfl (by omega) (by omega) (by decide) (by decide) (fun h78 => ?_) (fun h78 => ?_)
      · have _q := h78
        refine jx_rt (v := none) rfl rfl rfl rfl rfl rfl ?_
        exact ⟨F67, rfl, rfl, hC68, hM69, trivial⟩
      · have _q := h78
        refine jx_ld (pc_q := 57) (l_q := L73) (st_q := [rv (r71)]) rfl (jl_rvn g77) ?_
        refine cx_nul (pc_q := 60) (tg_q := 76) rfl rfl rfl (fun h79 => ?_) (fun h79 => ?_)
        · have _q := h79
          refine jx_rt (v := none) rfl rfl rfl rfl rfl rfl ?_
          exact ⟨F67, rfl, rfl, hC68, hM69, trivial⟩
        · have _q := h79
          have ho80 : own m (r71) ∧ tg (r71) = 3 := b72.resolve_left h79
          refine jx_ld (pc_q := 61) (l_q := L73) (st_q := [rv (r71)]) rfl (jl_rvn g77) ?_
          refine jx_ld (pc_q := 62) (l_q := L73) (st_q := [.int (i32 (l)), rv (r71)]) rfl (jl_iloadn g76) ?_
          refine jx_ld (pc_q := 63) (l_q := L73) (st_q := [rv (lk), .int (i32 (l)), rv (r71)]) rfl (jl_rvn g75) ?_
          refine cx_gi (pc_q := 66) (c := 4) (q := 2) (v := F (lk) (2 : Int)) rfl rfl (by decide) (by decide) (Or.inl rfl) rfl o_lk t_lk ((show F67 (lk) (2 : Int) = F37 (lk) (2 : Int) from by rw [eF67]; exact uF_j (by decide)).trans ((show F37 (lk) (2 : Int) = F34 (lk) (2 : Int) from by rw [eF37]; exact uF_j (by decide)).trans (show F34 (lk) (2 : Int) = F (lk) (2 : Int) from by rw [eF34]; exact uF_j (by decide)))) ?_
          have b81 : (-2147483648 : Int) ≤ F (lk) (2 : Int) ∧ F (lk) (2 : Int) ≤ 2147483647 := by have z := HC_i (c := 4) (q := 2) hC68 o_lk t_lk (by decide) rfl; rw [show F67 (lk) ((2 : Nat) : Int) = F (lk) (2 : Int) from ((show F67 (lk) (2 : Int) = F37 (lk) (2 : Int) from by rw [eF67]; exact uF_j (by decide)).trans ((show F37 (lk) (2 : Int) = F34 (lk) (2 : Int) from by rw [eF37]; exact uF_j (by decide)).trans (show F34 (lk) (2 : Int) = F (lk) (2 : Int) from by rw [eF34]; exact uF_j (by decide))))] at z; exact z
          refine cx_vi (c := 2) (a := r71) (st := []) (as := [.int (i32 (l)), .int (i32 (F (lk) (2 : Int)))]) rfl rfl rfl ho80.1 ho80.2 (by decide) rfl ⟨rfl, rfl, (Nat.le_of_ble_eq_true rfl)⟩ rfl (k_LCore_receive (dd := d) (R := R) (m := m) (tg := tg) (ln := ln) (F := F67) (me := r71) (a0 := l) (a1 := F (lk) (2 : Int)) (hd := by omega) (hC := hC68) (o_me := ho80.1) (t_me := ho80.2) (h_a0 := by omega) (h_a1 := by omega)) (fun o V_q hq => ?_)
          obtain ⟨F82, r83, rfl, rfl, hC84, hM85, b86, -⟩ := hq
          have hM87 : Fq 0 [(3, 16), (3, 17), (5, 2), (5, 3), (5, 4), (5, 5), (5, 6), (5, 7), (21, -5)] m tg F F82 := Fq_t (ln := ln) (ln1 := ln) hM69 Ex_r hM85 (by decide) (Or.inl rfl)
          refine Or.inr (Or.inl ⟨_, rfl, ?_⟩)
          refine jx_if_eq (pc_q := 72) (tg := 76) rfl rfl rfl (by omega) (by omega) (fun h88 => ?_) (fun h88 => ?_)
          · have _q := h88
            refine jx_rt (v := none) rfl rfl rfl rfl rfl rfl ?_
            exact ⟨F82, rfl, rfl, hC84, hM87, trivial⟩
          · have _q := h88
            refine jx_ld (pc_q := 73) (l_q := L73) (st_q := [rv (lk)]) rfl (jl_rvn g75) ?_
            refine cx_vi (c := 4) (a := lk) (st := []) (as := []) rfl rfl rfl o_lk t_lk (by decide) rfl ⟨rfl, rfl, (Nat.le_of_ble_eq_true rfl)⟩ rfl (k_LLink_take (dd := d) (R := R) (m := m) (tg := tg) (ln := ln) (F := F82) (me := lk) (hd := by omega) (hC := hC84) (o_me := o_lk) (t_me := t_lk)) (fun o V_q hq => ?_)
            obtain ⟨F89, rfl, rfl, hC90, hM91, -⟩ := hq
            have hM92 : Fq 0 [(3, 16), (3, 17), (5, 2), (5, 3), (5, 4), (5, 5), (5, 6), (5, 7), (21, -5)] m tg F F89 := Fq_t (ln := ln) (ln1 := ln) hM87 Ex_r hM91 (by decide) (Or.inl rfl)
            refine Or.inl ⟨rfl, ?_⟩
            refine jx_rt (v := none) rfl rfl rfl rfl rfl rfl ?_
            exact ⟨F89, rfl, rfl, hC90, hM92, trivial⟩
set_option maxRecDepth 20000 in
set_option maxHeartbeats 4000000 in
theorem k_LMachine_reset_at_60 {X : jX} {d : Nat} {R : Nat → jC} {m : Nat} {tg ln : Int → Int} {F : Int → Int → Int} {kk : Int} {me : Int} (hd : 3 ≤ d + 1) (hC : HC 0 m tg ln F) (o_me : own m me) (t_me : tg me = 6) (p_0 : 0 ≤ kk) (c_SB : SB m tg F (kk)) : ∀ (mm : Nat) (L : jL) (Fx : Int → Int → Int) (p : Int), (6 - p).toNat = mm → jGet L 0 = some (rv (me)) → jGet L 1 = some (.int (i32 p)) → HC 0 m tg ln Fx → Fq 0 [(3, 5), (3, 6), (3, 7), (3, 8), (3, 9), (3, 10), (3, 11), (3, 12), (3, 13), (3, 14), (3, 16), (3, 17), (3, 18), (3, 19), (3, 20), (5, 2), (5, 3), (5, 4), (5, 5), (5, 6), (5, 7), (6, 3), (6, 4), (6, 6), (6, 7), (6, 8), (21, -5)] m tg F Fx → ((-2147483648 : Int) ≤ p ∧ p ≤ 2147483647) → (0 ≤ p) → (p ≤ 6) → (SB m tg Fx (kk + 1)) → wj X d jm141 (60, L, [], cV R m tg ln Fx) (fun o V_q => ∃ (F_q : Int → Int → Int), V_q = cV R m tg ln F_q ∧ o = .inl none ∧ HC 0 m tg ln F_q ∧ Fq 0 [(3, 5), (3, 6), (3, 7), (3, 8), (3, 9), (3, 10), (3, 11), (3, 12), (3, 13), (3, 14), (3, 16), (3, 17), (3, 18), (3, 19), (3, 20), (5, 2), (5, 3), (5, 4), (5, 5), (5, 6), (5, 7), (6, 3), (6, 4), (6, 6), (6, 7), (6, 8), (21, -5)] m tg F F_q ∧ (SB m tg F_q (kk + 1)) ∧ True) := by
  intro mm
  induction mm using Nat.strongRecOn with
  | ind mm ih =>
    intro L Fx p hmm gL_0 gL_1 hCx hMx rx_p iv_0 iv_1 cx_SB
    refine jx_ld (pc_q := 61) (l_q := L) (st_q := [.int (i32 (p))]) rfl (jl_iloadn gL_1) ?_
    refine jx_ar (pc_q := 63) (st_q := [.int (i32 (6)), .int (i32 (p))]) rfl rfl rfl rfl ?_
    refine jx_icmp_ge (pc_q := 66) (tg := 90) rfl rfl rfl (by omega) (by omega) (by decide) (by decide) (fun h1 => ?_) (fun h1 => ?_)
    · have _q := h1
      refine jx_rt (v := none) rfl rfl rfl rfl rfl rfl ?_
      exact ⟨Fx, rfl, rfl, hCx, hMx, SB_m cx_SB (by omega), trivial⟩
    · have _q := h1
      refine jx_ld (pc_q := 67) (l_q := L) (st_q := [rv (me)]) rfl (jl_rvn gL_0) ?_
      refine cx_gr (pc_q := 70) (c := 5) (q := 1) (v := F (me) (1 : Int)) rfl rfl (by decide) (by decide) rfl rfl o_me t_me (show Fx (me) (1 : Int) = F (me) (1 : Int) from hMx _ _ o_me (own_z o_me) (by rw [t_me]; rfl)) ?_
      have y2 : own m (F (me) (1 : Int)) ∧ tg (F (me) (1 : Int)) = 27 ∧ ((6 : Int) ≠ 0 → ln (F (me) (1 : Int)) = 6) := by have z := HC_n (c := 5) (q := 1) hCx o_me t_me (own_z o_me) (by decide) rfl; rw [show Fx (me) ((1 : Nat) : Int) = F (me) (1 : Int) from (show Fx (me) (1 : Int) = F (me) (1 : Int) from hMx _ _ o_me (own_z o_me) (by rw [t_me]; rfl))] at z; exact ⟨z.1, z.2.1, z.2.2.1⟩
      have ly2 : ln (F (me) (1 : Int)) = 6 := y2.2.2 (by decide)
      refine jx_ld (pc_q := 71) (l_q := L) (st_q := [.int (i32 (p)), rv (F (me) (1 : Int))]) rfl (jl_iloadn gL_1) ?_
      have b3 := HC_l hCx y2.1 y2.2.1 (by decide)
      refine cx_aal (pc_q := 72) (z := p) rfl rfl y2.1 (by rw [y2.2.1]; decide) (by omega) (by omega) (by omega) ?_
      rw [show Fx (F (me) (1 : Int)) (p) = F (F (me) (1 : Int)) (p) from (show Fx (F (me) (1 : Int)) (p) = F (F (me) (1 : Int)) (p) from hMx _ _ y2.1 (own_z y2.1) (by rw [y2.2.1]; rfl))]
      have y4 : F (F (me) (1 : Int)) (p) = 0 ∨ (own m (F (F (me) (1 : Int)) (p)) ∧ tg (F (F (me) (1 : Int)) (p)) = 3) := by have z := HC_er (j := p) hCx y2.1 y2.2.1 (by decide) (by omega); rw [show Fx (F (me) (1 : Int)) (p) = F (F (me) (1 : Int)) (p) from (show Fx (F (me) (1 : Int)) (p) = F (F (me) (1 : Int)) (p) from hMx _ _ y2.1 (own_z y2.1) (by rw [y2.2.1]; rfl))] at z; exact z
      refine cx_nul (pc_q := 75) (tg_q := 84) rfl rfl rfl (fun h5 => ?_) (fun h5 => ?_)
      · have _q := h5
        refine jx_inc (pc_q := 87) (l_q := jSto1 L 1 (.int (i32 (p + (1))))) (x := p) rfl gL_1 (by decide) rfl rfl ?_
        obtain ⟨L6, eL6⟩ : ∃ q : jL, q = jSto1 L 1 (.int (i32 ((p + (1))))) := ⟨_, rfl⟩
        rw [← eL6]
        have g7 : jGet L6 0 = some (rv (me)) := eL6 ▸ jg_nr (by decide) gL_0
        have g8 : jGet L6 1 = some (.int (i32 ((p + (1))))) := eL6 ▸ jg_eq
        clear eL6
        refine jx_go (tg := 60) rfl rfl ?_
        exact ih _ (by omega) L6 Fx ((p + (1))) rfl g7 g8 hCx hMx (by omega) (by omega) (by omega) (SB_m cx_SB (by omega))
      · have _q := h5
        have ho9 : own m (F (F (me) (1 : Int)) (p)) ∧ tg (F (F (me) (1 : Int)) (p)) = 3 := y4.resolve_left h5
        refine jx_ld (pc_q := 76) (l_q := L) (st_q := [rv (me)]) rfl (jl_rvn gL_0) ?_
        refine cx_gr (pc_q := 79) (c := 5) (q := 1) (v := F (me) (1 : Int)) rfl rfl (by decide) (by decide) rfl rfl o_me t_me (show Fx (me) (1 : Int) = F (me) (1 : Int) from hMx _ _ o_me (own_z o_me) (by rw [t_me]; rfl)) ?_
        refine jx_ld (pc_q := 80) (l_q := L) (st_q := [.int (i32 (p)), rv (F (me) (1 : Int))]) rfl (jl_iloadn gL_1) ?_
        refine cx_aal (pc_q := 81) (z := p) rfl rfl y2.1 (by rw [y2.2.1]; decide) (by omega) (by omega) (by omega) ?_
        rw [show Fx (F (me) (1 : Int)) (p) = F (F (me) (1 : Int)) (p) from (show Fx (F (me) (1 : Int)) (p) = F (F (me) (1 : Int)) (p) from hMx _ _ y2.1 (own_z y2.1) (by rw [y2.2.1]; rfl))]
        refine cx_vi (c := 2) (a := F (F (me) (1 : Int)) (p)) (st := []) (as := []) rfl rfl rfl ho9.1 ho9.2 (by decide) rfl ⟨rfl, rfl, (Nat.le_of_ble_eq_true rfl)⟩ rfl (k_LCore_reset (dd := d) (R := R) (m := m) (tg := tg) (ln := ln) (F := Fx) (me := F (F (me) (1 : Int)) (p)) (hd := by omega) (hC := hCx) (o_me := ho9.1) (t_me := ho9.2)) (fun o V_q hq => ?_)
        obtain ⟨F10, rfl, rfl, hC11, hM12, -⟩ := hq
        have hM13 : Fq 0 [(3, 5), (3, 6), (3, 7), (3, 8), (3, 9), (3, 10), (3, 11), (3, 12), (3, 13), (3, 14), (3, 16), (3, 17), (3, 18), (3, 19), (3, 20), (5, 2), (5, 3), (5, 4), (5, 5), (5, 6), (5, 7), (6, 3), (6, 4), (6, 6), (6, 7), (6, 8), (21, -5)] m tg F F10 := Fq_t (ln := ln) (ln1 := ln) hMx Ex_r hM12 (by decide) (Or.inl rfl)
        have c14 : SB m tg F10 (kk + 1) := SB_q cx_SB hM12 rfl
        refine Or.inl ⟨rfl, ?_⟩
        refine jx_inc (pc_q := 87) (l_q := jSto1 L 1 (.int (i32 (p + (1))))) (x := p) rfl gL_1 (by decide) rfl rfl ?_
        obtain ⟨L15, eL15⟩ : ∃ q : jL, q = jSto1 L 1 (.int (i32 ((p + (1))))) := ⟨_, rfl⟩
        rw [← eL15]
        have g16 : jGet L15 0 = some (rv (me)) := eL15 ▸ jg_nr (by decide) gL_0
        have g17 : jGet L15 1 = some (.int (i32 ((p + (1))))) := eL15 ▸ jg_eq
        clear eL15
        refine jx_go (tg := 60) rfl rfl ?_
        exact ih _ (by omega) L15 F10 ((p + (1))) rfl g16 g17 hC11 hM13 (by omega) (by omega) (by omega) (SB_m c14 (by omega))
set_option maxRecDepth 20000 in
set_option maxHeartbeats 4000000 in
theorem k_LMachine_reset_at_27 {X : jX} {d : Nat} {R : Nat → jC} {m : Nat} {tg ln : Int → Int} {F : Int → Int → Int} {kk : Int} {me : Int} (hd : 3 ≤ d + 1) (hC : HC 0 m tg ln F) (o_me : own m me) (t_me : tg me = 6) (p_0 : 0 ≤ kk) (c_SB : SB m tg F (kk)) : ∀ (mm : Nat) (L : jL) (Fx : Int → Int → Int) (l : Int), (12 - l).toNat = mm → jGet L 0 = some (rv (me)) → jGet L 1 = some (.int (i32 l)) → HC 0 m tg ln Fx → Fq 0 [(3, 5), (3, 6), (3, 7), (3, 8), (3, 9), (3, 10), (3, 11), (3, 12), (3, 13), (3, 14), (3, 16), (3, 17), (3, 18), (3, 19), (3, 20), (5, 2), (5, 3), (5, 4), (5, 5), (5, 6), (5, 7), (6, 3), (6, 4), (6, 6), (6, 7), (6, 8), (21, -5)] m tg F Fx → ((-2147483648 : Int) ≤ l ∧ l ≤ 2147483647) → (0 ≤ l) → (l ≤ 12) → (SB m tg Fx (kk + 1)) → wj X d jm141 (27, L, [], cV R m tg ln Fx) (fun o V_q => ∃ (F_q : Int → Int → Int), V_q = cV R m tg ln F_q ∧ o = .inl none ∧ HC 0 m tg ln F_q ∧ Fq 0 [(3, 5), (3, 6), (3, 7), (3, 8), (3, 9), (3, 10), (3, 11), (3, 12), (3, 13), (3, 14), (3, 16), (3, 17), (3, 18), (3, 19), (3, 20), (5, 2), (5, 3), (5, 4), (5, 5), (5, 6), (5, 7), (6, 3), (6, 4), (6, 6), (6, 7), (6, 8), (21, -5)] m tg F F_q ∧ (SB m tg F_q (kk + 1)) ∧ True) := by
  intro mm
  induction mm using Nat.strongRecOn with
  | ind mm ih =>
    intro L Fx l hmm gL_0 gL_1 hCx hMx rx_l iv_0 iv_1 cx_SB
    refine jx_ld (pc_q := 28) (l_q := L) (st_q := [.int (i32 (l))]) rfl (jl_iloadn gL_1) ?_
    refine jx_ld (pc_q := 29) (l_q := L) (st_q := [rv (me), .int (i32 (l))]) rfl (jl_rvn gL_0) ?_
    refine cx_gr (pc_q := 32) (c := 5) (q := 0) (v := F (me) (0 : Int)) rfl rfl (by decide) (by decide) rfl rfl o_me t_me (show Fx (me) (0 : Int) = F (me) (0 : Int) from hMx _ _ o_me (own_z o_me) (by rw [t_me]; rfl)) ?_
    have y18 : own m (F (me) (0 : Int)) ∧ tg (F (me) (0 : Int)) = 10 ∧ ((0 : Int) ≠ 0 → ln (F (me) (0 : Int)) = 0) := by have z := HC_n (c := 5) (q := 0) hCx o_me t_me (own_z o_me) (by decide) rfl; rw [show Fx (me) ((0 : Nat) : Int) = F (me) (0 : Int) from (show Fx (me) (0 : Int) = F (me) (0 : Int) from hMx _ _ o_me (own_z o_me) (by rw [t_me]; rfl))] at z; exact ⟨z.1, z.2.1, z.2.2.1⟩
    refine cx_gi (pc_q := 35) (c := 9) (q := 7) (v := F (F (me) (0 : Int)) (7 : Int)) rfl rfl (by decide) (by decide) (Or.inl rfl) rfl y18.1 y18.2.1 (show Fx (F (me) (0 : Int)) (7 : Int) = F (F (me) (0 : Int)) (7 : Int) from hMx _ _ y18.1 (own_z y18.1) (by rw [y18.2.1]; rfl)) ?_
    have b19 : (0 : Int) ≤ F (F (me) (0 : Int)) (7 : Int) ∧ F (F (me) (0 : Int)) (7 : Int) ≤ 12 := by have z := HC_i (c := 9) (q := 7) hCx y18.1 y18.2.1 (by decide) rfl; rw [show Fx (F (me) (0 : Int)) ((7 : Nat) : Int) = F (F (me) (0 : Int)) (7 : Int) from (show Fx (F (me) (0 : Int)) (7 : Int) = F (F (me) (0 : Int)) (7 : Int) from hMx _ _ y18.1 (own_z y18.1) (by rw [y18.2.1]; rfl))] at z; exact z
    refine jx_icmp_ge (pc_q := 38) (tg := 58) rfl rfl rfl (by omega) (by omega) (by omega) (by omega) (fun h20 => ?_) (fun h20 => ?_)
    · have _q := h20
      refine jx_ar (pc_q := 59) (st_q := [.int (i32 (0))]) rfl rfl rfl rfl ?_
      refine jx_ld (pc_q := 60) (l_q := jSto1 L 1 (.int (i32 (0)))) (st_q := []) rfl rfl ?_
      obtain ⟨L21, eL21⟩ : ∃ q : jL, q = jSto1 L 1 (.int (i32 (0))) := ⟨_, rfl⟩
      rw [← eL21]
      have g22 : jGet L21 0 = some (rv (me)) := eL21 ▸ jg_nr (by decide) gL_0
      have g23 : jGet L21 1 = some (.int (i32 (0))) := eL21 ▸ jg_eq
      clear eL21
      exact k_LMachine_reset_at_60 (X := X) (d := d) (R := R) (m := m) (tg := tg) (ln := ln) (F := F) (kk := kk) (me := me) (hd := hd) (hC := hC) (o_me := o_me) (t_me := t_me) (p_0 := p_0) (c_SB := c_SB) _ L21 Fx (0) rfl g22 g23 hCx hMx (by omega) (by omega) (by omega) (SB_m cx_SB (by omega))
    · have _q := h20
      refine jx_ld (pc_q := 39) (l_q := L) (st_q := [rv (me)]) rfl (jl_rvn gL_0) ?_
      refine jx_ld (pc_q := 40) (l_q := L) (st_q := [.int (i32 (l)), rv (me)]) rfl (jl_iloadn gL_1) ?_
      refine cx_vi (c := 5) (a := me) (st := []) (as := [.int (i32 (l))]) rfl rfl rfl o_me t_me (by decide) rfl ⟨rfl, rfl, (Nat.le_of_ble_eq_true rfl)⟩ rfl (k_LMachine_linkAt (dd := d) (R := R) (m := m) (tg := tg) (ln := ln) (F := Fx) (me := me) (a0 := l) (hd := by omega) (hC := hCx) (o_me := o_me) (t_me := t_me) (h_a0 := by omega)) (fun o V_q hq => ?_)
      obtain ⟨r24, rfl, rfl, b25, -⟩ := hq
      refine Or.inr (Or.inl ⟨_, rfl, ?_⟩)
      refine jx_ld (pc_q := 44) (l_q := jSto1 L 2 (rv (r24))) (st_q := []) rfl (js_rvn (by decide)) ?_
      obtain ⟨L26, eL26⟩ : ∃ q : jL, q = jSto1 L 2 (rv (r24)) := ⟨_, rfl⟩
      rw [← eL26]
      have g27 : jGet L26 0 = some (rv (me)) := eL26 ▸ jg_nr (by decide) gL_0
      have g28 : jGet L26 1 = some (.int (i32 (l))) := eL26 ▸ jg_ne (by decide) gL_1 rfl
      have g29 : jGet L26 2 = some (rv (r24)) := eL26 ▸ jg_eq
      clear eL26
      refine jx_ld (pc_q := 45) (l_q := L26) (st_q := [rv (r24)]) rfl (jl_rvn g29) ?_
      refine cx_nul (pc_q := 48) (tg_q := 52) rfl rfl rfl (fun h30 => ?_) (fun h30 => ?_)
      · have _q := h30
        refine jx_inc (pc_q := 55) (l_q := jSto1 L26 1 (.int (i32 (l + (1))))) (x := l) rfl g28 (by decide) rfl rfl ?_
        obtain ⟨L31, eL31⟩ : ∃ q : jL, q = jSto1 L26 1 (.int (i32 ((l + (1))))) := ⟨_, rfl⟩
        rw [← eL31]
        have g32 : jGet L31 0 = some (rv (me)) := eL31 ▸ jg_nr (by decide) g27
        have g33 : jGet L31 2 = some (rv (r24)) := eL31 ▸ jg_nr (by decide) g29
        have g34 : jGet L31 1 = some (.int (i32 ((l + (1))))) := eL31 ▸ jg_eq
        clear eL31
        refine jx_go (tg := 27) rfl rfl ?_
        exact ih _ (by omega) L31 Fx ((l + (1))) rfl g32 g34 hCx hMx (by omega) (by omega) (by omega) (SB_m cx_SB (by omega))
      · have _q := h30
        have ho35 : own m (r24) ∧ tg (r24) = 5 := b25.resolve_left h30
        refine jx_ld (pc_q := 49) (l_q := L26) (st_q := [rv (r24)]) rfl (jl_rvn g29) ?_
        refine cx_vi (c := 4) (a := r24) (st := []) (as := []) rfl rfl rfl ho35.1 ho35.2 (by decide) rfl ⟨rfl, rfl, (Nat.le_of_ble_eq_true rfl)⟩ rfl (k_LLink_clear (dd := d) (R := R) (m := m) (tg := tg) (ln := ln) (F := Fx) (me := r24) (hd := by omega) (hC := hCx) (o_me := ho35.1) (t_me := ho35.2)) (fun o V_q hq => ?_)
        obtain ⟨F36, rfl, rfl, hC37, hM38, -⟩ := hq
        have hM39 : Fq 0 [(3, 5), (3, 6), (3, 7), (3, 8), (3, 9), (3, 10), (3, 11), (3, 12), (3, 13), (3, 14), (3, 16), (3, 17), (3, 18), (3, 19), (3, 20), (5, 2), (5, 3), (5, 4), (5, 5), (5, 6), (5, 7), (6, 3), (6, 4), (6, 6), (6, 7), (6, 8), (21, -5)] m tg F F36 := Fq_t (ln := ln) (ln1 := ln) hMx Ex_r hM38 (by decide) (Or.inl rfl)
        have c40 : SB m tg F36 (kk + 1) := SB_q cx_SB hM38 rfl
        refine Or.inl ⟨rfl, ?_⟩
        refine jx_inc (pc_q := 55) (l_q := jSto1 L26 1 (.int (i32 (l + (1))))) (x := l) rfl g28 (by decide) rfl rfl ?_
        obtain ⟨L41, eL41⟩ : ∃ q : jL, q = jSto1 L26 1 (.int (i32 ((l + (1))))) := ⟨_, rfl⟩
        rw [← eL41]
        have g42 : jGet L41 0 = some (rv (me)) := eL41 ▸ jg_nr (by decide) g27
        have g43 : jGet L41 2 = some (rv (r24)) := eL41 ▸ jg_nr (by decide) g29
        have g44 : jGet L41 1 = some (.int (i32 ((l + (1))))) := eL41 ▸ jg_eq
        clear eL41
        refine jx_go (tg := 27) rfl rfl ?_
        exact ih _ (by omega) L41 F36 ((l + (1))) rfl g42 g44 hC37 hM39 (by omega) (by omega) (by omega) (SB_m c40 (by omega))
set_option maxRecDepth 20000 in
set_option maxHeartbeats 4000000 in
theorem k_LMachine_reset {X : jX} {dd : Nat} {R : Nat → jC} {m : Nat} {tg ln : Int → Int} {F : Int → Int → Int} {kk : Int} {me : Int} (hd : 3 ≤ dd) (hC : HC 0 m tg ln F) (o_me : own m me) (t_me : tg me = 6) (p_0 : 0 ≤ kk) (c_SB : SB m tg F (kk)) : wk X dd 141 [rv me] (cV R m tg ln F) (fun o V_q => ∃ (F_q : Int → Int → Int), V_q = cV R m tg ln F_q ∧ o = .inl none ∧ HC 0 m tg ln F_q ∧ Fq 0 [(3, 5), (3, 6), (3, 7), (3, 8), (3, 9), (3, 10), (3, 11), (3, 12), (3, 13), (3, 14), (3, 16), (3, 17), (3, 18), (3, 19), (3, 20), (5, 2), (5, 3), (5, 4), (5, 5), (5, 6), (5, 7), (6, 3), (6, 4), (6, 6), (6, 7), (6, 8), (21, -5)] m tg F F_q ∧ (SB m tg F_q (kk + 1)) ∧ True) := by
  obtain ⟨d, rfl⟩ : ∃ d, dd = d + 1 := ⟨dd - 1, by omega⟩
  refine wk_of (e := jm141) rfl (by rw [jS_r, jS_0]; exact Nat.le_of_ble_eq_true rfl) ?_
  rw [la_r, la_0]
  show wj X d jm141 (0, [(0, rv (me))], [], cV R m tg ln F) _
  have hM0 : Fq 0 [(3, 5), (3, 6), (3, 7), (3, 8), (3, 9), (3, 10), (3, 11), (3, 12), (3, 13), (3, 14), (3, 16), (3, 17), (3, 18), (3, 19), (3, 20), (5, 2), (5, 3), (5, 4), (5, 5), (5, 6), (5, 7), (6, 3), (6, 4), (6, 6), (6, 7), (6, 8), (21, -5)] m tg F F := Fq_r
  obtain ⟨L0, eL0⟩ : ∃ q : jL, q = [(0, rv (me))] := ⟨_, rfl⟩
  rw [← eL0]
  have g45 : jGet L0 0 = some (rv (me)) := eL0 ▸ (rfl : jGet [(0, rv (me))] 0 = some (rv (me)))
  clear eL0
  refine jx_ld (pc_q := 1) (l_q := L0) (st_q := [rv (me)]) rfl (jl_rvn g45) ?_
  refine jx_ar (pc_q := 2) (st_q := [.int (i32 (0)), rv (me)]) rfl rfl rfl rfl ?_
  refine cx_pi (pc_q := 5) (c := 5) (q := 3) (qi := (3 : Int)) (z := 0) rfl rfl (by decide) (by decide) rfl rfl rfl (by decide) rfl o_me t_me rfl ?_
  obtain ⟨F46, eF46⟩ : ∃ q, q = uF F (me) (3 : Int) (0) := ⟨_, rfl⟩
  rw [← eF46]
  have hC47 : HC 0 m tg ln F46 := by rw [eF46]; exact HC_fi (c := 5) (q := 3) hC t_me (by decide) rfl (by omega) (by omega) ⟨fun w => absurd w (by decide), fun w => absurd w (by decide)⟩
  have hM48 : Fq 0 [(3, 5), (3, 6), (3, 7), (3, 8), (3, 9), (3, 10), (3, 11), (3, 12), (3, 13), (3, 14), (3, 16), (3, 17), (3, 18), (3, 19), (3, 20), (5, 2), (5, 3), (5, 4), (5, 5), (5, 6), (5, 7), (6, 3), (6, 4), (6, 6), (6, 7), (6, 8), (21, -5)] m tg F F46 := by rw [eF46]; exact Fq_p hM0 t_me (fun _ => rfl) rfl
  have c49 : SB m tg F46 (kk) := by rw [eF46]; exact SB_u c_SB t_me (by omega)
  refine jx_ld (pc_q := 6) (l_q := L0) (st_q := [rv (me)]) rfl (jl_rvn g45) ?_
  refine jx_ar (pc_q := 7) (st_q := [.int (i32 (0)), rv (me)]) rfl rfl rfl rfl ?_
  refine cx_pi (pc_q := 10) (c := 5) (q := 4) (qi := (4 : Int)) (z := 0) rfl rfl (by decide) (by decide) rfl rfl rfl (by decide) rfl o_me t_me rfl ?_
  obtain ⟨F50, eF50⟩ : ∃ q, q = uF F46 (me) (4 : Int) (0) := ⟨_, rfl⟩
  rw [← eF50]
  have hC51 : HC 0 m tg ln F50 := by rw [eF50]; exact HC_fi (c := 5) (q := 4) hC47 t_me (by decide) rfl (by omega) (by omega) ⟨fun w => absurd w (by decide), fun w => absurd w (by decide)⟩
  have hM52 : Fq 0 [(3, 5), (3, 6), (3, 7), (3, 8), (3, 9), (3, 10), (3, 11), (3, 12), (3, 13), (3, 14), (3, 16), (3, 17), (3, 18), (3, 19), (3, 20), (5, 2), (5, 3), (5, 4), (5, 5), (5, 6), (5, 7), (6, 3), (6, 4), (6, 6), (6, 7), (6, 8), (21, -5)] m tg F F50 := by rw [eF50]; exact Fq_p hM48 t_me (fun _ => rfl) rfl
  have c53 : SB m tg F50 (kk) := by rw [eF50]; exact SB_u c49 t_me (by omega)
  refine jx_ld (pc_q := 11) (l_q := L0) (st_q := [rv (me)]) rfl (jl_rvn g45) ?_
  refine jx_ar (pc_q := 12) (st_q := [.int (i32 (0)), rv (me)]) rfl rfl rfl rfl ?_
  refine cx_pi (pc_q := 15) (c := 5) (q := 6) (qi := (6 : Int)) (z := 0) rfl rfl (by decide) (by decide) rfl rfl rfl (by decide) rfl o_me t_me rfl ?_
  obtain ⟨F54, eF54⟩ : ∃ q, q = uF F50 (me) (6 : Int) (0) := ⟨_, rfl⟩
  rw [← eF54]
  have hC55 : HC 0 m tg ln F54 := by rw [eF54]; exact HC_fi (c := 5) (q := 6) hC51 t_me (by decide) rfl (by omega) (by omega) ⟨fun w => absurd w (by decide), fun w => absurd w (by decide)⟩
  have hM56 : Fq 0 [(3, 5), (3, 6), (3, 7), (3, 8), (3, 9), (3, 10), (3, 11), (3, 12), (3, 13), (3, 14), (3, 16), (3, 17), (3, 18), (3, 19), (3, 20), (5, 2), (5, 3), (5, 4), (5, 5), (5, 6), (5, 7), (6, 3), (6, 4), (6, 6), (6, 7), (6, 8), (21, -5)] m tg F F54 := by rw [eF54]; exact Fq_p hM52 t_me (fun _ => rfl) rfl
  have c57 : SB m tg F54 (kk + 1) := by rw [eF54]; exact SB_p c53 (by have z := c53 _ o_me t_me; rw [show F50 (me) (6 : Int) = F (me) (6 : Int) from ((show F50 (me) (6 : Int) = F46 (me) (6 : Int) from by rw [eF50]; exact uF_j (by decide)).trans (show F46 (me) (6 : Int) = F (me) (6 : Int) from by rw [eF46]; exact uF_j (by decide)))] at z; omega)
  refine jx_ld (pc_q := 16) (l_q := L0) (st_q := [rv (me)]) rfl (jl_rvn g45) ?_
  refine jx_ar (pc_q := 17) (st_q := [.int (i32 (0)), rv (me)]) rfl rfl rfl rfl ?_
  refine cx_pi (pc_q := 20) (c := 5) (q := 7) (qi := (7 : Int)) (z := 0) rfl rfl (by decide) (by decide) rfl rfl rfl (by decide) rfl o_me t_me rfl ?_
  obtain ⟨F58, eF58⟩ : ∃ q, q = uF F54 (me) (7 : Int) (0) := ⟨_, rfl⟩
  rw [← eF58]
  have hC59 : HC 0 m tg ln F58 := by rw [eF58]; exact HC_fi (c := 5) (q := 7) hC55 t_me (by decide) rfl (by omega) (by omega) ⟨fun w => absurd w (by decide), fun w => absurd w (by decide)⟩
  have hM60 : Fq 0 [(3, 5), (3, 6), (3, 7), (3, 8), (3, 9), (3, 10), (3, 11), (3, 12), (3, 13), (3, 14), (3, 16), (3, 17), (3, 18), (3, 19), (3, 20), (5, 2), (5, 3), (5, 4), (5, 5), (5, 6), (5, 7), (6, 3), (6, 4), (6, 6), (6, 7), (6, 8), (21, -5)] m tg F F58 := by rw [eF58]; exact Fq_p hM56 t_me (fun _ => rfl) rfl
  have c61 : SB m tg F58 (kk + 1) := by rw [eF58]; exact SB_u c57 t_me (by omega)
  refine jx_ld (pc_q := 21) (l_q := L0) (st_q := [rv (me)]) rfl (jl_rvn g45) ?_
  refine jx_ar (pc_q := 22) (st_q := [.int (i32 (0)), rv (me)]) rfl rfl rfl rfl ?_
  refine cx_pi (pc_q := 25) (c := 5) (q := 8) (qi := (8 : Int)) (z := 0) rfl rfl (by decide) (by decide) rfl rfl rfl (by decide) rfl o_me t_me rfl ?_
  obtain ⟨F62, eF62⟩ : ∃ q, q = uF F58 (me) (8 : Int) (0) := ⟨_, rfl⟩
  rw [← eF62]
  have hC63 : HC 0 m tg ln F62 := by rw [eF62]; exact HC_fi (c := 5) (q := 8) hC59 t_me (by decide) rfl (by omega) (by omega) ⟨fun w => absurd w (by decide), fun w => absurd w (by decide)⟩
  have hM64 : Fq 0 [(3, 5), (3, 6), (3, 7), (3, 8), (3, 9), (3, 10), (3, 11), (3, 12), (3, 13), (3, 14), (3, 16), (3, 17), (3, 18), (3, 19), (3, 20), (5, 2), (5, 3), (5, 4), (5, 5), (5, 6), (5, 7), (6, 3), (6, 4), (6, 6), (6, 7), (6, 8), (21, -5)] m tg F F62 := by rw [eF62]; exact Fq_p hM60 t_me (fun _ => rfl) rfl
  have c65 : SB m tg F62 (kk + 1) := by rw [eF62]; exact SB_u c61 t_me (by omega)
  refine jx_ar (pc_q := 26) (st_q := [.int (i32 (0))]) rfl rfl rfl rfl ?_
  refine jx_ld (pc_q := 27) (l_q := jSto1 L0 1 (.int (i32 (0)))) (st_q := []) rfl rfl ?_
  obtain ⟨L66, eL66⟩ : ∃ q : jL, q = jSto1 L0 1 (.int (i32 (0))) := ⟨_, rfl⟩
  rw [← eL66]
  have g67 : jGet L66 0 = some (rv (me)) := eL66 ▸ jg_nr (by decide) g45
  have g68 : jGet L66 1 = some (.int (i32 (0))) := eL66 ▸ jg_eq
  clear eL66
  exact k_LMachine_reset_at_27 (X := X) (d := d) (R := R) (m := m) (tg := tg) (ln := ln) (F := F) (kk := kk) (me := me) (hd := hd) (hC := hC) (o_me := o_me) (t_me := t_me) (p_0 := p_0) (c_SB := c_SB) _ L66 F62 (0) rfl g67 g68 hC63 hM64 (by omega) (by omega) (by omega) (SB_m c65 (by omega))
set_option maxRecDepth 20000 in
set_option maxHeartbeats 4000000 in
theorem k_LMachine_offer {X : jX} {dd : Nat} {R : Nat → jC} {m : Nat} {tg ln : Int → Int} {F : Int → Int → Int} {me v : Int} (hd : 5 ≤ dd) (hC : HC 0 m tg ln F) (o_me : own m me) (t_me : tg me = 6) (h_v : (-2147483648 : Int) ≤ v ∧ v ≤ 2147483647) : wk X dd 147 [rv me, .int (i32 v)] (cV R m tg ln F) (fun o V_q => ∃ (F_q : Int → Int → Int), V_q = cV R m tg ln F_q ∧ o = .inl none ∧ HC 0 m tg ln F_q ∧ Fq 0 [(3, 5), (3, 6), (3, 7), (3, 8), (3, 9), (3, 10), (3, 11), (3, 12), (3, 16), (3, 17), (3, 19), (3, 20), (6, 3), (6, 4), (21, -5)] m tg F F_q ∧ True) := by
  obtain ⟨d, rfl⟩ : ∃ d, dd = d + 1 := ⟨dd - 1, by omega⟩
  refine wk_of (e := jm147) rfl (by rw [jS_r, jS_i, jS_0]; exact Nat.le_of_ble_eq_true rfl) ?_
  rw [la_r, la_i, la_0]
  show wj X d jm147 (0, [(0, rv (me)), (1, .int (i32 (v)))], [], cV R m tg ln F) _
  have hM0 : Fq 0 [(3, 5), (3, 6), (3, 7), (3, 8), (3, 9), (3, 10), (3, 11), (3, 12), (3, 16), (3, 17), (3, 19), (3, 20), (6, 3), (6, 4), (21, -5)] m tg F F := Fq_r
  obtain ⟨L0, eL0⟩ : ∃ q : jL, q = [(0, rv (me)), (1, .int (i32 (v)))] := ⟨_, rfl⟩
  rw [← eL0]
  have g1 : jGet L0 0 = some (rv (me)) := eL0 ▸ (rfl : jGet [(0, rv (me)), (1, .int (i32 (v)))] 0 = some (rv (me)))
  have g2 : jGet L0 1 = some (.int (i32 (v))) := eL0 ▸ (rfl : jGet [(0, rv (me)), (1, .int (i32 (v)))] 1 = some (.int (i32 (v))))
  clear eL0
  refine jx_ld (pc_q := 1) (l_q := L0) (st_q := [rv (me)]) rfl (jl_rvn g1) ?_
  refine cx_gi (pc_q := 4) (c := 5) (q := 3) (v := F (me) (3 : Int)) rfl rfl (by decide) (by decide) (Or.inl rfl) rfl o_me t_me rfl ?_
  have b3 : (0 : Int) ≤ F (me) (3 : Int) ∧ F (me) (3 : Int) ≤ 200 := by have z := HC_i (c := 5) (q := 3) hC o_me t_me (by decide) rfl; rw [show F (me) ((3 : Nat) : Int) = F (me) (3 : Int) from rfl] at z; exact z
  refine jx_ld (pc_q := 5) (l_q := L0) (st_q := [rv (me), .int (i32 (F (me) (3 : Int)))]) rfl (jl_rvn g1) ?_
  refine cx_gr (pc_q := 8) (c := 5) (q := 2) (v := F (me) (2 : Int)) rfl rfl (by decide) (by decide) rfl rfl o_me t_me rfl ?_
  have y4 : own m (F (me) (2 : Int)) ∧ tg (F (me) (2 : Int)) = 21 ∧ ((200 : Int) ≠ 0 → ln (F (me) (2 : Int)) = 200) := by have z := HC_n (c := 5) (q := 2) hC o_me t_me (own_z o_me) (by decide) rfl; rw [show F (me) ((2 : Nat) : Int) = F (me) (2 : Int) from rfl] at z; exact ⟨z.1, z.2.1, z.2.2.1⟩
  have ly4 : ln (F (me) (2 : Int)) = 200 := y4.2.2 (by decide)
  have b5 := HC_l hC y4.1 y4.2.1 (by decide)
  refine cx_len (pc_q := 9) rfl rfl y4.1 (by rw [y4.2.1]; decide) (by omega) ?_
  refine jx_icmp_lt (pc_q := 12) (tg := 13) rfl rfl rfl (by omega) (by omega) (by omega) (by omega) (fun h6 => ?_) (fun h6 => ?_)
  · have _q := h6
    refine jx_ld (pc_q := 14) (l_q := L0) (st_q := [rv (me)]) rfl (jl_rvn g1) ?_
    refine cx_gr (pc_q := 17) (c := 5) (q := 2) (v := F (me) (2 : Int)) rfl rfl (by decide) (by decide) rfl rfl o_me t_me rfl ?_
    refine jx_ld (pc_q := 18) (l_q := L0) (st_q := [rv (me), rv (F (me) (2 : Int))]) rfl (jl_rvn g1) ?_
    refine cx_gi (pc_q := 21) (c := 5) (q := 3) (v := F (me) (3 : Int)) rfl rfl (by decide) (by decide) (Or.inl rfl) rfl o_me t_me rfl ?_
    refine jx_ld (pc_q := 22) (l_q := L0) (st_q := [.int (i32 (v)), .int (i32 (F (me) (3 : Int))), rv (F (me) (2 : Int))]) rfl (jl_iloadn g2) ?_
    refine cx_ias (pc_q := 23) (z := F (me) (3 : Int)) (y := v) rfl rfl y4.1 y4.2.1 (by omega) (by omega) (by omega) ?_
    obtain ⟨F7, eF7⟩ : ∃ q, q = uF F (F (me) (2 : Int)) (F (me) (3 : Int)) (v) := ⟨_, rfl⟩
    rw [← eF7]
    have hC8 : HC 0 m tg ln F7 := by rw [eF7]; exact HC_pi hC y4.1 y4.2.1 (by decide) (by omega) (by rw [(show F (F (me) (2 : Int)) (-1) = 0 by have z := HC_n (c := 5) (q := 2) hC o_me t_me (own_z o_me) (by decide) rfl; rw [show F (me) ((2 : Nat) : Int) = F (me) (2 : Int) from rfl] at z; exact z.2.2.2 (by decide))]; exact ⟨(by show (-2147483648 : Int) ≤ _; omega), (by show _ ≤ (2147483647 : Int); omega)⟩)
    have hM9 : Fq 0 [(3, 5), (3, 6), (3, 7), (3, 8), (3, 9), (3, 10), (3, 11), (3, 12), (3, 16), (3, 17), (3, 19), (3, 20), (6, 3), (6, 4), (21, -5)] m tg F F7 := by rw [eF7]; exact Fq_p hM0 y4.2.1 (fun _ => rfl) (inL_a rfl (by omega) rfl)
    refine jx_ld (pc_q := 24) (l_q := L0) (st_q := [rv (me)]) rfl (jl_rvn g1) ?_
    refine jx_ar (pc_q := 25) (st_q := [rv (me), rv (me)]) rfl rfl ja_dup rfl ?_
    refine cx_gi (pc_q := 28) (c := 5) (q := 3) (v := F (me) (3 : Int)) rfl rfl (by decide) (by decide) (Or.inl rfl) rfl o_me t_me (show F7 (me) (3 : Int) = F (me) (3 : Int) from by rw [eF7]; exact uF_a (fun w => by have q1 := t_me; have q2 := y4.2.1; rw [w, q2] at q1; exact absurd q1 (by decide))) ?_
    refine jx_ar (pc_q := 29) (st_q := [.int (i32 (1)), .int (i32 (F (me) (3 : Int))), rv (me)]) rfl rfl rfl rfl ?_
    refine jx_add (pc_q := 30) rfl rfl ?_
    refine cx_pi (pc_q := 33) (c := 5) (q := 3) (qi := (3 : Int)) (z := (F (me) (3 : Int) + 1)) rfl rfl (by decide) (by decide) rfl rfl rfl (by decide) rfl o_me t_me rfl ?_
    obtain ⟨F10, eF10⟩ : ∃ q, q = uF F7 (me) (3 : Int) ((F (me) (3 : Int) + 1)) := ⟨_, rfl⟩
    rw [← eF10]
    have hC11 : HC 0 m tg ln F10 := by rw [eF10]; exact HC_fi (c := 5) (q := 3) hC8 t_me (by decide) rfl (by omega) (by omega) ⟨fun w => absurd w (by decide), fun w => absurd w (by decide)⟩
    have hM12 : Fq 0 [(3, 5), (3, 6), (3, 7), (3, 8), (3, 9), (3, 10), (3, 11), (3, 12), (3, 16), (3, 17), (3, 19), (3, 20), (6, 3), (6, 4), (21, -5)] m tg F F10 := by rw [eF10]; exact Fq_p hM9 t_me (fun _ => rfl) rfl
    refine jx_ld (pc_q := 34) (l_q := L0) (st_q := [rv (me)]) rfl (jl_rvn g1) ?_
    refine cx_gr (pc_q := 37) (c := 5) (q := 1) (v := F (me) (1 : Int)) rfl rfl (by decide) (by decide) rfl rfl o_me t_me ((show F10 (me) (1 : Int) = F7 (me) (1 : Int) from by rw [eF10]; exact uF_j (by decide)).trans (show F7 (me) (1 : Int) = F (me) (1 : Int) from by rw [eF7]; exact uF_a (fun w => by have q1 := t_me; have q2 := y4.2.1; rw [w, q2] at q1; exact absurd q1 (by decide)))) ?_
    have y13 : own m (F (me) (1 : Int)) ∧ tg (F (me) (1 : Int)) = 27 ∧ ((6 : Int) ≠ 0 → ln (F (me) (1 : Int)) = 6) := by have z := HC_n (c := 5) (q := 1) hC11 o_me t_me (own_z o_me) (by decide) rfl; rw [show F10 (me) ((1 : Nat) : Int) = F (me) (1 : Int) from ((show F10 (me) (1 : Int) = F7 (me) (1 : Int) from by rw [eF10]; exact uF_j (by decide)).trans (show F7 (me) (1 : Int) = F (me) (1 : Int) from by rw [eF7]; exact uF_a (fun w => by have q1 := t_me; have q2 := y4.2.1; rw [w, q2] at q1; exact absurd q1 (by decide))))] at z; exact ⟨z.1, z.2.1, z.2.2.1⟩
    have ly13 : ln (F (me) (1 : Int)) = 6 := y13.2.2 (by decide)
    refine jx_ar (pc_q := 38) (st_q := [.int (i32 (0)), rv (F (me) (1 : Int))]) rfl rfl rfl rfl ?_
    have b14 := HC_l hC11 y13.1 y13.2.1 (by decide)
    refine cx_aal (pc_q := 39) (z := 0) rfl rfl y13.1 (by rw [y13.2.1]; decide) (by omega) (by omega) (by omega) ?_
    rw [show F10 (F (me) (1 : Int)) (0) = F (F (me) (1 : Int)) (0 : Int) from ((show F10 (F (me) (1 : Int)) (0 : Int) = F7 (F (me) (1 : Int)) (0 : Int) from by rw [eF10]; exact uF_j (by decide)).trans (show F7 (F (me) (1 : Int)) (0 : Int) = F (F (me) (1 : Int)) (0 : Int) from by rw [eF7]; exact uF_a (fun w => by have q1 := y13.2.1; have q2 := y4.2.1; rw [w, q2] at q1; exact absurd q1 (by decide))))]
    have y15 : F (F (me) (1 : Int)) (0 : Int) = 0 ∨ (own m (F (F (me) (1 : Int)) (0 : Int)) ∧ tg (F (F (me) (1 : Int)) (0 : Int)) = 3) := by have z := HC_er (j := 0) hC11 y13.1 y13.2.1 (by decide) (by omega); rw [show F10 (F (me) (1 : Int)) (0) = F (F (me) (1 : Int)) (0 : Int) from ((show F10 (F (me) (1 : Int)) (0 : Int) = F7 (F (me) (1 : Int)) (0 : Int) from by rw [eF10]; exact uF_j (by decide)).trans (show F7 (F (me) (1 : Int)) (0 : Int) = F (F (me) (1 : Int)) (0 : Int) from by rw [eF7]; exact uF_a (fun w => by have q1 := y13.2.1; have q2 := y4.2.1; rw [w, q2] at q1; exact absurd q1 (by decide))))] at z; exact z
    refine jx_ld (pc_q := 40) (l_q := jSto1 L0 2 (rv (F (F (me) (1 : Int)) (0 : Int)))) (st_q := []) rfl (js_rvn (by decide)) ?_
    obtain ⟨L16, eL16⟩ : ∃ q : jL, q = jSto1 L0 2 (rv (F (F (me) (1 : Int)) (0 : Int))) := ⟨_, rfl⟩
    rw [← eL16]
    have g17 : jGet L16 0 = some (rv (me)) := eL16 ▸ jg_nr (by decide) g1
    have g18 : jGet L16 1 = some (.int (i32 (v))) := eL16 ▸ jg_ne (by decide) g2 rfl
    have g19 : jGet L16 2 = some (rv (F (F (me) (1 : Int)) (0 : Int))) := eL16 ▸ jg_eq
    clear eL16
    refine jx_ld (pc_q := 41) (l_q := L16) (st_q := [rv (F (F (me) (1 : Int)) (0 : Int))]) rfl (jl_rvn g19) ?_
    refine cx_nul (pc_q := 44) (tg_q := 68) rfl rfl rfl (fun h20 => ?_) (fun h20 => ?_)
    · have _q := h20
      refine jx_rt (v := none) rfl rfl rfl rfl rfl rfl ?_
      exact ⟨F10, rfl, rfl, hC11, hM12, trivial⟩
    · have _q := h20
      have ho21 : own m (F (F (me) (1 : Int)) (0 : Int)) ∧ tg (F (F (me) (1 : Int)) (0 : Int)) = 3 := y15.resolve_left h20
      refine jx_ld (pc_q := 45) (l_q := L16) (st_q := [rv (F (F (me) (1 : Int)) (0 : Int))]) rfl (jl_rvn g19) ?_
      refine jx_ar (pc_q := 47) (st_q := [.int (i32 (13)), rv (F (F (me) (1 : Int)) (0 : Int))]) rfl rfl rfl rfl ?_
      refine jx_ld (pc_q := 48) (l_q := L16) (st_q := [.int (i32 (v)), .int (i32 (13)), rv (F (F (me) (1 : Int)) (0 : Int))]) rfl (jl_iloadn g18) ?_
      refine cx_vi (c := 2) (a := F (F (me) (1 : Int)) (0 : Int)) (st := []) (as := [.int (i32 (13)), .int (i32 (v))]) rfl rfl rfl ho21.1 ho21.2 (by decide) rfl ⟨rfl, rfl, (Nat.le_of_ble_eq_true rfl)⟩ rfl (k_LCore_receive (dd := d) (R := R) (m := m) (tg := tg) (ln := ln) (F := F10) (me := F (F (me) (1 : Int)) (0 : Int)) (a0 := 13) (a1 := v) (hd := by omega) (hC := hC11) (o_me := ho21.1) (t_me := ho21.2) (h_a0 := by omega) (h_a1 := by omega)) (fun o V_q hq => ?_)
      obtain ⟨F22, r23, rfl, rfl, hC24, hM25, b26, -⟩ := hq
      have hM27 : Fq 0 [(3, 5), (3, 6), (3, 7), (3, 8), (3, 9), (3, 10), (3, 11), (3, 12), (3, 16), (3, 17), (3, 19), (3, 20), (6, 3), (6, 4), (21, -5)] m tg F F22 := Fq_t (ln := ln) (ln1 := ln) hM12 Ex_r hM25 (by decide) (Or.inl rfl)
      refine Or.inr (Or.inl ⟨_, rfl, ?_⟩)
      refine jx_if_eq (pc_q := 54) (tg := 64) rfl rfl rfl (by omega) (by omega) (fun h28 => ?_) (fun h28 => ?_)
      · have _q := h28
        refine jx_ld (pc_q := 65) (l_q := L16) (st_q := [rv (F (F (me) (1 : Int)) (0 : Int))]) rfl (jl_rvn g19) ?_
        refine cx_vi (c := 2) (a := F (F (me) (1 : Int)) (0 : Int)) (st := []) (as := []) rfl rfl rfl ho21.1 ho21.2 (by decide) rfl ⟨rfl, rfl, (Nat.le_of_ble_eq_true rfl)⟩ rfl (k_LCore_settle (dd := d) (R := R) (m := m) (tg := tg) (ln := ln) (F := F22) (me := F (F (me) (1 : Int)) (0 : Int)) (hd := by omega) (hC := hC24) (o_me := ho21.1) (t_me := ho21.2)) (fun o V_q hq => ?_)
        obtain ⟨F29, rfl, rfl, hC30, hM31, -⟩ := hq
        have hM32 : Fq 0 [(3, 5), (3, 6), (3, 7), (3, 8), (3, 9), (3, 10), (3, 11), (3, 12), (3, 16), (3, 17), (3, 19), (3, 20), (6, 3), (6, 4), (21, -5)] m tg F F29 := Fq_t (ln := ln) (ln1 := ln) hM27 Ex_r hM31 (by decide) (Or.inl rfl)
        refine Or.inl ⟨rfl, ?_⟩
        refine jx_rt (v := none) rfl rfl rfl rfl rfl rfl ?_
        exact ⟨F29, rfl, rfl, hC30, hM32, trivial⟩
      · have _q := h28
        refine jx_ld (pc_q := 55) (l_q := L16) (st_q := [rv (me)]) rfl (jl_rvn g17) ?_
        refine jx_ar (pc_q := 56) (st_q := [rv (me), rv (me)]) rfl rfl ja_dup rfl ?_
        refine cx_gi (pc_q := 59) (c := 5) (q := 4) (v := F (me) (4 : Int)) rfl rfl (by decide) (by decide) (Or.inl rfl) rfl o_me t_me ((show F22 (me) (4 : Int) = F10 (me) (4 : Int) from hM25 _ _ o_me (own_z o_me) (by rw [t_me]; rfl)).trans ((show F10 (me) (4 : Int) = F7 (me) (4 : Int) from by rw [eF10]; exact uF_j (by decide)).trans (show F7 (me) (4 : Int) = F (me) (4 : Int) from by rw [eF7]; exact uF_a (fun w => by have q1 := t_me; have q2 := y4.2.1; rw [w, q2] at q1; exact absurd q1 (by decide))))) ?_
        have b33 : (-2147483648 : Int) ≤ F (me) (4 : Int) ∧ F (me) (4 : Int) ≤ 2147483647 := by have z := HC_i (c := 5) (q := 4) hC24 o_me t_me (by decide) rfl; rw [show F22 (me) ((4 : Nat) : Int) = F (me) (4 : Int) from ((show F22 (me) (4 : Int) = F10 (me) (4 : Int) from hM25 _ _ o_me (own_z o_me) (by rw [t_me]; rfl)).trans ((show F10 (me) (4 : Int) = F7 (me) (4 : Int) from by rw [eF10]; exact uF_j (by decide)).trans (show F7 (me) (4 : Int) = F (me) (4 : Int) from by rw [eF7]; exact uF_a (fun w => by have q1 := t_me; have q2 := y4.2.1; rw [w, q2] at q1; exact absurd q1 (by decide)))))] at z; exact z
        refine jx_ar (pc_q := 60) (st_q := [.int (i32 (1)), .int (i32 (F (me) (4 : Int))), rv (me)]) rfl rfl rfl rfl ?_
        refine jx_add (pc_q := 61) rfl rfl ?_
        obtain ⟨z34, ez34⟩ : ∃ q, q = (i32 ((F (me) (4 : Int) + 1))).toInt := ⟨_, rfl⟩
        have bz34 : (-2147483648 : Int) ≤ z34 ∧ z34 ≤ 2147483647 := ez34 ▸ i32_rg _
        rw [show i32 ((F (me) (4 : Int) + 1)) = i32 z34 by rw [ez34, i32_of]]
        clear ez34
        refine cx_pi (pc_q := 64) (c := 5) (q := 4) (qi := (4 : Int)) (z := z34) rfl rfl (by decide) (by decide) rfl rfl rfl (by decide) rfl o_me t_me rfl ?_
        obtain ⟨F35, eF35⟩ : ∃ q, q = uF F22 (me) (4 : Int) (z34) := ⟨_, rfl⟩
        rw [← eF35]
        have hC36 : HC 0 m tg ln F35 := by rw [eF35]; exact HC_fi (c := 5) (q := 4) hC24 t_me (by decide) rfl (by omega) (by omega) ⟨fun w => absurd w (by decide), fun w => absurd w (by decide)⟩
        have hM37 : Fq 0 [(3, 5), (3, 6), (3, 7), (3, 8), (3, 9), (3, 10), (3, 11), (3, 12), (3, 16), (3, 17), (3, 19), (3, 20), (6, 3), (6, 4), (21, -5)] m tg F F35 := by rw [eF35]; exact Fq_p hM27 t_me (fun _ => rfl) rfl
        refine jx_ld (pc_q := 65) (l_q := L16) (st_q := [rv (F (F (me) (1 : Int)) (0 : Int))]) rfl (jl_rvn g19) ?_
        refine cx_vi (c := 2) (a := F (F (me) (1 : Int)) (0 : Int)) (st := []) (as := []) rfl rfl rfl ho21.1 ho21.2 (by decide) rfl ⟨rfl, rfl, (Nat.le_of_ble_eq_true rfl)⟩ rfl (k_LCore_settle (dd := d) (R := R) (m := m) (tg := tg) (ln := ln) (F := F35) (me := F (F (me) (1 : Int)) (0 : Int)) (hd := by omega) (hC := hC36) (o_me := ho21.1) (t_me := ho21.2)) (fun o V_q hq => ?_)
        obtain ⟨F38, rfl, rfl, hC39, hM40, -⟩ := hq
        have hM41 : Fq 0 [(3, 5), (3, 6), (3, 7), (3, 8), (3, 9), (3, 10), (3, 11), (3, 12), (3, 16), (3, 17), (3, 19), (3, 20), (6, 3), (6, 4), (21, -5)] m tg F F38 := Fq_t (ln := ln) (ln1 := ln) hM37 Ex_r hM40 (by decide) (Or.inl rfl)
        refine Or.inl ⟨rfl, ?_⟩
        refine jx_rt (v := none) rfl rfl rfl rfl rfl rfl ?_
        exact ⟨F38, rfl, rfl, hC39, hM41, trivial⟩
  · have _q := h6
    refine jx_rt (v := none) rfl rfl rfl rfl rfl rfl ?_
    exact ⟨F, rfl, rfl, hC, hM0, trivial⟩
set_option maxRecDepth 20000 in
set_option maxHeartbeats 4000000 in
theorem k_LMachine_pulse_at_69 {X : jX} {d : Nat} {R : Nat → jC} {m : Nat} {tg ln : Int → Int} {F : Int → Int → Int} {me : Int} (hd : 6 ≤ d + 1) (hC : HC 0 m tg ln F) (o_me : own m me) (t_me : tg me = 6) : ∀ (mm : Nat) (L : jL) (Fx : Int → Int → Int) (n p : Int), (6 - p).toNat = mm → jGet L 0 = some (rv (me)) → jGet L 1 = some (.int (i32 n)) → jGet L 2 = some (.int (i32 p)) → HC 0 m tg ln Fx → Fq 0 [(3, 5), (3, 6), (3, 7), (3, 8), (3, 9), (3, 10), (3, 11), (3, 12), (3, 16), (3, 17), (3, 19), (3, 20), (5, 2), (5, 3), (5, 4), (5, 5), (5, 6), (5, 7), (6, 7), (6, 8), (21, -5)] m tg F Fx → ((-2147483648 : Int) ≤ n ∧ n ≤ 2147483647) → ((-2147483648 : Int) ≤ p ∧ p ≤ 2147483647) → (0 ≤ p) → (p ≤ 6) → wj X d jm150 (69, L, [], cV R m tg ln Fx) (fun o V_q => ∃ (F_q : Int → Int → Int) (r : Int), V_q = cV R m tg ln F_q ∧ o = .inl (some (.int (i32 r))) ∧ HC 0 m tg ln F_q ∧ Fq 0 [(3, 5), (3, 6), (3, 7), (3, 8), (3, 9), (3, 10), (3, 11), (3, 12), (3, 16), (3, 17), (3, 19), (3, 20), (5, 2), (5, 3), (5, 4), (5, 5), (5, 6), (5, 7), (6, 7), (6, 8), (21, -5)] m tg F F_q ∧ (-2147483648 ≤ r ∧ r ≤ 2147483647) ∧ True) := by
  intro mm
  induction mm using Nat.strongRecOn with
  | ind mm ih =>
    intro L Fx n p hmm gL_0 gL_1 gL_2 hCx hMx rx_n rx_p iv_0 iv_1
    refine jx_ld (pc_q := 70) (l_q := L) (st_q := [.int (i32 (p))]) rfl (jl_iloadn gL_2) ?_
    refine jx_ar (pc_q := 72) (st_q := [.int (i32 (6)), .int (i32 (p))]) rfl rfl rfl rfl ?_
    refine jx_icmp_ge (pc_q := 75) (tg := 99) rfl rfl rfl (by omega) (by omega) (by decide) (by decide) (fun h1 => ?_) (fun h1 => ?_)
    · have _q := h1
      refine jx_ld (pc_q := 100) (l_q := L) (st_q := [.int (i32 (n))]) rfl (jl_iloadn gL_1) ?_
      refine jx_rt (v := some (.int (i32 (n)))) rfl rfl rfl rfl rfl rfl ?_
      exact ⟨Fx, (n), rfl, rfl, hCx, hMx, by omega, trivial⟩
    · have _q := h1
      refine jx_ld (pc_q := 76) (l_q := L) (st_q := [rv (me)]) rfl (jl_rvn gL_0) ?_
      refine cx_gr (pc_q := 79) (c := 5) (q := 1) (v := F (me) (1 : Int)) rfl rfl (by decide) (by decide) rfl rfl o_me t_me (show Fx (me) (1 : Int) = F (me) (1 : Int) from hMx _ _ o_me (own_z o_me) (by rw [t_me]; rfl)) ?_
      have y2 : own m (F (me) (1 : Int)) ∧ tg (F (me) (1 : Int)) = 27 ∧ ((6 : Int) ≠ 0 → ln (F (me) (1 : Int)) = 6) := by have z := HC_n (c := 5) (q := 1) hCx o_me t_me (own_z o_me) (by decide) rfl; rw [show Fx (me) ((1 : Nat) : Int) = F (me) (1 : Int) from (show Fx (me) (1 : Int) = F (me) (1 : Int) from hMx _ _ o_me (own_z o_me) (by rw [t_me]; rfl))] at z; exact ⟨z.1, z.2.1, z.2.2.1⟩
      have ly2 : ln (F (me) (1 : Int)) = 6 := y2.2.2 (by decide)
      refine jx_ld (pc_q := 80) (l_q := L) (st_q := [.int (i32 (p)), rv (F (me) (1 : Int))]) rfl (jl_iloadn gL_2) ?_
      have b3 := HC_l hCx y2.1 y2.2.1 (by decide)
      refine cx_aal (pc_q := 81) (z := p) rfl rfl y2.1 (by rw [y2.2.1]; decide) (by omega) (by omega) (by omega) ?_
      rw [show Fx (F (me) (1 : Int)) (p) = F (F (me) (1 : Int)) (p) from (show Fx (F (me) (1 : Int)) (p) = F (F (me) (1 : Int)) (p) from hMx _ _ y2.1 (own_z y2.1) (by rw [y2.2.1]; rfl))]
      have y4 : F (F (me) (1 : Int)) (p) = 0 ∨ (own m (F (F (me) (1 : Int)) (p)) ∧ tg (F (F (me) (1 : Int)) (p)) = 3) := by have z := HC_er (j := p) hCx y2.1 y2.2.1 (by decide) (by omega); rw [show Fx (F (me) (1 : Int)) (p) = F (F (me) (1 : Int)) (p) from (show Fx (F (me) (1 : Int)) (p) = F (F (me) (1 : Int)) (p) from hMx _ _ y2.1 (own_z y2.1) (by rw [y2.2.1]; rfl))] at z; exact z
      refine cx_nul (pc_q := 84) (tg_q := 93) rfl rfl rfl (fun h5 => ?_) (fun h5 => ?_)
      · have _q := h5
        refine jx_inc (pc_q := 96) (l_q := jSto1 L 2 (.int (i32 (p + (1))))) (x := p) rfl gL_2 (by decide) rfl rfl ?_
        obtain ⟨L6, eL6⟩ : ∃ q : jL, q = jSto1 L 2 (.int (i32 ((p + (1))))) := ⟨_, rfl⟩
        rw [← eL6]
        have g7 : jGet L6 0 = some (rv (me)) := eL6 ▸ jg_nr (by decide) gL_0
        have g8 : jGet L6 1 = some (.int (i32 (n))) := eL6 ▸ jg_ne (by decide) gL_1 rfl
        have g9 : jGet L6 2 = some (.int (i32 ((p + (1))))) := eL6 ▸ jg_eq
        clear eL6
        refine jx_go (tg := 69) rfl rfl ?_
        exact ih _ (by omega) L6 Fx (n) ((p + (1))) rfl g7 g8 g9 hCx hMx (by omega) (by omega) (by omega) (by omega)
      · have _q := h5
        have ho10 : own m (F (F (me) (1 : Int)) (p)) ∧ tg (F (F (me) (1 : Int)) (p)) = 3 := y4.resolve_left h5
        refine jx_ld (pc_q := 85) (l_q := L) (st_q := [rv (me)]) rfl (jl_rvn gL_0) ?_
        refine cx_gr (pc_q := 88) (c := 5) (q := 1) (v := F (me) (1 : Int)) rfl rfl (by decide) (by decide) rfl rfl o_me t_me (show Fx (me) (1 : Int) = F (me) (1 : Int) from hMx _ _ o_me (own_z o_me) (by rw [t_me]; rfl)) ?_
        refine jx_ld (pc_q := 89) (l_q := L) (st_q := [.int (i32 (p)), rv (F (me) (1 : Int))]) rfl (jl_iloadn gL_2) ?_
        refine cx_aal (pc_q := 90) (z := p) rfl rfl y2.1 (by rw [y2.2.1]; decide) (by omega) (by omega) (by omega) ?_
        rw [show Fx (F (me) (1 : Int)) (p) = F (F (me) (1 : Int)) (p) from (show Fx (F (me) (1 : Int)) (p) = F (F (me) (1 : Int)) (p) from hMx _ _ y2.1 (own_z y2.1) (by rw [y2.2.1]; rfl))]
        refine cx_vi (c := 2) (a := F (F (me) (1 : Int)) (p)) (st := []) (as := []) rfl rfl rfl ho10.1 ho10.2 (by decide) rfl ⟨rfl, rfl, (Nat.le_of_ble_eq_true rfl)⟩ rfl (k_LCore_settle (dd := d) (R := R) (m := m) (tg := tg) (ln := ln) (F := Fx) (me := F (F (me) (1 : Int)) (p)) (hd := by omega) (hC := hCx) (o_me := ho10.1) (t_me := ho10.2)) (fun o V_q hq => ?_)
        obtain ⟨F11, rfl, rfl, hC12, hM13, -⟩ := hq
        have hM14 : Fq 0 [(3, 5), (3, 6), (3, 7), (3, 8), (3, 9), (3, 10), (3, 11), (3, 12), (3, 16), (3, 17), (3, 19), (3, 20), (5, 2), (5, 3), (5, 4), (5, 5), (5, 6), (5, 7), (6, 7), (6, 8), (21, -5)] m tg F F11 := Fq_t (ln := ln) (ln1 := ln) hMx Ex_r hM13 (by decide) (Or.inl rfl)
        refine Or.inl ⟨rfl, ?_⟩
        refine jx_inc (pc_q := 96) (l_q := jSto1 L 2 (.int (i32 (p + (1))))) (x := p) rfl gL_2 (by decide) rfl rfl ?_
        obtain ⟨L15, eL15⟩ : ∃ q : jL, q = jSto1 L 2 (.int (i32 ((p + (1))))) := ⟨_, rfl⟩
        rw [← eL15]
        have g16 : jGet L15 0 = some (rv (me)) := eL15 ▸ jg_nr (by decide) gL_0
        have g17 : jGet L15 1 = some (.int (i32 (n))) := eL15 ▸ jg_ne (by decide) gL_1 rfl
        have g18 : jGet L15 2 = some (.int (i32 ((p + (1))))) := eL15 ▸ jg_eq
        clear eL15
        refine jx_go (tg := 69) rfl rfl ?_
        exact ih _ (by omega) L15 F11 (n) ((p + (1))) rfl g16 g17 g18 hC12 hM14 (by omega) (by omega) (by omega) (by omega)
set_option maxRecDepth 20000 in
set_option maxHeartbeats 4000000 in
theorem k_LMachine_pulse_at_4 {X : jX} {d : Nat} {R : Nat → jC} {m : Nat} {tg ln : Int → Int} {F : Int → Int → Int} {me : Int} (hd : 6 ≤ d + 1) (hC : HC 0 m tg ln F) (o_me : own m me) (t_me : tg me = 6) : ∀ (mm : Nat) (L : jL) (Fx : Int → Int → Int) (n l : Int), (12 - l).toNat = mm → jGet L 0 = some (rv (me)) → jGet L 1 = some (.int (i32 n)) → jGet L 2 = some (.int (i32 l)) → HC 0 m tg ln Fx → Fq 0 [(3, 5), (3, 6), (3, 7), (3, 8), (3, 9), (3, 10), (3, 11), (3, 12), (3, 16), (3, 17), (3, 19), (3, 20), (5, 2), (5, 3), (5, 4), (5, 5), (5, 6), (5, 7), (6, 7), (6, 8), (21, -5)] m tg F Fx → ((-2147483648 : Int) ≤ n ∧ n ≤ 2147483647) → ((-2147483648 : Int) ≤ l ∧ l ≤ 2147483647) → (0 ≤ l) → (l ≤ 12) → wj X d jm150 (4, L, [], cV R m tg ln Fx) (fun o V_q => ∃ (F_q : Int → Int → Int) (r : Int), V_q = cV R m tg ln F_q ∧ o = .inl (some (.int (i32 r))) ∧ HC 0 m tg ln F_q ∧ Fq 0 [(3, 5), (3, 6), (3, 7), (3, 8), (3, 9), (3, 10), (3, 11), (3, 12), (3, 16), (3, 17), (3, 19), (3, 20), (5, 2), (5, 3), (5, 4), (5, 5), (5, 6), (5, 7), (6, 7), (6, 8), (21, -5)] m tg F F_q ∧ (-2147483648 ≤ r ∧ r ≤ 2147483647) ∧ True) := by
  intro mm
  induction mm using Nat.strongRecOn with
  | ind mm ih =>
    intro L Fx n l hmm gL_0 gL_1 gL_2 hCx hMx rx_n rx_l iv_0 iv_1
    refine jx_ld (pc_q := 5) (l_q := L) (st_q := [.int (i32 (l))]) rfl (jl_iloadn gL_2) ?_
    refine jx_ld (pc_q := 6) (l_q := L) (st_q := [rv (me), .int (i32 (l))]) rfl (jl_rvn gL_0) ?_
    refine cx_gr (pc_q := 9) (c := 5) (q := 0) (v := F (me) (0 : Int)) rfl rfl (by decide) (by decide) rfl rfl o_me t_me (show Fx (me) (0 : Int) = F (me) (0 : Int) from hMx _ _ o_me (own_z o_me) (by rw [t_me]; rfl)) ?_
    have y19 : own m (F (me) (0 : Int)) ∧ tg (F (me) (0 : Int)) = 10 ∧ ((0 : Int) ≠ 0 → ln (F (me) (0 : Int)) = 0) := by have z := HC_n (c := 5) (q := 0) hCx o_me t_me (own_z o_me) (by decide) rfl; rw [show Fx (me) ((0 : Nat) : Int) = F (me) (0 : Int) from (show Fx (me) (0 : Int) = F (me) (0 : Int) from hMx _ _ o_me (own_z o_me) (by rw [t_me]; rfl))] at z; exact ⟨z.1, z.2.1, z.2.2.1⟩
    refine cx_gi (pc_q := 12) (c := 9) (q := 7) (v := F (F (me) (0 : Int)) (7 : Int)) rfl rfl (by decide) (by decide) (Or.inl rfl) rfl y19.1 y19.2.1 (show Fx (F (me) (0 : Int)) (7 : Int) = F (F (me) (0 : Int)) (7 : Int) from hMx _ _ y19.1 (own_z y19.1) (by rw [y19.2.1]; rfl)) ?_
    have b20 : (0 : Int) ≤ F (F (me) (0 : Int)) (7 : Int) ∧ F (F (me) (0 : Int)) (7 : Int) ≤ 12 := by have z := HC_i (c := 9) (q := 7) hCx y19.1 y19.2.1 (by decide) rfl; rw [show Fx (F (me) (0 : Int)) ((7 : Nat) : Int) = F (F (me) (0 : Int)) (7 : Int) from (show Fx (F (me) (0 : Int)) (7 : Int) = F (F (me) (0 : Int)) (7 : Int) from hMx _ _ y19.1 (own_z y19.1) (by rw [y19.2.1]; rfl))] at z; exact z
    refine jx_icmp_ge (pc_q := 15) (tg := 47) rfl rfl rfl (by omega) (by omega) (by omega) (by omega) (fun h21 => ?_) (fun h21 => ?_)
    · have _q := h21
      refine jx_ld (pc_q := 48) (l_q := L) (st_q := [rv (me)]) rfl (jl_rvn gL_0) ?_
      refine jx_ar (pc_q := 49) (st_q := [rv (me), rv (me)]) rfl rfl ja_dup rfl ?_
      refine cx_gi (pc_q := 52) (c := 5) (q := 7) (v := Fx (me) (7 : Int)) rfl rfl (by decide) (by decide) (Or.inl rfl) rfl o_me t_me rfl ?_
      have b22 : (-2147483648 : Int) ≤ Fx (me) (7 : Int) ∧ Fx (me) (7 : Int) ≤ 2147483647 := by have z := HC_i (c := 5) (q := 7) hCx o_me t_me (by decide) rfl; rw [show Fx (me) ((7 : Nat) : Int) = Fx (me) (7 : Int) from rfl] at z; exact z
      refine jx_ar (pc_q := 53) (st_q := [.int (i32 (1)), .int (i32 (Fx (me) (7 : Int))), rv (me)]) rfl rfl rfl rfl ?_
      refine jx_add (pc_q := 54) rfl rfl ?_
      obtain ⟨z23, ez23⟩ : ∃ q, q = (i32 ((Fx (me) (7 : Int) + 1))).toInt := ⟨_, rfl⟩
      have bz23 : (-2147483648 : Int) ≤ z23 ∧ z23 ≤ 2147483647 := ez23 ▸ i32_rg _
      rw [show i32 ((Fx (me) (7 : Int) + 1)) = i32 z23 by rw [ez23, i32_of]]
      clear ez23
      refine cx_pi (pc_q := 57) (c := 5) (q := 7) (qi := (7 : Int)) (z := z23) rfl rfl (by decide) (by decide) rfl rfl rfl (by decide) rfl o_me t_me rfl ?_
      obtain ⟨F24, eF24⟩ : ∃ q, q = uF Fx (me) (7 : Int) (z23) := ⟨_, rfl⟩
      rw [← eF24]
      have hC25 : HC 0 m tg ln F24 := by rw [eF24]; exact HC_fi (c := 5) (q := 7) hCx t_me (by decide) rfl (by omega) (by omega) ⟨fun w => absurd w (by decide), fun w => absurd w (by decide)⟩
      have hM26 : Fq 0 [(3, 5), (3, 6), (3, 7), (3, 8), (3, 9), (3, 10), (3, 11), (3, 12), (3, 16), (3, 17), (3, 19), (3, 20), (5, 2), (5, 3), (5, 4), (5, 5), (5, 6), (5, 7), (6, 7), (6, 8), (21, -5)] m tg F F24 := by rw [eF24]; exact Fq_p hMx t_me (fun _ => rfl) rfl
      refine jx_ld (pc_q := 58) (l_q := L) (st_q := [rv (me)]) rfl (jl_rvn gL_0) ?_
      refine jx_ar (pc_q := 59) (st_q := [rv (me), rv (me)]) rfl rfl ja_dup rfl ?_
      refine cx_gi (pc_q := 62) (c := 5) (q := 8) (v := Fx (me) (8 : Int)) rfl rfl (by decide) (by decide) (Or.inl rfl) rfl o_me t_me (show F24 (me) (8 : Int) = Fx (me) (8 : Int) from by rw [eF24]; exact uF_j (by decide)) ?_
      have b27 : (-2147483648 : Int) ≤ Fx (me) (8 : Int) ∧ Fx (me) (8 : Int) ≤ 2147483647 := by have z := HC_i (c := 5) (q := 8) hC25 o_me t_me (by decide) rfl; rw [show F24 (me) ((8 : Nat) : Int) = Fx (me) (8 : Int) from (show F24 (me) (8 : Int) = Fx (me) (8 : Int) from by rw [eF24]; exact uF_j (by decide))] at z; exact z
      refine jx_ld (pc_q := 63) (l_q := L) (st_q := [.int (i32 (n)), .int (i32 (Fx (me) (8 : Int))), rv (me)]) rfl (jl_iloadn gL_1) ?_
      refine jx_add (pc_q := 64) rfl rfl ?_
      obtain ⟨z28, ez28⟩ : ∃ q, q = (i32 ((Fx (me) (8 : Int) + n))).toInt := ⟨_, rfl⟩
      have bz28 : (-2147483648 : Int) ≤ z28 ∧ z28 ≤ 2147483647 := ez28 ▸ i32_rg _
      rw [show i32 ((Fx (me) (8 : Int) + n)) = i32 z28 by rw [ez28, i32_of]]
      clear ez28
      refine cx_pi (pc_q := 67) (c := 5) (q := 8) (qi := (8 : Int)) (z := z28) rfl rfl (by decide) (by decide) rfl rfl rfl (by decide) rfl o_me t_me rfl ?_
      obtain ⟨F29, eF29⟩ : ∃ q, q = uF F24 (me) (8 : Int) (z28) := ⟨_, rfl⟩
      rw [← eF29]
      have hC30 : HC 0 m tg ln F29 := by rw [eF29]; exact HC_fi (c := 5) (q := 8) hC25 t_me (by decide) rfl (by omega) (by omega) ⟨fun w => absurd w (by decide), fun w => absurd w (by decide)⟩
      have hM31 : Fq 0 [(3, 5), (3, 6), (3, 7), (3, 8), (3, 9), (3, 10), (3, 11), (3, 12), (3, 16), (3, 17), (3, 19), (3, 20), (5, 2), (5, 3), (5, 4), (5, 5), (5, 6), (5, 7), (6, 7), (6, 8), (21, -5)] m tg F F29 := by rw [eF29]; exact Fq_p hM26 t_me (fun _ => rfl) rfl
      refine jx_ar (pc_q := 68) (st_q := [.int (i32 (0))]) rfl rfl rfl rfl ?_
      refine jx_ld (pc_q := 69) (l_q := jSto1 L 2 (.int (i32 (0)))) (st_q := []) rfl rfl ?_
      obtain ⟨L32, eL32⟩ : ∃ q : jL, q = jSto1 L 2 (.int (i32 (0))) := ⟨_, rfl⟩
      rw [← eL32]
      have g33 : jGet L32 0 = some (rv (me)) := eL32 ▸ jg_nr (by decide) gL_0
      have g34 : jGet L32 1 = some (.int (i32 (n))) := eL32 ▸ jg_ne (by decide) gL_1 rfl
      have g35 : jGet L32 2 = some (.int (i32 (0))) := eL32 ▸ jg_eq
      clear eL32
      exact k_LMachine_pulse_at_69 (X := X) (d := d) (R := R) (m := m) (tg := tg) (ln := ln) (F := F) (me := me) (hd := hd) (hC := hC) (o_me := o_me) (t_me := t_me) _ L32 F29 (n) (0) rfl g33 g34 g35 hC30 hM31 (by omega) (by omega) (by omega) (by omega)
    · have _q := h21
      refine jx_ld (pc_q := 16) (l_q := L) (st_q := [rv (me)]) rfl (jl_rvn gL_0) ?_
      refine jx_ld (pc_q := 17) (l_q := L) (st_q := [.int (i32 (l)), rv (me)]) rfl (jl_iloadn gL_2) ?_
      refine cx_vi (c := 5) (a := me) (st := []) (as := [.int (i32 (l))]) rfl rfl rfl o_me t_me (by decide) rfl ⟨rfl, rfl, (Nat.le_of_ble_eq_true rfl)⟩ rfl (k_LMachine_linkAt (dd := d) (R := R) (m := m) (tg := tg) (ln := ln) (F := Fx) (me := me) (a0 := l) (hd := by omega) (hC := hCx) (o_me := o_me) (t_me := t_me) (h_a0 := by omega)) (fun o V_q hq => ?_)
      obtain ⟨r36, rfl, rfl, b37, -⟩ := hq
      refine Or.inr (Or.inl ⟨_, rfl, ?_⟩)
      refine jx_ld (pc_q := 21) (l_q := jSto1 L 3 (rv (r36))) (st_q := []) rfl (js_rvn (by decide)) ?_
      obtain ⟨L38, eL38⟩ : ∃ q : jL, q = jSto1 L 3 (rv (r36)) := ⟨_, rfl⟩
      rw [← eL38]
      have g39 : jGet L38 0 = some (rv (me)) := eL38 ▸ jg_nr (by decide) gL_0
      have g40 : jGet L38 1 = some (.int (i32 (n))) := eL38 ▸ jg_ne (by decide) gL_1 rfl
      have g41 : jGet L38 2 = some (.int (i32 (l))) := eL38 ▸ jg_ne (by decide) gL_2 rfl
      have g42 : jGet L38 3 = some (rv (r36)) := eL38 ▸ jg_eq
      clear eL38
      refine jx_ld (pc_q := 22) (l_q := L38) (st_q := [rv (r36)]) rfl (jl_rvn g42) ?_
      refine cx_nul (pc_q := 25) (tg_q := 41) rfl rfl rfl (fun h43 => ?_) (fun h43 => ?_)
      · have _q := h43
        refine jx_inc (pc_q := 44) (l_q := jSto1 L38 2 (.int (i32 (l + (1))))) (x := l) rfl g41 (by decide) rfl rfl ?_
        obtain ⟨L44, eL44⟩ : ∃ q : jL, q = jSto1 L38 2 (.int (i32 ((l + (1))))) := ⟨_, rfl⟩
        rw [← eL44]
        have g45 : jGet L44 0 = some (rv (me)) := eL44 ▸ jg_nr (by decide) g39
        have g46 : jGet L44 1 = some (.int (i32 (n))) := eL44 ▸ jg_ne (by decide) g40 rfl
        have g47 : jGet L44 3 = some (rv (r36)) := eL44 ▸ jg_nr (by decide) g42
        have g48 : jGet L44 2 = some (.int (i32 ((l + (1))))) := eL44 ▸ jg_eq
        clear eL44
        refine jx_go (tg := 4) rfl rfl ?_
        exact ih _ (by omega) L44 Fx (n) ((l + (1))) rfl g45 g46 g48 hCx hMx (by omega) (by omega) (by omega) (by omega)
      · have _q := h43
        have ho49 : own m (r36) ∧ tg (r36) = 5 := b37.resolve_left h43
        refine jx_ld (pc_q := 26) (l_q := L38) (st_q := [rv (r36)]) rfl (jl_rvn g42) ?_
        refine cx_vi (c := 4) (a := r36) (st := []) (as := []) rfl rfl rfl ho49.1 ho49.2 (by decide) rfl ⟨rfl, rfl, (Nat.le_of_ble_eq_true rfl)⟩ rfl (k_LLink_isBusy (dd := d) (R := R) (m := m) (tg := tg) (ln := ln) (F := Fx) (me := r36) (hd := by omega) (hC := hCx) (o_me := ho49.1) (t_me := ho49.2)) (fun o V_q hq => ?_)
        obtain ⟨r50, rfl, rfl, b51, -⟩ := hq
        refine Or.inr (Or.inl ⟨_, rfl, ?_⟩)
        refine jx_if_eq (pc_q := 32) (tg := 41) rfl rfl rfl (by omega) (by omega) (fun h52 => ?_) (fun h52 => ?_)
        · have _q := h52
          refine jx_inc (pc_q := 44) (l_q := jSto1 L38 2 (.int (i32 (l + (1))))) (x := l) rfl g41 (by decide) rfl rfl ?_
          obtain ⟨L53, eL53⟩ : ∃ q : jL, q = jSto1 L38 2 (.int (i32 ((l + (1))))) := ⟨_, rfl⟩
          rw [← eL53]
          have g54 : jGet L53 0 = some (rv (me)) := eL53 ▸ jg_nr (by decide) g39
          have g55 : jGet L53 1 = some (.int (i32 (n))) := eL53 ▸ jg_ne (by decide) g40 rfl
          have g56 : jGet L53 3 = some (rv (r36)) := eL53 ▸ jg_nr (by decide) g42
          have g57 : jGet L53 2 = some (.int (i32 ((l + (1))))) := eL53 ▸ jg_eq
          clear eL53
          refine jx_go (tg := 4) rfl rfl ?_
          exact ih _ (by omega) L53 Fx (n) ((l + (1))) rfl g54 g55 g57 hCx hMx (by omega) (by omega) (by omega) (by omega)
        · have _q := h52
          refine jx_ld (pc_q := 33) (l_q := L38) (st_q := [rv (me)]) rfl (jl_rvn g39) ?_
          refine jx_ld (pc_q := 34) (l_q := L38) (st_q := [rv (r36), rv (me)]) rfl (jl_rvn g42) ?_
          refine jx_ld (pc_q := 35) (l_q := L38) (st_q := [.int (i32 (l)), rv (r36), rv (me)]) rfl (jl_iloadn g41) ?_
          refine cx_vi (c := 5) (a := me) (st := []) (as := [rv (r36), .int (i32 (l))]) rfl rfl rfl o_me t_me (by decide) rfl ⟨rfl, rfl, (Nat.le_of_ble_eq_true rfl)⟩ rfl (k_LMachine_carry (dd := d) (R := R) (m := m) (tg := tg) (ln := ln) (F := Fx) (me := me) (lk := r36) (l := l) (hd := by omega) (hC := hCx) (o_me := o_me) (t_me := t_me) (o_lk := ho49.1) (t_lk := ho49.2) (h_l := by omega)) (fun o V_q hq => ?_)
          obtain ⟨F58, rfl, rfl, hC59, hM60, -⟩ := hq
          have hM61 : Fq 0 [(3, 5), (3, 6), (3, 7), (3, 8), (3, 9), (3, 10), (3, 11), (3, 12), (3, 16), (3, 17), (3, 19), (3, 20), (5, 2), (5, 3), (5, 4), (5, 5), (5, 6), (5, 7), (6, 7), (6, 8), (21, -5)] m tg F F58 := Fq_t (ln := ln) (ln1 := ln) hMx Ex_r hM60 (by decide) (Or.inl rfl)
          refine Or.inl ⟨rfl, ?_⟩
          refine jx_inc (pc_q := 41) (l_q := jSto1 L38 1 (.int (i32 (n + (1))))) (x := n) rfl g40 (by decide) rfl rfl ?_
          obtain ⟨z62, ez62⟩ : ∃ q, q = (i32 ((n + (1)))).toInt := ⟨_, rfl⟩
          have bz62 : (-2147483648 : Int) ≤ z62 ∧ z62 ≤ 2147483647 := ez62 ▸ i32_rg _
          rw [show i32 ((n + (1))) = i32 z62 by rw [ez62, i32_of]]
          clear ez62
          obtain ⟨L63, eL63⟩ : ∃ q : jL, q = jSto1 L38 1 (.int (i32 (z62))) := ⟨_, rfl⟩
          rw [← eL63]
          have g64 : jGet L63 0 = some (rv (me)) := eL63 ▸ jg_nr (by decide) g39
          have g65 : jGet L63 2 = some (.int (i32 (l))) := eL63 ▸ jg_ne (by decide) g41 rfl
          have g66 : jGet L63 3 = some (rv (r36)) := eL63 ▸ jg_nr (by decide) g42
          have g67 : jGet L63 1 = some (.int (i32 (z62))) := eL63 ▸ jg_eq
          clear eL63
          refine jx_inc (pc_q := 44) (l_q := jSto1 L63 2 (.int (i32 (l + (1))))) (x := l) rfl g65 (by decide) rfl rfl ?_
          obtain ⟨L68, eL68⟩ : ∃ q : jL, q = jSto1 L63 2 (.int (i32 ((l + (1))))) := ⟨_, rfl⟩
          rw [← eL68]
          have g69 : jGet L68 0 = some (rv (me)) := eL68 ▸ jg_nr (by decide) g64
          have g70 : jGet L68 3 = some (rv (r36)) := eL68 ▸ jg_nr (by decide) g66
          have g71 : jGet L68 1 = some (.int (i32 (z62))) := eL68 ▸ jg_ne (by decide) g67 rfl
          have g72 : jGet L68 2 = some (.int (i32 ((l + (1))))) := eL68 ▸ jg_eq
          clear eL68
          refine jx_go (tg := 4) rfl rfl ?_
          exact ih _ (by omega) L68 F58 (z62) ((l + (1))) rfl g69 g71 g72 hC59 hM61 (by omega) (by omega) (by omega) (by omega)
set_option maxRecDepth 20000 in
set_option maxHeartbeats 4000000 in
theorem k_LMachine_pulse {X : jX} {dd : Nat} {R : Nat → jC} {m : Nat} {tg ln : Int → Int} {F : Int → Int → Int} {me : Int} (hd : 6 ≤ dd) (hC : HC 0 m tg ln F) (o_me : own m me) (t_me : tg me = 6) : wk X dd 150 [rv me] (cV R m tg ln F) (fun o V_q => ∃ (F_q : Int → Int → Int) (r : Int), V_q = cV R m tg ln F_q ∧ o = .inl (some (.int (i32 r))) ∧ HC 0 m tg ln F_q ∧ Fq 0 [(3, 5), (3, 6), (3, 7), (3, 8), (3, 9), (3, 10), (3, 11), (3, 12), (3, 16), (3, 17), (3, 19), (3, 20), (5, 2), (5, 3), (5, 4), (5, 5), (5, 6), (5, 7), (6, 7), (6, 8), (21, -5)] m tg F F_q ∧ (-2147483648 ≤ r ∧ r ≤ 2147483647) ∧ True) := by
  obtain ⟨d, rfl⟩ : ∃ d, dd = d + 1 := ⟨dd - 1, by omega⟩
  refine wk_of (e := jm150) rfl (by rw [jS_r, jS_0]; exact Nat.le_of_ble_eq_true rfl) ?_
  rw [la_r, la_0]
  show wj X d jm150 (0, [(0, rv (me))], [], cV R m tg ln F) _
  have hM0 : Fq 0 [(3, 5), (3, 6), (3, 7), (3, 8), (3, 9), (3, 10), (3, 11), (3, 12), (3, 16), (3, 17), (3, 19), (3, 20), (5, 2), (5, 3), (5, 4), (5, 5), (5, 6), (5, 7), (6, 7), (6, 8), (21, -5)] m tg F F := Fq_r
  obtain ⟨L0, eL0⟩ : ∃ q : jL, q = [(0, rv (me))] := ⟨_, rfl⟩
  rw [← eL0]
  have g73 : jGet L0 0 = some (rv (me)) := eL0 ▸ (rfl : jGet [(0, rv (me))] 0 = some (rv (me)))
  clear eL0
  refine jx_ar (pc_q := 1) (st_q := [.int (i32 (0))]) rfl rfl rfl rfl ?_
  refine jx_ld (pc_q := 2) (l_q := jSto1 L0 1 (.int (i32 (0)))) (st_q := []) rfl rfl ?_
  obtain ⟨L74, eL74⟩ : ∃ q : jL, q = jSto1 L0 1 (.int (i32 (0))) := ⟨_, rfl⟩
  rw [← eL74]
  have g75 : jGet L74 0 = some (rv (me)) := eL74 ▸ jg_nr (by decide) g73
  have g76 : jGet L74 1 = some (.int (i32 (0))) := eL74 ▸ jg_eq
  clear eL74
  refine jx_ar (pc_q := 3) (st_q := [.int (i32 (0))]) rfl rfl rfl rfl ?_
  refine jx_ld (pc_q := 4) (l_q := jSto1 L74 2 (.int (i32 (0)))) (st_q := []) rfl rfl ?_
  obtain ⟨L77, eL77⟩ : ∃ q : jL, q = jSto1 L74 2 (.int (i32 (0))) := ⟨_, rfl⟩
  rw [← eL77]
  have g78 : jGet L77 0 = some (rv (me)) := eL77 ▸ jg_nr (by decide) g75
  have g79 : jGet L77 1 = some (.int (i32 (0))) := eL77 ▸ jg_ne (by decide) g76 rfl
  have g80 : jGet L77 2 = some (.int (i32 (0))) := eL77 ▸ jg_eq
  clear eL77
  exact k_LMachine_pulse_at_4 (X := X) (d := d) (R := R) (m := m) (tg := tg) (ln := ln) (F := F) (me := me) (hd := hd) (hC := hC) (o_me := o_me) (t_me := t_me) _ L77 F (0) (0) rfl g78 g79 g80 hC hM0 (by omega) (by omega) (by omega) (by omega)
set_option maxRecDepth 20000 in
set_option maxHeartbeats 4000000 in
theorem k_LMachine_round_at_2 {X : jX} {d : Nat} {R : Nat → jC} {m : Nat} {tg ln : Int → Int} {F : Int → Int → Int} {kk : Int} {me : Int} (hd : 7 ≤ d + 1) (hC : HC 0 m tg ln F) (o_me : own m me) (t_me : tg me = 6) (p_0 : kk ≤ 2147483640) (c_SB : SB m tg F (kk)) : ∀ (mm : Nat) (L : jL) (Fx : Int → Int → Int) (p : Int), (6 - p).toNat = mm → jGet L 0 = some (rv (me)) → jGet L 1 = some (.int (i32 p)) → HC 0 m tg ln Fx → Fq 0 [(3, 5), (3, 6), (3, 7), (3, 8), (3, 9), (3, 10), (3, 11), (3, 12), (3, 13), (3, 14), (3, 16), (3, 17), (3, 18), (3, 19), (3, 20), (5, 2), (5, 3), (5, 4), (5, 5), (5, 6), (5, 7), (6, 4), (6, 6), (6, 7), (6, 8), (21, -5)] m tg F Fx → ((-2147483648 : Int) ≤ p ∧ p ≤ 2147483647) → (0 ≤ p) → (p ≤ 6) → (SB m tg Fx (kk + p)) → wj X d jm149 (2, L, [], cV R m tg ln Fx) (fun o V_q => ∃ (F_q : Int → Int → Int), V_q = cV R m tg ln F_q ∧ o = .inl none ∧ HC 0 m tg ln F_q ∧ Fq 0 [(3, 5), (3, 6), (3, 7), (3, 8), (3, 9), (3, 10), (3, 11), (3, 12), (3, 13), (3, 14), (3, 16), (3, 17), (3, 18), (3, 19), (3, 20), (5, 2), (5, 3), (5, 4), (5, 5), (5, 6), (5, 7), (6, 4), (6, 6), (6, 7), (6, 8), (21, -5)] m tg F F_q ∧ (SB m tg F_q (kk + 6)) ∧ True) := by
  intro mm
  induction mm using Nat.strongRecOn with
  | ind mm ih =>
    intro L Fx p hmm gL_0 gL_1 hCx hMx rx_p iv_0 iv_1 cx_SB
    refine jx_ld (pc_q := 3) (l_q := L) (st_q := [.int (i32 (p))]) rfl (jl_iloadn gL_1) ?_
    refine jx_ar (pc_q := 5) (st_q := [.int (i32 (6)), .int (i32 (p))]) rfl rfl rfl rfl ?_
    refine jx_icmp_ge (pc_q := 8) (tg := 32) rfl rfl rfl (by omega) (by omega) (by decide) (by decide) (fun h1 => ?_) (fun h1 => ?_)
    · have _q := h1
      refine jx_ld (pc_q := 33) (l_q := L) (st_q := [rv (me)]) rfl (jl_rvn gL_0) ?_
      refine cx_vi (c := 5) (a := me) (st := []) (as := []) rfl rfl rfl o_me t_me (by decide) rfl ⟨rfl, rfl, (Nat.le_of_ble_eq_true rfl)⟩ rfl (k_LMachine_pulse (dd := d) (R := R) (m := m) (tg := tg) (ln := ln) (F := Fx) (me := me) (hd := by omega) (hC := hCx) (o_me := o_me) (t_me := t_me)) (fun o V_q hq => ?_)
      obtain ⟨F2, r3, rfl, rfl, hC4, hM5, b6, -⟩ := hq
      have hM7 : Fq 0 [(3, 5), (3, 6), (3, 7), (3, 8), (3, 9), (3, 10), (3, 11), (3, 12), (3, 13), (3, 14), (3, 16), (3, 17), (3, 18), (3, 19), (3, 20), (5, 2), (5, 3), (5, 4), (5, 5), (5, 6), (5, 7), (6, 4), (6, 6), (6, 7), (6, 8), (21, -5)] m tg F F2 := Fq_t (ln := ln) (ln1 := ln) hMx Ex_r hM5 (by decide) (Or.inl rfl)
      have c8 : SB m tg F2 (kk + p) := SB_q cx_SB hM5 rfl
      refine Or.inr (Or.inl ⟨_, rfl, ?_⟩)
      refine jx_ar (pc_q := 37) (st_q := []) rfl rfl rfl rfl ?_
      refine jx_rt (v := none) rfl rfl rfl rfl rfl rfl ?_
      exact ⟨F2, rfl, rfl, hC4, hM7, SB_m c8 (by omega), trivial⟩
    · have _q := h1
      refine jx_ld (pc_q := 9) (l_q := L) (st_q := [rv (me)]) rfl (jl_rvn gL_0) ?_
      refine cx_gr (pc_q := 12) (c := 5) (q := 1) (v := F (me) (1 : Int)) rfl rfl (by decide) (by decide) rfl rfl o_me t_me (show Fx (me) (1 : Int) = F (me) (1 : Int) from hMx _ _ o_me (own_z o_me) (by rw [t_me]; rfl)) ?_
      have y9 : own m (F (me) (1 : Int)) ∧ tg (F (me) (1 : Int)) = 27 ∧ ((6 : Int) ≠ 0 → ln (F (me) (1 : Int)) = 6) := by have z := HC_n (c := 5) (q := 1) hCx o_me t_me (own_z o_me) (by decide) rfl; rw [show Fx (me) ((1 : Nat) : Int) = F (me) (1 : Int) from (show Fx (me) (1 : Int) = F (me) (1 : Int) from hMx _ _ o_me (own_z o_me) (by rw [t_me]; rfl))] at z; exact ⟨z.1, z.2.1, z.2.2.1⟩
      have ly9 : ln (F (me) (1 : Int)) = 6 := y9.2.2 (by decide)
      refine jx_ld (pc_q := 13) (l_q := L) (st_q := [.int (i32 (p)), rv (F (me) (1 : Int))]) rfl (jl_iloadn gL_1) ?_
      have b10 := HC_l hCx y9.1 y9.2.1 (by decide)
      refine cx_aal (pc_q := 14) (z := p) rfl rfl y9.1 (by rw [y9.2.1]; decide) (by omega) (by omega) (by omega) ?_
      rw [show Fx (F (me) (1 : Int)) (p) = F (F (me) (1 : Int)) (p) from (show Fx (F (me) (1 : Int)) (p) = F (F (me) (1 : Int)) (p) from hMx _ _ y9.1 (own_z y9.1) (by rw [y9.2.1]; rfl))]
      have y11 : F (F (me) (1 : Int)) (p) = 0 ∨ (own m (F (F (me) (1 : Int)) (p)) ∧ tg (F (F (me) (1 : Int)) (p)) = 3) := by have z := HC_er (j := p) hCx y9.1 y9.2.1 (by decide) (by omega); rw [show Fx (F (me) (1 : Int)) (p) = F (F (me) (1 : Int)) (p) from (show Fx (F (me) (1 : Int)) (p) = F (F (me) (1 : Int)) (p) from hMx _ _ y9.1 (own_z y9.1) (by rw [y9.2.1]; rfl))] at z; exact z
      refine cx_nul (pc_q := 17) (tg_q := 26) rfl rfl rfl (fun h12 => ?_) (fun h12 => ?_)
      · have _q := h12
        refine jx_inc (pc_q := 29) (l_q := jSto1 L 1 (.int (i32 (p + (1))))) (x := p) rfl gL_1 (by decide) rfl rfl ?_
        obtain ⟨L13, eL13⟩ : ∃ q : jL, q = jSto1 L 1 (.int (i32 ((p + (1))))) := ⟨_, rfl⟩
        rw [← eL13]
        have g14 : jGet L13 0 = some (rv (me)) := eL13 ▸ jg_nr (by decide) gL_0
        have g15 : jGet L13 1 = some (.int (i32 ((p + (1))))) := eL13 ▸ jg_eq
        clear eL13
        refine jx_go (tg := 2) rfl rfl ?_
        exact ih _ (by omega) L13 Fx ((p + (1))) rfl g14 g15 hCx hMx (by omega) (by omega) (by omega) (SB_m cx_SB (by omega))
      · have _q := h12
        have ho16 : own m (F (F (me) (1 : Int)) (p)) ∧ tg (F (F (me) (1 : Int)) (p)) = 3 := y11.resolve_left h12
        refine jx_ld (pc_q := 18) (l_q := L) (st_q := [rv (me)]) rfl (jl_rvn gL_0) ?_
        refine cx_gr (pc_q := 21) (c := 5) (q := 1) (v := F (me) (1 : Int)) rfl rfl (by decide) (by decide) rfl rfl o_me t_me (show Fx (me) (1 : Int) = F (me) (1 : Int) from hMx _ _ o_me (own_z o_me) (by rw [t_me]; rfl)) ?_
        refine jx_ld (pc_q := 22) (l_q := L) (st_q := [.int (i32 (p)), rv (F (me) (1 : Int))]) rfl (jl_iloadn gL_1) ?_
        refine cx_aal (pc_q := 23) (z := p) rfl rfl y9.1 (by rw [y9.2.1]; decide) (by omega) (by omega) (by omega) ?_
        rw [show Fx (F (me) (1 : Int)) (p) = F (F (me) (1 : Int)) (p) from (show Fx (F (me) (1 : Int)) (p) = F (F (me) (1 : Int)) (p) from hMx _ _ y9.1 (own_z y9.1) (by rw [y9.2.1]; rfl))]
        refine cx_vi (c := 2) (a := F (F (me) (1 : Int)) (p)) (st := []) (as := []) rfl rfl rfl ho16.1 ho16.2 (by decide) rfl ⟨rfl, rfl, (Nat.le_of_ble_eq_true rfl)⟩ rfl (k_LCore_step (dd := d) (R := R) (m := m) (tg := tg) (ln := ln) (F := Fx) (me := F (F (me) (1 : Int)) (p)) (hd := by omega) (hC := hCx) (o_me := ho16.1) (t_me := ho16.2) (p_0 := by omega) (kk := kk + p) (c_SB := cx_SB)) (fun o V_q hq => ?_)
        obtain ⟨F17, rfl, rfl, hC18, hM19, c20, -⟩ := hq
        have hM21 : Fq 0 [(3, 5), (3, 6), (3, 7), (3, 8), (3, 9), (3, 10), (3, 11), (3, 12), (3, 13), (3, 14), (3, 16), (3, 17), (3, 18), (3, 19), (3, 20), (5, 2), (5, 3), (5, 4), (5, 5), (5, 6), (5, 7), (6, 4), (6, 6), (6, 7), (6, 8), (21, -5)] m tg F F17 := Fq_t (ln := ln) (ln1 := ln) hMx Ex_r hM19 (by decide) (Or.inl rfl)
        refine Or.inl ⟨rfl, ?_⟩
        refine jx_inc (pc_q := 29) (l_q := jSto1 L 1 (.int (i32 (p + (1))))) (x := p) rfl gL_1 (by decide) rfl rfl ?_
        obtain ⟨L22, eL22⟩ : ∃ q : jL, q = jSto1 L 1 (.int (i32 ((p + (1))))) := ⟨_, rfl⟩
        rw [← eL22]
        have g23 : jGet L22 0 = some (rv (me)) := eL22 ▸ jg_nr (by decide) gL_0
        have g24 : jGet L22 1 = some (.int (i32 ((p + (1))))) := eL22 ▸ jg_eq
        clear eL22
        refine jx_go (tg := 2) rfl rfl ?_
        exact ih _ (by omega) L22 F17 ((p + (1))) rfl g23 g24 hC18 hM21 (by omega) (by omega) (by omega) (SB_m c20 (by omega))
set_option maxRecDepth 20000 in
set_option maxHeartbeats 4000000 in
theorem k_LMachine_round {X : jX} {dd : Nat} {R : Nat → jC} {m : Nat} {tg ln : Int → Int} {F : Int → Int → Int} {kk : Int} {me : Int} (hd : 7 ≤ dd) (hC : HC 0 m tg ln F) (o_me : own m me) (t_me : tg me = 6) (p_0 : kk ≤ 2147483640) (c_SB : SB m tg F (kk)) : wk X dd 149 [rv me] (cV R m tg ln F) (fun o V_q => ∃ (F_q : Int → Int → Int), V_q = cV R m tg ln F_q ∧ o = .inl none ∧ HC 0 m tg ln F_q ∧ Fq 0 [(3, 5), (3, 6), (3, 7), (3, 8), (3, 9), (3, 10), (3, 11), (3, 12), (3, 13), (3, 14), (3, 16), (3, 17), (3, 18), (3, 19), (3, 20), (5, 2), (5, 3), (5, 4), (5, 5), (5, 6), (5, 7), (6, 4), (6, 6), (6, 7), (6, 8), (21, -5)] m tg F F_q ∧ (SB m tg F_q (kk + 6)) ∧ True) := by
  obtain ⟨d, rfl⟩ : ∃ d, dd = d + 1 := ⟨dd - 1, by omega⟩
  refine wk_of (e := jm149) rfl (by rw [jS_r, jS_0]; exact Nat.le_of_ble_eq_true rfl) ?_
  rw [la_r, la_0]
  show wj X d jm149 (0, [(0, rv (me))], [], cV R m tg ln F) _
  have hM0 : Fq 0 [(3, 5), (3, 6), (3, 7), (3, 8), (3, 9), (3, 10), (3, 11), (3, 12), (3, 13), (3, 14), (3, 16), (3, 17), (3, 18), (3, 19), (3, 20), (5, 2), (5, 3), (5, 4), (5, 5), (5, 6), (5, 7), (6, 4), (6, 6), (6, 7), (6, 8), (21, -5)] m tg F F := Fq_r
  obtain ⟨L0, eL0⟩ : ∃ q : jL, q = [(0, rv (me))] := ⟨_, rfl⟩
  rw [← eL0]
  have g25 : jGet L0 0 = some (rv (me)) := eL0 ▸ (rfl : jGet [(0, rv (me))] 0 = some (rv (me)))
  clear eL0
  refine jx_ar (pc_q := 1) (st_q := [.int (i32 (0))]) rfl rfl rfl rfl ?_
  refine jx_ld (pc_q := 2) (l_q := jSto1 L0 1 (.int (i32 (0)))) (st_q := []) rfl rfl ?_
  obtain ⟨L26, eL26⟩ : ∃ q : jL, q = jSto1 L0 1 (.int (i32 (0))) := ⟨_, rfl⟩
  rw [← eL26]
  have g27 : jGet L26 0 = some (rv (me)) := eL26 ▸ jg_nr (by decide) g25
  have g28 : jGet L26 1 = some (.int (i32 (0))) := eL26 ▸ jg_eq
  clear eL26
  exact k_LMachine_round_at_2 (X := X) (d := d) (R := R) (m := m) (tg := tg) (ln := ln) (F := F) (kk := kk) (me := me) (hd := hd) (hC := hC) (o_me := o_me) (t_me := t_me) (p_0 := p_0) (c_SB := c_SB) _ L26 F (0) rfl g27 g28 hC hM0 (by omega) (by omega) (by omega) (SB_m c_SB (by omega))
set_option maxRecDepth 20000 in
set_option maxHeartbeats 4000000 in
theorem k_LMachine_result_at_85 {X : jX} {d : Nat} {R : Nat → jC} {m : Nat} {tg ln : Int → Int} {F : Int → Int → Int} {me : Int} (hd : 2 ≤ d + 1) (hC : HC 0 m tg ln F) (o_me : own m me) (t_me : tg me = 6) : ∀ (mm : Nat) (L : jL) (id l : Int), (12 - l).toNat = mm → jGet L 0 = some (rv (me)) → jGet L 2 = some (.int (i32 id)) → jGet L 3 = some (.int (i32 l)) → ((-2147483648 : Int) ≤ id ∧ id ≤ 2147483647) → ((-2147483648 : Int) ≤ l ∧ l ≤ 2147483647) → (0 ≤ l) → (l ≤ 12) → wj X d jm152 (85, L, [], cV R m tg ln F) (fun o V_q => ∃ (r : Int), V_q = cV R m tg ln F ∧ o = .inl (some (.int (i32 r))) ∧ (-2147483648 ≤ r ∧ r ≤ 2147483647) ∧ True) := by
  intro mm
  induction mm using Nat.strongRecOn with
  | ind mm ih =>
    intro L id l hmm gL_0 gL_2 gL_3 rx_id rx_l iv_0 iv_1
    refine jx_ld (pc_q := 86) (l_q := L) (st_q := [.int (i32 (l))]) rfl (jl_iloadn gL_3) ?_
    refine jx_ld (pc_q := 87) (l_q := L) (st_q := [rv (me), .int (i32 (l))]) rfl (jl_rvn gL_0) ?_
    refine cx_gr (pc_q := 90) (c := 5) (q := 0) (v := F (me) (0 : Int)) rfl rfl (by decide) (by decide) rfl rfl o_me t_me rfl ?_
    have y1 : own m (F (me) (0 : Int)) ∧ tg (F (me) (0 : Int)) = 10 ∧ ((0 : Int) ≠ 0 → ln (F (me) (0 : Int)) = 0) := by have z := HC_n (c := 5) (q := 0) hC o_me t_me (own_z o_me) (by decide) rfl; rw [show F (me) ((0 : Nat) : Int) = F (me) (0 : Int) from rfl] at z; exact ⟨z.1, z.2.1, z.2.2.1⟩
    refine cx_gi (pc_q := 93) (c := 9) (q := 7) (v := F (F (me) (0 : Int)) (7 : Int)) rfl rfl (by decide) (by decide) (Or.inl rfl) rfl y1.1 y1.2.1 rfl ?_
    have b2 : (0 : Int) ≤ F (F (me) (0 : Int)) (7 : Int) ∧ F (F (me) (0 : Int)) (7 : Int) ≤ 12 := by have z := HC_i (c := 9) (q := 7) hC y1.1 y1.2.1 (by decide) rfl; rw [show F (F (me) (0 : Int)) ((7 : Nat) : Int) = F (F (me) (0 : Int)) (7 : Int) from rfl] at z; exact z
    refine jx_icmp_ge (pc_q := 96) (tg := 132) rfl rfl rfl (by omega) (by omega) (by omega) (by omega) (fun h3 => ?_) (fun h3 => ?_)
    · have _q := h3
      refine jx_ld (pc_q := 133) (l_q := L) (st_q := [.int (i32 (id))]) rfl (jl_iloadn gL_2) ?_
      refine jx_if_eq (pc_q := 136) (tg := 140) rfl rfl rfl (by omega) (by omega) (fun h4 => ?_) (fun h4 => ?_)
      · have _q := h4
        refine jx_ar (pc_q := 141) (st_q := [.int (i32 (0))]) rfl rfl rfl rfl ?_
        refine jx_rt (v := some (.int (i32 (0)))) rfl rfl rfl rfl rfl rfl ?_
        exact ⟨(0), rfl, rfl, by omega, trivial⟩
      · have _q := h4
        refine jx_ar (pc_q := 137) (st_q := [.int (i32 (2))]) rfl rfl rfl rfl ?_
        refine jx_go (tg := 141) rfl rfl ?_
        refine jx_rt (v := some (.int (i32 (2)))) rfl rfl rfl rfl rfl rfl ?_
        exact ⟨(2), rfl, rfl, by omega, trivial⟩
    · have _q := h3
      refine jx_ld (pc_q := 97) (l_q := L) (st_q := [.int (i32 (id))]) rfl (jl_iloadn gL_2) ?_
      refine jx_if_eq (pc_q := 100) (tg := 132) rfl rfl rfl (by omega) (by omega) (fun h5 => ?_) (fun h5 => ?_)
      · have _q := h5
        refine jx_ld (pc_q := 133) (l_q := L) (st_q := [.int (i32 (id))]) rfl (jl_iloadn gL_2) ?_
        refine jx_if_eq (pc_q := 136) (tg := 140) rfl rfl rfl (by omega) (by omega) (fun h6 => ?_) (fun h6 => ?_)
        · have _q := h6
          refine jx_ar (pc_q := 141) (st_q := [.int (i32 (0))]) rfl rfl rfl rfl ?_
          refine jx_rt (v := some (.int (i32 (0)))) rfl rfl rfl rfl rfl rfl ?_
          exact ⟨(0), rfl, rfl, by omega, trivial⟩
        · have _q := h6
          refine jx_ar (pc_q := 137) (st_q := [.int (i32 (2))]) rfl rfl rfl rfl ?_
          refine jx_go (tg := 141) rfl rfl ?_
          refine jx_rt (v := some (.int (i32 (2)))) rfl rfl rfl rfl rfl rfl ?_
          exact ⟨(2), rfl, rfl, by omega, trivial⟩
      · have _q := h5
        refine jx_ld (pc_q := 101) (l_q := L) (st_q := [rv (me)]) rfl (jl_rvn gL_0) ?_
        refine jx_ld (pc_q := 102) (l_q := L) (st_q := [.int (i32 (l)), rv (me)]) rfl (jl_iloadn gL_3) ?_
        refine cx_vi (c := 5) (a := me) (st := []) (as := [.int (i32 (l))]) rfl rfl rfl o_me t_me (by decide) rfl ⟨rfl, rfl, (Nat.le_of_ble_eq_true rfl)⟩ rfl (k_LMachine_linkAt (dd := d) (R := R) (m := m) (tg := tg) (ln := ln) (F := F) (me := me) (a0 := l) (hd := by omega) (hC := hC) (o_me := o_me) (t_me := t_me) (h_a0 := by omega)) (fun o V_q hq => ?_)
        obtain ⟨r7, rfl, rfl, b8, -⟩ := hq
        refine Or.inr (Or.inl ⟨_, rfl, ?_⟩)
        refine jx_ld (pc_q := 107) (l_q := jSto1 L 4 (rv (r7))) (st_q := []) rfl (js_rv (by decide)) ?_
        obtain ⟨L9, eL9⟩ : ∃ q : jL, q = jSto1 L 4 (rv (r7)) := ⟨_, rfl⟩
        rw [← eL9]
        have g10 : jGet L9 0 = some (rv (me)) := eL9 ▸ jg_nr (by decide) gL_0
        have g11 : jGet L9 2 = some (.int (i32 (id))) := eL9 ▸ jg_ne (by decide) gL_2 rfl
        have g12 : jGet L9 3 = some (.int (i32 (l))) := eL9 ▸ jg_ne (by decide) gL_3 rfl
        have g13 : jGet L9 4 = some (rv (r7)) := eL9 ▸ jg_eq
        clear eL9
        refine jx_ld (pc_q := 109) (l_q := L9) (st_q := [rv (r7)]) rfl (jl_rv g13) ?_
        refine cx_nul (pc_q := 112) (tg_q := 120) rfl rfl rfl (fun h14 => ?_) (fun h14 => ?_)
        · have _q := h14
          refine jx_ar (pc_q := 121) (st_q := [.int (i32 (1))]) rfl rfl rfl rfl ?_
          refine jx_go (tg := 125) rfl rfl ?_
          refine jx_ld (pc_q := 126) (l_q := jSto1 L9 2 (.int (i32 (1)))) (st_q := []) rfl rfl ?_
          obtain ⟨L15, eL15⟩ : ∃ q : jL, q = jSto1 L9 2 (.int (i32 (1))) := ⟨_, rfl⟩
          rw [← eL15]
          have g16 : jGet L15 0 = some (rv (me)) := eL15 ▸ jg_nr (by decide) g10
          have g17 : jGet L15 3 = some (.int (i32 (l))) := eL15 ▸ jg_ne (by decide) g12 rfl
          have g18 : jGet L15 4 = some (rv (r7)) := eL15 ▸ jg_nr (by decide) g13
          have g19 : jGet L15 2 = some (.int (i32 (1))) := eL15 ▸ jg_eq
          clear eL15
          refine jx_inc (pc_q := 129) (l_q := jSto1 L15 3 (.int (i32 (l + (1))))) (x := l) rfl g17 (by decide) rfl rfl ?_
          obtain ⟨L20, eL20⟩ : ∃ q : jL, q = jSto1 L15 3 (.int (i32 ((l + (1))))) := ⟨_, rfl⟩
          rw [← eL20]
          have g21 : jGet L20 0 = some (rv (me)) := eL20 ▸ jg_nr (by decide) g16
          have g22 : jGet L20 4 = some (rv (r7)) := eL20 ▸ jg_nr (by decide) g18
          have g23 : jGet L20 2 = some (.int (i32 (1))) := eL20 ▸ jg_ne (by decide) g19 rfl
          have g24 : jGet L20 3 = some (.int (i32 ((l + (1))))) := eL20 ▸ jg_eq
          clear eL20
          refine jx_go (tg := 85) rfl rfl ?_
          exact ih _ (by omega) L20 (1) ((l + (1))) rfl g21 g23 g24 (by omega) (by omega) (by omega) (by omega)
        · have _q := h14
          have ho25 : own m (r7) ∧ tg (r7) = 5 := b8.resolve_left h14
          refine jx_ld (pc_q := 114) (l_q := L9) (st_q := [rv (r7)]) rfl (jl_rv g13) ?_
          refine cx_vi (c := 4) (a := r7) (st := []) (as := []) rfl rfl rfl ho25.1 ho25.2 (by decide) rfl ⟨rfl, rfl, (Nat.le_of_ble_eq_true rfl)⟩ rfl (k_LLink_isBusy (dd := d) (R := R) (m := m) (tg := tg) (ln := ln) (F := F) (me := r7) (hd := by omega) (hC := hC) (o_me := ho25.1) (t_me := ho25.2)) (fun o V_q hq => ?_)
          obtain ⟨r26, rfl, rfl, b27, -⟩ := hq
          refine Or.inr (Or.inl ⟨_, rfl, ?_⟩)
          refine jx_if_ne (pc_q := 120) (tg := 124) rfl rfl rfl (by omega) (by omega) (fun h28 => ?_) (fun h28 => ?_)
          · have _q := h28
            refine jx_ar (pc_q := 125) (st_q := [.int (i32 (0))]) rfl rfl rfl rfl ?_
            refine jx_ld (pc_q := 126) (l_q := jSto1 L9 2 (.int (i32 (0)))) (st_q := []) rfl rfl ?_
            obtain ⟨L29, eL29⟩ : ∃ q : jL, q = jSto1 L9 2 (.int (i32 (0))) := ⟨_, rfl⟩
            rw [← eL29]
            have g30 : jGet L29 0 = some (rv (me)) := eL29 ▸ jg_nr (by decide) g10
            have g31 : jGet L29 3 = some (.int (i32 (l))) := eL29 ▸ jg_ne (by decide) g12 rfl
            have g32 : jGet L29 4 = some (rv (r7)) := eL29 ▸ jg_nr (by decide) g13
            have g33 : jGet L29 2 = some (.int (i32 (0))) := eL29 ▸ jg_eq
            clear eL29
            refine jx_inc (pc_q := 129) (l_q := jSto1 L29 3 (.int (i32 (l + (1))))) (x := l) rfl g31 (by decide) rfl rfl ?_
            obtain ⟨L34, eL34⟩ : ∃ q : jL, q = jSto1 L29 3 (.int (i32 ((l + (1))))) := ⟨_, rfl⟩
            rw [← eL34]
            have g35 : jGet L34 0 = some (rv (me)) := eL34 ▸ jg_nr (by decide) g30
            have g36 : jGet L34 4 = some (rv (r7)) := eL34 ▸ jg_nr (by decide) g32
            have g37 : jGet L34 2 = some (.int (i32 (0))) := eL34 ▸ jg_ne (by decide) g33 rfl
            have g38 : jGet L34 3 = some (.int (i32 ((l + (1))))) := eL34 ▸ jg_eq
            clear eL34
            refine jx_go (tg := 85) rfl rfl ?_
            exact ih _ (by omega) L34 (0) ((l + (1))) rfl g35 g37 g38 (by omega) (by omega) (by omega) (by omega)
          · have _q := h28
            refine jx_ar (pc_q := 121) (st_q := [.int (i32 (1))]) rfl rfl rfl rfl ?_
            refine jx_go (tg := 125) rfl rfl ?_
            refine jx_ld (pc_q := 126) (l_q := jSto1 L9 2 (.int (i32 (1)))) (st_q := []) rfl rfl ?_
            obtain ⟨L39, eL39⟩ : ∃ q : jL, q = jSto1 L9 2 (.int (i32 (1))) := ⟨_, rfl⟩
            rw [← eL39]
            have g40 : jGet L39 0 = some (rv (me)) := eL39 ▸ jg_nr (by decide) g10
            have g41 : jGet L39 3 = some (.int (i32 (l))) := eL39 ▸ jg_ne (by decide) g12 rfl
            have g42 : jGet L39 4 = some (rv (r7)) := eL39 ▸ jg_nr (by decide) g13
            have g43 : jGet L39 2 = some (.int (i32 (1))) := eL39 ▸ jg_eq
            clear eL39
            refine jx_inc (pc_q := 129) (l_q := jSto1 L39 3 (.int (i32 (l + (1))))) (x := l) rfl g41 (by decide) rfl rfl ?_
            obtain ⟨L44, eL44⟩ : ∃ q : jL, q = jSto1 L39 3 (.int (i32 ((l + (1))))) := ⟨_, rfl⟩
            rw [← eL44]
            have g45 : jGet L44 0 = some (rv (me)) := eL44 ▸ jg_nr (by decide) g40
            have g46 : jGet L44 4 = some (rv (r7)) := eL44 ▸ jg_nr (by decide) g42
            have g47 : jGet L44 2 = some (.int (i32 (1))) := eL44 ▸ jg_ne (by decide) g43 rfl
            have g48 : jGet L44 3 = some (.int (i32 ((l + (1))))) := eL44 ▸ jg_eq
            clear eL44
            refine jx_go (tg := 85) rfl rfl ?_
            exact ih _ (by omega) L44 (1) ((l + (1))) rfl g45 g47 g48 (by omega) (by omega) (by omega) (by omega)
set_option maxRecDepth 20000 in
set_option maxHeartbeats 4000000 in
theorem k_LMachine_result_at_6 {X : jX} {d : Nat} {R : Nat → jC} {m : Nat} {tg ln : Int → Int} {F : Int → Int → Int} {me : Int} (hd : 2 ≤ d + 1) (hC : HC 0 m tg ln F) (o_me : own m me) (t_me : tg me = 6) : ∀ (mm : Nat) (L : jL) (dn id p : Int), (6 - p).toNat = mm → jGet L 0 = some (rv (me)) → jGet L 1 = some (.int (i32 dn)) → jGet L 2 = some (.int (i32 id)) → jGet L 3 = some (.int (i32 p)) → ((-2147483648 : Int) ≤ dn ∧ dn ≤ 2147483647) → ((-2147483648 : Int) ≤ id ∧ id ≤ 2147483647) → ((-2147483648 : Int) ≤ p ∧ p ≤ 2147483647) → (0 ≤ p) → (p ≤ 6) → wj X d jm152 (6, L, [], cV R m tg ln F) (fun o V_q => ∃ (r : Int), V_q = cV R m tg ln F ∧ o = .inl (some (.int (i32 r))) ∧ (-2147483648 ≤ r ∧ r ≤ 2147483647) ∧ True) := by
  intro mm
  induction mm using Nat.strongRecOn with
  | ind mm ih =>
    intro L dn id p hmm gL_0 gL_1 gL_2 gL_3 rx_dn rx_id rx_p iv_0 iv_1
    refine jx_ld (pc_q := 7) (l_q := L) (st_q := [.int (i32 (p))]) rfl (jl_iloadn gL_3) ?_
    refine jx_ar (pc_q := 9) (st_q := [.int (i32 (6)), .int (i32 (p))]) rfl rfl rfl rfl ?_
    refine jx_icmp_ge (pc_q := 12) (tg := 77) rfl rfl rfl (by omega) (by omega) (by decide) (by decide) (fun h49 => ?_) (fun h49 => ?_)
    · have _q := h49
      refine jx_ld (pc_q := 78) (l_q := L) (st_q := [.int (i32 (dn))]) rfl (jl_iloadn gL_1) ?_
      refine jx_if_eq (pc_q := 81) (tg := 83) rfl rfl rfl (by omega) (by omega) (fun h50 => ?_) (fun h50 => ?_)
      · have _q := h50
        refine jx_ar (pc_q := 84) (st_q := [.int (i32 (0))]) rfl rfl rfl rfl ?_
        refine jx_ld (pc_q := 85) (l_q := jSto1 L 3 (.int (i32 (0)))) (st_q := []) rfl rfl ?_
        obtain ⟨L51, eL51⟩ : ∃ q : jL, q = jSto1 L 3 (.int (i32 (0))) := ⟨_, rfl⟩
        rw [← eL51]
        have g52 : jGet L51 0 = some (rv (me)) := eL51 ▸ jg_nr (by decide) gL_0
        have g53 : jGet L51 1 = some (.int (i32 (dn))) := eL51 ▸ jg_ne (by decide) gL_1 rfl
        have g54 : jGet L51 2 = some (.int (i32 (id))) := eL51 ▸ jg_ne (by decide) gL_2 rfl
        have g55 : jGet L51 3 = some (.int (i32 (0))) := eL51 ▸ jg_eq
        clear eL51
        exact k_LMachine_result_at_85 (X := X) (d := d) (R := R) (m := m) (tg := tg) (ln := ln) (F := F) (me := me) (hd := hd) (hC := hC) (o_me := o_me) (t_me := t_me) _ L51 (id) (0) rfl g52 g54 g55 (by omega) (by omega) (by omega) (by omega)
      · have _q := h50
        refine jx_ar (pc_q := 82) (st_q := [.int (i32 (1))]) rfl rfl rfl rfl ?_
        refine jx_rt (v := some (.int (i32 (1)))) rfl rfl rfl rfl rfl rfl ?_
        exact ⟨(1), rfl, rfl, by omega, trivial⟩
    · have _q := h49
      refine jx_ld (pc_q := 13) (l_q := L) (st_q := [rv (me)]) rfl (jl_rvn gL_0) ?_
      refine cx_gr (pc_q := 16) (c := 5) (q := 1) (v := F (me) (1 : Int)) rfl rfl (by decide) (by decide) rfl rfl o_me t_me rfl ?_
      have y56 : own m (F (me) (1 : Int)) ∧ tg (F (me) (1 : Int)) = 27 ∧ ((6 : Int) ≠ 0 → ln (F (me) (1 : Int)) = 6) := by have z := HC_n (c := 5) (q := 1) hC o_me t_me (own_z o_me) (by decide) rfl; rw [show F (me) ((1 : Nat) : Int) = F (me) (1 : Int) from rfl] at z; exact ⟨z.1, z.2.1, z.2.2.1⟩
      have ly56 : ln (F (me) (1 : Int)) = 6 := y56.2.2 (by decide)
      refine jx_ld (pc_q := 17) (l_q := L) (st_q := [.int (i32 (p)), rv (F (me) (1 : Int))]) rfl (jl_iloadn gL_3) ?_
      have b57 := HC_l hC y56.1 y56.2.1 (by decide)
      refine cx_aal (pc_q := 18) (z := p) rfl rfl y56.1 (by rw [y56.2.1]; decide) (by omega) (by omega) (by omega) ?_
      have y58 : F (F (me) (1 : Int)) (p) = 0 ∨ (own m (F (F (me) (1 : Int)) (p)) ∧ tg (F (F (me) (1 : Int)) (p)) = 3) := by have z := HC_er (j := p) hC y56.1 y56.2.1 (by decide) (by omega); exact z
      refine jx_ld (pc_q := 20) (l_q := jSto1 L 4 (rv (F (F (me) (1 : Int)) (p)))) (st_q := []) rfl (js_rv (by decide)) ?_
      obtain ⟨L59, eL59⟩ : ∃ q : jL, q = jSto1 L 4 (rv (F (F (me) (1 : Int)) (p))) := ⟨_, rfl⟩
      rw [← eL59]
      have g60 : jGet L59 0 = some (rv (me)) := eL59 ▸ jg_nr (by decide) gL_0
      have g61 : jGet L59 1 = some (.int (i32 (dn))) := eL59 ▸ jg_ne (by decide) gL_1 rfl
      have g62 : jGet L59 2 = some (.int (i32 (id))) := eL59 ▸ jg_ne (by decide) gL_2 rfl
      have g63 : jGet L59 3 = some (.int (i32 (p))) := eL59 ▸ jg_ne (by decide) gL_3 rfl
      have g64 : jGet L59 4 = some (rv (F (F (me) (1 : Int)) (p))) := eL59 ▸ jg_eq
      clear eL59
      refine jx_ld (pc_q := 22) (l_q := L59) (st_q := [rv (F (F (me) (1 : Int)) (p))]) rfl (jl_rv g64) ?_
      refine cx_nul (pc_q := 25) (tg_q := 71) rfl rfl rfl (fun h65 => ?_) (fun h65 => ?_)
      · have _q := h65
        refine jx_inc (pc_q := 74) (l_q := jSto1 L59 3 (.int (i32 (p + (1))))) (x := p) rfl g63 (by decide) rfl rfl ?_
        obtain ⟨L66, eL66⟩ : ∃ q : jL, q = jSto1 L59 3 (.int (i32 ((p + (1))))) := ⟨_, rfl⟩
        rw [← eL66]
        have g67 : jGet L66 0 = some (rv (me)) := eL66 ▸ jg_nr (by decide) g60
        have g68 : jGet L66 1 = some (.int (i32 (dn))) := eL66 ▸ jg_ne (by decide) g61 rfl
        have g69 : jGet L66 2 = some (.int (i32 (id))) := eL66 ▸ jg_ne (by decide) g62 rfl
        have g70 : jGet L66 4 = some (rv (F (F (me) (1 : Int)) (p))) := eL66 ▸ jg_nr (by decide) g64
        have g71 : jGet L66 3 = some (.int (i32 ((p + (1))))) := eL66 ▸ jg_eq
        clear eL66
        refine jx_go (tg := 6) rfl rfl ?_
        exact ih _ (by omega) L66 (dn) (id) ((p + (1))) rfl g67 g68 g69 g71 (by omega) (by omega) (by omega) (by omega) (by omega)
      · have _q := h65
        have ho72 : own m (F (F (me) (1 : Int)) (p)) ∧ tg (F (F (me) (1 : Int)) (p)) = 3 := y58.resolve_left h65
        refine jx_ld (pc_q := 27) (l_q := L59) (st_q := [rv (F (F (me) (1 : Int)) (p))]) rfl (jl_rv g64) ?_
        refine cx_gi (pc_q := 30) (c := 2) (q := 13) (v := F (F (F (me) (1 : Int)) (p)) (13 : Int)) rfl rfl (by decide) (by decide) (Or.inl rfl) rfl ho72.1 ho72.2 rfl ?_
        have b73 : (-2147483648 : Int) ≤ F (F (F (me) (1 : Int)) (p)) (13 : Int) ∧ F (F (F (me) (1 : Int)) (p)) (13 : Int) ≤ 2147483647 := by have z := HC_i (c := 2) (q := 13) hC ho72.1 ho72.2 (by decide) rfl; rw [show F (F (F (me) (1 : Int)) (p)) ((13 : Nat) : Int) = F (F (F (me) (1 : Int)) (p)) (13 : Int) from rfl] at z; exact z
        refine jx_if_eq (pc_q := 33) (tg := 35) rfl rfl rfl (by omega) (by omega) (fun h74 => ?_) (fun h74 => ?_)
        · have _q := h74
          refine jx_ld (pc_q := 36) (l_q := L59) (st_q := [.int (i32 (dn))]) rfl (jl_iloadn g61) ?_
          refine jx_if_eq (pc_q := 39) (tg := 51) rfl rfl rfl (by omega) (by omega) (fun h75 => ?_) (fun h75 => ?_)
          · have _q := h75
            refine jx_ar (pc_q := 52) (st_q := [.int (i32 (0))]) rfl rfl rfl rfl ?_
            refine jx_ld (pc_q := 53) (l_q := jSto1 L59 1 (.int (i32 (0)))) (st_q := []) rfl rfl ?_
            obtain ⟨L76, eL76⟩ : ∃ q : jL, q = jSto1 L59 1 (.int (i32 (0))) := ⟨_, rfl⟩
            rw [← eL76]
            have g77 : jGet L76 0 = some (rv (me)) := eL76 ▸ jg_nr (by decide) g60
            have g78 : jGet L76 2 = some (.int (i32 (id))) := eL76 ▸ jg_ne (by decide) g62 rfl
            have g79 : jGet L76 3 = some (.int (i32 (p))) := eL76 ▸ jg_ne (by decide) g63 rfl
            have g80 : jGet L76 4 = some (rv (F (F (me) (1 : Int)) (p))) := eL76 ▸ jg_nr (by decide) g64
            have g81 : jGet L76 1 = some (.int (i32 (0))) := eL76 ▸ jg_eq
            clear eL76
            refine jx_ld (pc_q := 54) (l_q := L76) (st_q := [.int (i32 (id))]) rfl (jl_iloadn g78) ?_
            refine jx_if_eq (pc_q := 57) (tg := 69) rfl rfl rfl (by omega) (by omega) (fun h82 => ?_) (fun h82 => ?_)
            · have _q := h82
              refine jx_ar (pc_q := 70) (st_q := [.int (i32 (0))]) rfl rfl rfl rfl ?_
              refine jx_ld (pc_q := 71) (l_q := jSto1 L76 2 (.int (i32 (0)))) (st_q := []) rfl rfl ?_
              obtain ⟨L83, eL83⟩ : ∃ q : jL, q = jSto1 L76 2 (.int (i32 (0))) := ⟨_, rfl⟩
              rw [← eL83]
              have g84 : jGet L83 0 = some (rv (me)) := eL83 ▸ jg_nr (by decide) g77
              have g85 : jGet L83 3 = some (.int (i32 (p))) := eL83 ▸ jg_ne (by decide) g79 rfl
              have g86 : jGet L83 4 = some (rv (F (F (me) (1 : Int)) (p))) := eL83 ▸ jg_nr (by decide) g80
              have g87 : jGet L83 1 = some (.int (i32 (0))) := eL83 ▸ jg_ne (by decide) g81 rfl
              have g88 : jGet L83 2 = some (.int (i32 (0))) := eL83 ▸ jg_eq
              clear eL83
              refine jx_inc (pc_q := 74) (l_q := jSto1 L83 3 (.int (i32 (p + (1))))) (x := p) rfl g85 (by decide) rfl rfl ?_
              obtain ⟨L89, eL89⟩ : ∃ q : jL, q = jSto1 L83 3 (.int (i32 ((p + (1))))) := ⟨_, rfl⟩
              rw [← eL89]
              have g90 : jGet L89 0 = some (rv (me)) := eL89 ▸ jg_nr (by decide) g84
              have g91 : jGet L89 4 = some (rv (F (F (me) (1 : Int)) (p))) := eL89 ▸ jg_nr (by decide) g86
              have g92 : jGet L89 1 = some (.int (i32 (0))) := eL89 ▸ jg_ne (by decide) g87 rfl
              have g93 : jGet L89 2 = some (.int (i32 (0))) := eL89 ▸ jg_ne (by decide) g88 rfl
              have g94 : jGet L89 3 = some (.int (i32 ((p + (1))))) := eL89 ▸ jg_eq
              clear eL89
              refine jx_go (tg := 6) rfl rfl ?_
              exact ih _ (by omega) L89 (0) (0) ((p + (1))) rfl g90 g92 g93 g94 (by omega) (by omega) (by omega) (by omega) (by omega)
            · have _q := h82
              refine jx_ld (pc_q := 59) (l_q := L76) (st_q := [rv (F (F (me) (1 : Int)) (p))]) rfl (jl_rv g80) ?_
              refine cx_gi (pc_q := 62) (c := 2) (q := 11) (v := F (F (F (me) (1 : Int)) (p)) (11 : Int)) rfl rfl (by decide) (by decide) (Or.inr rfl) rfl ho72.1 ho72.2 rfl ?_
              have b95 : (0 : Int) ≤ F (F (F (me) (1 : Int)) (p)) (11 : Int) ∧ F (F (F (me) (1 : Int)) (p)) (11 : Int) ≤ 1 := by have z := HC_i (c := 2) (q := 11) hC ho72.1 ho72.2 (by decide) rfl; rw [show F (F (F (me) (1 : Int)) (p)) ((11 : Nat) : Int) = F (F (F (me) (1 : Int)) (p)) (11 : Int) from rfl] at z; exact z
              refine jx_if_ne (pc_q := 65) (tg := 69) rfl rfl rfl (by omega) (by omega) (fun h96 => ?_) (fun h96 => ?_)
              · have _q := h96
                refine jx_ar (pc_q := 70) (st_q := [.int (i32 (0))]) rfl rfl rfl rfl ?_
                refine jx_ld (pc_q := 71) (l_q := jSto1 L76 2 (.int (i32 (0)))) (st_q := []) rfl rfl ?_
                obtain ⟨L97, eL97⟩ : ∃ q : jL, q = jSto1 L76 2 (.int (i32 (0))) := ⟨_, rfl⟩
                rw [← eL97]
                have g98 : jGet L97 0 = some (rv (me)) := eL97 ▸ jg_nr (by decide) g77
                have g99 : jGet L97 3 = some (.int (i32 (p))) := eL97 ▸ jg_ne (by decide) g79 rfl
                have g100 : jGet L97 4 = some (rv (F (F (me) (1 : Int)) (p))) := eL97 ▸ jg_nr (by decide) g80
                have g101 : jGet L97 1 = some (.int (i32 (0))) := eL97 ▸ jg_ne (by decide) g81 rfl
                have g102 : jGet L97 2 = some (.int (i32 (0))) := eL97 ▸ jg_eq
                clear eL97
                refine jx_inc (pc_q := 74) (l_q := jSto1 L97 3 (.int (i32 (p + (1))))) (x := p) rfl g99 (by decide) rfl rfl ?_
                obtain ⟨L103, eL103⟩ : ∃ q : jL, q = jSto1 L97 3 (.int (i32 ((p + (1))))) := ⟨_, rfl⟩
                rw [← eL103]
                have g104 : jGet L103 0 = some (rv (me)) := eL103 ▸ jg_nr (by decide) g98
                have g105 : jGet L103 4 = some (rv (F (F (me) (1 : Int)) (p))) := eL103 ▸ jg_nr (by decide) g100
                have g106 : jGet L103 1 = some (.int (i32 (0))) := eL103 ▸ jg_ne (by decide) g101 rfl
                have g107 : jGet L103 2 = some (.int (i32 (0))) := eL103 ▸ jg_ne (by decide) g102 rfl
                have g108 : jGet L103 3 = some (.int (i32 ((p + (1))))) := eL103 ▸ jg_eq
                clear eL103
                refine jx_go (tg := 6) rfl rfl ?_
                exact ih _ (by omega) L103 (0) (0) ((p + (1))) rfl g104 g106 g107 g108 (by omega) (by omega) (by omega) (by omega) (by omega)
              · have _q := h96
                refine jx_ar (pc_q := 66) (st_q := [.int (i32 (1))]) rfl rfl rfl rfl ?_
                refine jx_go (tg := 70) rfl rfl ?_
                refine jx_ld (pc_q := 71) (l_q := jSto1 L76 2 (.int (i32 (1)))) (st_q := []) rfl rfl ?_
                obtain ⟨L109, eL109⟩ : ∃ q : jL, q = jSto1 L76 2 (.int (i32 (1))) := ⟨_, rfl⟩
                rw [← eL109]
                have g110 : jGet L109 0 = some (rv (me)) := eL109 ▸ jg_nr (by decide) g77
                have g111 : jGet L109 3 = some (.int (i32 (p))) := eL109 ▸ jg_ne (by decide) g79 rfl
                have g112 : jGet L109 4 = some (rv (F (F (me) (1 : Int)) (p))) := eL109 ▸ jg_nr (by decide) g80
                have g113 : jGet L109 1 = some (.int (i32 (0))) := eL109 ▸ jg_ne (by decide) g81 rfl
                have g114 : jGet L109 2 = some (.int (i32 (1))) := eL109 ▸ jg_eq
                clear eL109
                refine jx_inc (pc_q := 74) (l_q := jSto1 L109 3 (.int (i32 (p + (1))))) (x := p) rfl g111 (by decide) rfl rfl ?_
                obtain ⟨L115, eL115⟩ : ∃ q : jL, q = jSto1 L109 3 (.int (i32 ((p + (1))))) := ⟨_, rfl⟩
                rw [← eL115]
                have g116 : jGet L115 0 = some (rv (me)) := eL115 ▸ jg_nr (by decide) g110
                have g117 : jGet L115 4 = some (rv (F (F (me) (1 : Int)) (p))) := eL115 ▸ jg_nr (by decide) g112
                have g118 : jGet L115 1 = some (.int (i32 (0))) := eL115 ▸ jg_ne (by decide) g113 rfl
                have g119 : jGet L115 2 = some (.int (i32 (1))) := eL115 ▸ jg_ne (by decide) g114 rfl
                have g120 : jGet L115 3 = some (.int (i32 ((p + (1))))) := eL115 ▸ jg_eq
                clear eL115
                refine jx_go (tg := 6) rfl rfl ?_
                exact ih _ (by omega) L115 (0) (1) ((p + (1))) rfl g116 g118 g119 g120 (by omega) (by omega) (by omega) (by omega) (by omega)
          · have _q := h75
            refine jx_ld (pc_q := 41) (l_q := L59) (st_q := [rv (F (F (me) (1 : Int)) (p))]) rfl (jl_rv g64) ?_
            refine cx_gi (pc_q := 44) (c := 2) (q := 14) (v := F (F (F (me) (1 : Int)) (p)) (14 : Int)) rfl rfl (by decide) (by decide) (Or.inl rfl) rfl ho72.1 ho72.2 rfl ?_
            have b121 : (-2147483648 : Int) ≤ F (F (F (me) (1 : Int)) (p)) (14 : Int) ∧ F (F (F (me) (1 : Int)) (p)) (14 : Int) ≤ 2147483647 := by have z := HC_i (c := 2) (q := 14) hC ho72.1 ho72.2 (by decide) rfl; rw [show F (F (F (me) (1 : Int)) (p)) ((14 : Nat) : Int) = F (F (F (me) (1 : Int)) (p)) (14 : Int) from rfl] at z; exact z
            refine jx_if_eq (pc_q := 47) (tg := 51) rfl rfl rfl (by omega) (by omega) (fun h122 => ?_) (fun h122 => ?_)
            · have _q := h122
              refine jx_ar (pc_q := 52) (st_q := [.int (i32 (0))]) rfl rfl rfl rfl ?_
              refine jx_ld (pc_q := 53) (l_q := jSto1 L59 1 (.int (i32 (0)))) (st_q := []) rfl rfl ?_
              obtain ⟨L123, eL123⟩ : ∃ q : jL, q = jSto1 L59 1 (.int (i32 (0))) := ⟨_, rfl⟩
              rw [← eL123]
              have g124 : jGet L123 0 = some (rv (me)) := eL123 ▸ jg_nr (by decide) g60
              have g125 : jGet L123 2 = some (.int (i32 (id))) := eL123 ▸ jg_ne (by decide) g62 rfl
              have g126 : jGet L123 3 = some (.int (i32 (p))) := eL123 ▸ jg_ne (by decide) g63 rfl
              have g127 : jGet L123 4 = some (rv (F (F (me) (1 : Int)) (p))) := eL123 ▸ jg_nr (by decide) g64
              have g128 : jGet L123 1 = some (.int (i32 (0))) := eL123 ▸ jg_eq
              clear eL123
              refine jx_ld (pc_q := 54) (l_q := L123) (st_q := [.int (i32 (id))]) rfl (jl_iloadn g125) ?_
              refine jx_if_eq (pc_q := 57) (tg := 69) rfl rfl rfl (by omega) (by omega) (fun h129 => ?_) (fun h129 => ?_)
              · have _q := h129
                refine jx_ar (pc_q := 70) (st_q := [.int (i32 (0))]) rfl rfl rfl rfl ?_
                refine jx_ld (pc_q := 71) (l_q := jSto1 L123 2 (.int (i32 (0)))) (st_q := []) rfl rfl ?_
                obtain ⟨L130, eL130⟩ : ∃ q : jL, q = jSto1 L123 2 (.int (i32 (0))) := ⟨_, rfl⟩
                rw [← eL130]
                have g131 : jGet L130 0 = some (rv (me)) := eL130 ▸ jg_nr (by decide) g124
                have g132 : jGet L130 3 = some (.int (i32 (p))) := eL130 ▸ jg_ne (by decide) g126 rfl
                have g133 : jGet L130 4 = some (rv (F (F (me) (1 : Int)) (p))) := eL130 ▸ jg_nr (by decide) g127
                have g134 : jGet L130 1 = some (.int (i32 (0))) := eL130 ▸ jg_ne (by decide) g128 rfl
                have g135 : jGet L130 2 = some (.int (i32 (0))) := eL130 ▸ jg_eq
                clear eL130
                refine jx_inc (pc_q := 74) (l_q := jSto1 L130 3 (.int (i32 (p + (1))))) (x := p) rfl g132 (by decide) rfl rfl ?_
                obtain ⟨L136, eL136⟩ : ∃ q : jL, q = jSto1 L130 3 (.int (i32 ((p + (1))))) := ⟨_, rfl⟩
                rw [← eL136]
                have g137 : jGet L136 0 = some (rv (me)) := eL136 ▸ jg_nr (by decide) g131
                have g138 : jGet L136 4 = some (rv (F (F (me) (1 : Int)) (p))) := eL136 ▸ jg_nr (by decide) g133
                have g139 : jGet L136 1 = some (.int (i32 (0))) := eL136 ▸ jg_ne (by decide) g134 rfl
                have g140 : jGet L136 2 = some (.int (i32 (0))) := eL136 ▸ jg_ne (by decide) g135 rfl
                have g141 : jGet L136 3 = some (.int (i32 ((p + (1))))) := eL136 ▸ jg_eq
                clear eL136
                refine jx_go (tg := 6) rfl rfl ?_
                exact ih _ (by omega) L136 (0) (0) ((p + (1))) rfl g137 g139 g140 g141 (by omega) (by omega) (by omega) (by omega) (by omega)
              · have _q := h129
                refine jx_ld (pc_q := 59) (l_q := L123) (st_q := [rv (F (F (me) (1 : Int)) (p))]) rfl (jl_rv g127) ?_
                refine cx_gi (pc_q := 62) (c := 2) (q := 11) (v := F (F (F (me) (1 : Int)) (p)) (11 : Int)) rfl rfl (by decide) (by decide) (Or.inr rfl) rfl ho72.1 ho72.2 rfl ?_
                have b142 : (0 : Int) ≤ F (F (F (me) (1 : Int)) (p)) (11 : Int) ∧ F (F (F (me) (1 : Int)) (p)) (11 : Int) ≤ 1 := by have z := HC_i (c := 2) (q := 11) hC ho72.1 ho72.2 (by decide) rfl; rw [show F (F (F (me) (1 : Int)) (p)) ((11 : Nat) : Int) = F (F (F (me) (1 : Int)) (p)) (11 : Int) from rfl] at z; exact z
                refine jx_if_ne (pc_q := 65) (tg := 69) rfl rfl rfl (by omega) (by omega) (fun h143 => ?_) (fun h143 => ?_)
                · have _q := h143
                  refine jx_ar (pc_q := 70) (st_q := [.int (i32 (0))]) rfl rfl rfl rfl ?_
                  refine jx_ld (pc_q := 71) (l_q := jSto1 L123 2 (.int (i32 (0)))) (st_q := []) rfl rfl ?_
                  obtain ⟨L144, eL144⟩ : ∃ q : jL, q = jSto1 L123 2 (.int (i32 (0))) := ⟨_, rfl⟩
                  rw [← eL144]
                  have g145 : jGet L144 0 = some (rv (me)) := eL144 ▸ jg_nr (by decide) g124
                  have g146 : jGet L144 3 = some (.int (i32 (p))) := eL144 ▸ jg_ne (by decide) g126 rfl
                  have g147 : jGet L144 4 = some (rv (F (F (me) (1 : Int)) (p))) := eL144 ▸ jg_nr (by decide) g127
                  have g148 : jGet L144 1 = some (.int (i32 (0))) := eL144 ▸ jg_ne (by decide) g128 rfl
                  have g149 : jGet L144 2 = some (.int (i32 (0))) := eL144 ▸ jg_eq
                  clear eL144
                  refine jx_inc (pc_q := 74) (l_q := jSto1 L144 3 (.int (i32 (p + (1))))) (x := p) rfl g146 (by decide) rfl rfl ?_
                  obtain ⟨L150, eL150⟩ : ∃ q : jL, q = jSto1 L144 3 (.int (i32 ((p + (1))))) := ⟨_, rfl⟩
                  rw [← eL150]
                  have g151 : jGet L150 0 = some (rv (me)) := eL150 ▸ jg_nr (by decide) g145
                  have g152 : jGet L150 4 = some (rv (F (F (me) (1 : Int)) (p))) := eL150 ▸ jg_nr (by decide) g147
                  have g153 : jGet L150 1 = some (.int (i32 (0))) := eL150 ▸ jg_ne (by decide) g148 rfl
                  have g154 : jGet L150 2 = some (.int (i32 (0))) := eL150 ▸ jg_ne (by decide) g149 rfl
                  have g155 : jGet L150 3 = some (.int (i32 ((p + (1))))) := eL150 ▸ jg_eq
                  clear eL150
                  refine jx_go (tg := 6) rfl rfl ?_
                  exact ih _ (by omega) L150 (0) (0) ((p + (1))) rfl g151 g153 g154 g155 (by omega) (by omega) (by omega) (by omega) (by omega)
                · have _q := h143
                  refine jx_ar (pc_q := 66) (st_q := [.int (i32 (1))]) rfl rfl rfl rfl ?_
                  refine jx_go (tg := 70) rfl rfl ?_
                  refine jx_ld (pc_q := 71) (l_q := jSto1 L123 2 (.int (i32 (1)))) (st_q := []) rfl rfl ?_
                  obtain ⟨L156, eL156⟩ : ∃ q : jL, q = jSto1 L123 2 (.int (i32 (1))) := ⟨_, rfl⟩
                  rw [← eL156]
                  have g157 : jGet L156 0 = some (rv (me)) := eL156 ▸ jg_nr (by decide) g124
                  have g158 : jGet L156 3 = some (.int (i32 (p))) := eL156 ▸ jg_ne (by decide) g126 rfl
                  have g159 : jGet L156 4 = some (rv (F (F (me) (1 : Int)) (p))) := eL156 ▸ jg_nr (by decide) g127
                  have g160 : jGet L156 1 = some (.int (i32 (0))) := eL156 ▸ jg_ne (by decide) g128 rfl
                  have g161 : jGet L156 2 = some (.int (i32 (1))) := eL156 ▸ jg_eq
                  clear eL156
                  refine jx_inc (pc_q := 74) (l_q := jSto1 L156 3 (.int (i32 (p + (1))))) (x := p) rfl g158 (by decide) rfl rfl ?_
                  obtain ⟨L162, eL162⟩ : ∃ q : jL, q = jSto1 L156 3 (.int (i32 ((p + (1))))) := ⟨_, rfl⟩
                  rw [← eL162]
                  have g163 : jGet L162 0 = some (rv (me)) := eL162 ▸ jg_nr (by decide) g157
                  have g164 : jGet L162 4 = some (rv (F (F (me) (1 : Int)) (p))) := eL162 ▸ jg_nr (by decide) g159
                  have g165 : jGet L162 1 = some (.int (i32 (0))) := eL162 ▸ jg_ne (by decide) g160 rfl
                  have g166 : jGet L162 2 = some (.int (i32 (1))) := eL162 ▸ jg_ne (by decide) g161 rfl
                  have g167 : jGet L162 3 = some (.int (i32 ((p + (1))))) := eL162 ▸ jg_eq
                  clear eL162
                  refine jx_go (tg := 6) rfl rfl ?_
                  exact ih _ (by omega) L162 (0) (1) ((p + (1))) rfl g163 g165 g166 g167 (by omega) (by omega) (by omega) (by omega) (by omega)
            · have _q := h122
              refine jx_ar (pc_q := 48) (st_q := [.int (i32 (1))]) rfl rfl rfl rfl ?_
              refine jx_go (tg := 52) rfl rfl ?_
              refine jx_ld (pc_q := 53) (l_q := jSto1 L59 1 (.int (i32 (1)))) (st_q := []) rfl rfl ?_
              obtain ⟨L168, eL168⟩ : ∃ q : jL, q = jSto1 L59 1 (.int (i32 (1))) := ⟨_, rfl⟩
              rw [← eL168]
              have g169 : jGet L168 0 = some (rv (me)) := eL168 ▸ jg_nr (by decide) g60
              have g170 : jGet L168 2 = some (.int (i32 (id))) := eL168 ▸ jg_ne (by decide) g62 rfl
              have g171 : jGet L168 3 = some (.int (i32 (p))) := eL168 ▸ jg_ne (by decide) g63 rfl
              have g172 : jGet L168 4 = some (rv (F (F (me) (1 : Int)) (p))) := eL168 ▸ jg_nr (by decide) g64
              have g173 : jGet L168 1 = some (.int (i32 (1))) := eL168 ▸ jg_eq
              clear eL168
              refine jx_ld (pc_q := 54) (l_q := L168) (st_q := [.int (i32 (id))]) rfl (jl_iloadn g170) ?_
              refine jx_if_eq (pc_q := 57) (tg := 69) rfl rfl rfl (by omega) (by omega) (fun h174 => ?_) (fun h174 => ?_)
              · have _q := h174
                refine jx_ar (pc_q := 70) (st_q := [.int (i32 (0))]) rfl rfl rfl rfl ?_
                refine jx_ld (pc_q := 71) (l_q := jSto1 L168 2 (.int (i32 (0)))) (st_q := []) rfl rfl ?_
                obtain ⟨L175, eL175⟩ : ∃ q : jL, q = jSto1 L168 2 (.int (i32 (0))) := ⟨_, rfl⟩
                rw [← eL175]
                have g176 : jGet L175 0 = some (rv (me)) := eL175 ▸ jg_nr (by decide) g169
                have g177 : jGet L175 3 = some (.int (i32 (p))) := eL175 ▸ jg_ne (by decide) g171 rfl
                have g178 : jGet L175 4 = some (rv (F (F (me) (1 : Int)) (p))) := eL175 ▸ jg_nr (by decide) g172
                have g179 : jGet L175 1 = some (.int (i32 (1))) := eL175 ▸ jg_ne (by decide) g173 rfl
                have g180 : jGet L175 2 = some (.int (i32 (0))) := eL175 ▸ jg_eq
                clear eL175
                refine jx_inc (pc_q := 74) (l_q := jSto1 L175 3 (.int (i32 (p + (1))))) (x := p) rfl g177 (by decide) rfl rfl ?_
                obtain ⟨L181, eL181⟩ : ∃ q : jL, q = jSto1 L175 3 (.int (i32 ((p + (1))))) := ⟨_, rfl⟩
                rw [← eL181]
                have g182 : jGet L181 0 = some (rv (me)) := eL181 ▸ jg_nr (by decide) g176
                have g183 : jGet L181 4 = some (rv (F (F (me) (1 : Int)) (p))) := eL181 ▸ jg_nr (by decide) g178
                have g184 : jGet L181 1 = some (.int (i32 (1))) := eL181 ▸ jg_ne (by decide) g179 rfl
                have g185 : jGet L181 2 = some (.int (i32 (0))) := eL181 ▸ jg_ne (by decide) g180 rfl
                have g186 : jGet L181 3 = some (.int (i32 ((p + (1))))) := eL181 ▸ jg_eq
                clear eL181
                refine jx_go (tg := 6) rfl rfl ?_
                exact ih _ (by omega) L181 (1) (0) ((p + (1))) rfl g182 g184 g185 g186 (by omega) (by omega) (by omega) (by omega) (by omega)
              · have _q := h174
                refine jx_ld (pc_q := 59) (l_q := L168) (st_q := [rv (F (F (me) (1 : Int)) (p))]) rfl (jl_rv g172) ?_
                refine cx_gi (pc_q := 62) (c := 2) (q := 11) (v := F (F (F (me) (1 : Int)) (p)) (11 : Int)) rfl rfl (by decide) (by decide) (Or.inr rfl) rfl ho72.1 ho72.2 rfl ?_
                have b187 : (0 : Int) ≤ F (F (F (me) (1 : Int)) (p)) (11 : Int) ∧ F (F (F (me) (1 : Int)) (p)) (11 : Int) ≤ 1 := by have z := HC_i (c := 2) (q := 11) hC ho72.1 ho72.2 (by decide) rfl; rw [show F (F (F (me) (1 : Int)) (p)) ((11 : Nat) : Int) = F (F (F (me) (1 : Int)) (p)) (11 : Int) from rfl] at z; exact z
                refine jx_if_ne (pc_q := 65) (tg := 69) rfl rfl rfl (by omega) (by omega) (fun h188 => ?_) (fun h188 => ?_)
                · have _q := h188
                  refine jx_ar (pc_q := 70) (st_q := [.int (i32 (0))]) rfl rfl rfl rfl ?_
                  refine jx_ld (pc_q := 71) (l_q := jSto1 L168 2 (.int (i32 (0)))) (st_q := []) rfl rfl ?_
                  obtain ⟨L189, eL189⟩ : ∃ q : jL, q = jSto1 L168 2 (.int (i32 (0))) := ⟨_, rfl⟩
                  rw [← eL189]
                  have g190 : jGet L189 0 = some (rv (me)) := eL189 ▸ jg_nr (by decide) g169
                  have g191 : jGet L189 3 = some (.int (i32 (p))) := eL189 ▸ jg_ne (by decide) g171 rfl
                  have g192 : jGet L189 4 = some (rv (F (F (me) (1 : Int)) (p))) := eL189 ▸ jg_nr (by decide) g172
                  have g193 : jGet L189 1 = some (.int (i32 (1))) := eL189 ▸ jg_ne (by decide) g173 rfl
                  have g194 : jGet L189 2 = some (.int (i32 (0))) := eL189 ▸ jg_eq
                  clear eL189
                  refine jx_inc (pc_q := 74) (l_q := jSto1 L189 3 (.int (i32 (p + (1))))) (x := p) rfl g191 (by decide) rfl rfl ?_
                  obtain ⟨L195, eL195⟩ : ∃ q : jL, q = jSto1 L189 3 (.int (i32 ((p + (1))))) := ⟨_, rfl⟩
                  rw [← eL195]
                  have g196 : jGet L195 0 = some (rv (me)) := eL195 ▸ jg_nr (by decide) g190
                  have g197 : jGet L195 4 = some (rv (F (F (me) (1 : Int)) (p))) := eL195 ▸ jg_nr (by decide) g192
                  have g198 : jGet L195 1 = some (.int (i32 (1))) := eL195 ▸ jg_ne (by decide) g193 rfl
                  have g199 : jGet L195 2 = some (.int (i32 (0))) := eL195 ▸ jg_ne (by decide) g194 rfl
                  have g200 : jGet L195 3 = some (.int (i32 ((p + (1))))) := eL195 ▸ jg_eq
                  clear eL195
                  refine jx_go (tg := 6) rfl rfl ?_
                  exact ih _ (by omega) L195 (1) (0) ((p + (1))) rfl g196 g198 g199 g200 (by omega) (by omega) (by omega) (by omega) (by omega)
                · have _q := h188
                  refine jx_ar (pc_q := 66) (st_q := [.int (i32 (1))]) rfl rfl rfl rfl ?_
                  refine jx_go (tg := 70) rfl rfl ?_
                  refine jx_ld (pc_q := 71) (l_q := jSto1 L168 2 (.int (i32 (1)))) (st_q := []) rfl rfl ?_
                  obtain ⟨L201, eL201⟩ : ∃ q : jL, q = jSto1 L168 2 (.int (i32 (1))) := ⟨_, rfl⟩
                  rw [← eL201]
                  have g202 : jGet L201 0 = some (rv (me)) := eL201 ▸ jg_nr (by decide) g169
                  have g203 : jGet L201 3 = some (.int (i32 (p))) := eL201 ▸ jg_ne (by decide) g171 rfl
                  have g204 : jGet L201 4 = some (rv (F (F (me) (1 : Int)) (p))) := eL201 ▸ jg_nr (by decide) g172
                  have g205 : jGet L201 1 = some (.int (i32 (1))) := eL201 ▸ jg_ne (by decide) g173 rfl
                  have g206 : jGet L201 2 = some (.int (i32 (1))) := eL201 ▸ jg_eq
                  clear eL201
                  refine jx_inc (pc_q := 74) (l_q := jSto1 L201 3 (.int (i32 (p + (1))))) (x := p) rfl g203 (by decide) rfl rfl ?_
                  obtain ⟨L207, eL207⟩ : ∃ q : jL, q = jSto1 L201 3 (.int (i32 ((p + (1))))) := ⟨_, rfl⟩
                  rw [← eL207]
                  have g208 : jGet L207 0 = some (rv (me)) := eL207 ▸ jg_nr (by decide) g202
                  have g209 : jGet L207 4 = some (rv (F (F (me) (1 : Int)) (p))) := eL207 ▸ jg_nr (by decide) g204
                  have g210 : jGet L207 1 = some (.int (i32 (1))) := eL207 ▸ jg_ne (by decide) g205 rfl
                  have g211 : jGet L207 2 = some (.int (i32 (1))) := eL207 ▸ jg_ne (by decide) g206 rfl
                  have g212 : jGet L207 3 = some (.int (i32 ((p + (1))))) := eL207 ▸ jg_eq
                  clear eL207
                  refine jx_go (tg := 6) rfl rfl ?_
                  exact ih _ (by omega) L207 (1) (1) ((p + (1))) rfl g208 g210 g211 g212 (by omega) (by omega) (by omega) (by omega) (by omega)
        · have _q := h74
          refine jx_ar (pc_q := 34) (st_q := [.int (i32 (3))]) rfl rfl rfl rfl ?_
          refine jx_rt (v := some (.int (i32 (3)))) rfl rfl rfl rfl rfl rfl ?_
          exact ⟨(3), rfl, rfl, by omega, trivial⟩
set_option maxRecDepth 20000 in
set_option maxHeartbeats 4000000 in
theorem k_LMachine_result {X : jX} {dd : Nat} {R : Nat → jC} {m : Nat} {tg ln : Int → Int} {F : Int → Int → Int} {me : Int} (hd : 2 ≤ dd) (hC : HC 0 m tg ln F) (o_me : own m me) (t_me : tg me = 6) : wk X dd 152 [rv me] (cV R m tg ln F) (fun o V_q => ∃ (r : Int), V_q = cV R m tg ln F ∧ o = .inl (some (.int (i32 r))) ∧ (-2147483648 ≤ r ∧ r ≤ 2147483647) ∧ True) := by
  obtain ⟨d, rfl⟩ : ∃ d, dd = d + 1 := ⟨dd - 1, by omega⟩
  refine wk_of (e := jm152) rfl (by rw [jS_r, jS_0]; exact Nat.le_of_ble_eq_true rfl) ?_
  rw [la_r, la_0]
  show wj X d jm152 (0, [(0, rv (me))], [], cV R m tg ln F) _
  obtain ⟨L0, eL0⟩ : ∃ q : jL, q = [(0, rv (me))] := ⟨_, rfl⟩
  rw [← eL0]
  have g213 : jGet L0 0 = some (rv (me)) := eL0 ▸ (rfl : jGet [(0, rv (me))] 0 = some (rv (me)))
  clear eL0
  refine jx_ar (pc_q := 1) (st_q := [.int (i32 (1))]) rfl rfl rfl rfl ?_
  refine jx_ld (pc_q := 2) (l_q := jSto1 L0 1 (.int (i32 (1)))) (st_q := []) rfl rfl ?_
  obtain ⟨L214, eL214⟩ : ∃ q : jL, q = jSto1 L0 1 (.int (i32 (1))) := ⟨_, rfl⟩
  rw [← eL214]
  have g215 : jGet L214 0 = some (rv (me)) := eL214 ▸ jg_nr (by decide) g213
  have g216 : jGet L214 1 = some (.int (i32 (1))) := eL214 ▸ jg_eq
  clear eL214
  refine jx_ar (pc_q := 3) (st_q := [.int (i32 (1))]) rfl rfl rfl rfl ?_
  refine jx_ld (pc_q := 4) (l_q := jSto1 L214 2 (.int (i32 (1)))) (st_q := []) rfl rfl ?_
  obtain ⟨L217, eL217⟩ : ∃ q : jL, q = jSto1 L214 2 (.int (i32 (1))) := ⟨_, rfl⟩
  rw [← eL217]
  have g218 : jGet L217 0 = some (rv (me)) := eL217 ▸ jg_nr (by decide) g215
  have g219 : jGet L217 1 = some (.int (i32 (1))) := eL217 ▸ jg_ne (by decide) g216 rfl
  have g220 : jGet L217 2 = some (.int (i32 (1))) := eL217 ▸ jg_eq
  clear eL217
  refine jx_ar (pc_q := 5) (st_q := [.int (i32 (0))]) rfl rfl rfl rfl ?_
  refine jx_ld (pc_q := 6) (l_q := jSto1 L217 3 (.int (i32 (0)))) (st_q := []) rfl rfl ?_
  obtain ⟨L221, eL221⟩ : ∃ q : jL, q = jSto1 L217 3 (.int (i32 (0))) := ⟨_, rfl⟩
  rw [← eL221]
  have g222 : jGet L221 0 = some (rv (me)) := eL221 ▸ jg_nr (by decide) g218
  have g223 : jGet L221 1 = some (.int (i32 (1))) := eL221 ▸ jg_ne (by decide) g219 rfl
  have g224 : jGet L221 2 = some (.int (i32 (1))) := eL221 ▸ jg_ne (by decide) g220 rfl
  have g225 : jGet L221 3 = some (.int (i32 (0))) := eL221 ▸ jg_eq
  clear eL221
  exact k_LMachine_result_at_6 (X := X) (d := d) (R := R) (m := m) (tg := tg) (ln := ln) (F := F) (me := me) (hd := hd) (hC := hC) (o_me := o_me) (t_me := t_me) _ L221 (1) (1) (0) rfl g222 g223 g224 g225 (by omega) (by omega) (by omega) (by omega) (by omega)
