set_option maxRecDepth 20000 in
set_option maxHeartbeats 4000000 in
theorem k_LCore_divide {X : jX} {dd : Nat} {R : Nat → jC} {m : Nat} {tg ln : Int → Int} {F : Int → Int → Int} {me a0 : Int} (hd : 4 ≤ dd) (hC : HC 0 m tg ln F) (o_me : own m me) (t_me : tg me = 3) (h_a0 : (-2147483648 : Int) ≤ a0 ∧ a0 ≤ 2147483647) : wk X dd 109 [rv me, .int (i32 a0)] (cV R m tg ln F) (fun o V_q => ∃ (F_q : Int → Int → Int), V_q = cV R m tg ln F_q ∧ o = .inl none ∧ HC 0 m tg ln F_q ∧ Fq 0 [(3, 5), (3, 6), (3, 7), (3, 8), (3, 9), (3, 10), (3, 11), (3, 13), (3, 19)] m tg F F_q ∧ True) := by
  obtain ⟨d, rfl⟩ : ∃ d, dd = d + 1 := ⟨dd - 1, by omega⟩
  refine wk_of (e := jm109) rfl (by rw [jS_r, jS_i, jS_0]; exact Nat.le_of_ble_eq_true rfl) ?_
  rw [la_r, la_i, la_0]
  show wj X d jm109 (0, [(0, rv (me)), (1, .int (i32 (a0)))], [], cV R m tg ln F) _
  have hM0 : Fq 0 [(3, 5), (3, 6), (3, 7), (3, 8), (3, 9), (3, 10), (3, 11), (3, 13), (3, 19)] m tg F F := Fq_r
  obtain ⟨L0, eL0⟩ : ∃ q : jL, q = [(0, rv (me)), (1, .int (i32 (a0)))] := ⟨_, rfl⟩
  rw [← eL0]
  have g1 : jGet L0 0 = some (rv (me)) := eL0 ▸ (rfl : jGet [(0, rv (me)), (1, .int (i32 (a0)))] 0 = some (rv (me)))
  have g2 : jGet L0 1 = some (.int (i32 (a0))) := eL0 ▸ (rfl : jGet [(0, rv (me)), (1, .int (i32 (a0)))] 1 = some (.int (i32 (a0))))
  clear eL0
  refine jx_ld (pc_q := 1) (l_q := L0) (st_q := [rv (me)]) rfl (jl_rvn g1) ?_
  refine cx_gi (pc_q := 4) (c := 2) (q := 5) (v := F (me) (5 : Int)) rfl rfl (by decide) (by decide) (Or.inl rfl) rfl o_me t_me rfl ?_
  have b3 : (-2147483648 : Int) ≤ F (me) (5 : Int) ∧ F (me) (5 : Int) ≤ 2147483647 := by have z := HC_i (c := 2) (q := 5) hC o_me t_me (by decide) rfl; rw [show F (me) ((5 : Nat) : Int) = F (me) (5 : Int) from rfl] at z; exact z
  refine jx_if_ne (pc_q := 7) (tg := 12) rfl rfl rfl (by omega) (by omega) (fun h4 => ?_) (fun h4 => ?_)
  · have _q := h4
    refine jx_ld (pc_q := 13) (l_q := L0) (st_q := [rv (me)]) rfl (jl_rvn g1) ?_
    refine jx_ld (pc_q := 14) (l_q := L0) (st_q := [.int (i32 (a0)), rv (me)]) rfl (jl_iloadn g2) ?_
    refine jx_ar (pc_q := 15) (st_q := [.int (i32 (4)), .int (i32 (a0)), rv (me)]) rfl rfl rfl rfl ?_
    refine jx_icmp_ne (pc_q := 18) (tg := 30) rfl rfl rfl (by omega) (by omega) (by decide) (by decide) (fun h5 => ?_) (fun h5 => ?_)
    · have _q := h5
      refine jx_ld (pc_q := 31) (l_q := L0) (st_q := [rv (me), rv (me)]) rfl (jl_rvn g1) ?_
      refine cx_gi (pc_q := 34) (c := 2) (q := 6) (v := F (me) (6 : Int)) rfl rfl (by decide) (by decide) (Or.inl rfl) rfl o_me t_me rfl ?_
      have b6 : (-2147483648 : Int) ≤ F (me) (6 : Int) ∧ F (me) (6 : Int) ≤ 2147483647 := by have z := HC_i (c := 2) (q := 6) hC o_me t_me (by decide) rfl; rw [show F (me) ((6 : Nat) : Int) = F (me) (6 : Int) from rfl] at z; exact z
      refine jx_ld (pc_q := 35) (l_q := L0) (st_q := [rv (me), .int (i32 (F (me) (6 : Int))), rv (me)]) rfl (jl_rvn g1) ?_
      refine cx_gi (pc_q := 38) (c := 2) (q := 5) (v := F (me) (5 : Int)) rfl rfl (by decide) (by decide) (Or.inl rfl) rfl o_me t_me rfl ?_
      refine jx_remw (pc_q := 39) rfl rfl (by omega) (by omega) (by omega) (fun r7 hr7 => ?_)
      refine cx_vi (c := 2) (a := me) (st := []) (as := [.int (i32 (r7))]) rfl rfl rfl o_me t_me (by decide) rfl ⟨rfl, rfl, (Nat.le_of_ble_eq_true rfl)⟩ rfl (k_LCore_replaceTwo (dd := d) (R := R) (m := m) (tg := tg) (ln := ln) (F := F) (me := me) (a0 := r7) (hd := by omega) (hC := hC) (o_me := o_me) (t_me := t_me) (h_a0 := by omega)) (fun o V_q hq => ?_)
      obtain ⟨F8, rfl, rfl, hC9, hM10, -⟩ := hq
      have hM11 : Fq 0 [(3, 5), (3, 6), (3, 7), (3, 8), (3, 9), (3, 10), (3, 11), (3, 13), (3, 19)] m tg F F8 := Fq_t (ln := ln) (ln1 := ln) hM0 Ex_r hM10 (by decide) (Or.inl rfl)
      refine Or.inl ⟨rfl, ?_⟩
      refine jx_rt (v := none) rfl rfl rfl rfl rfl rfl ?_
      exact ⟨F8, rfl, rfl, hC9, hM11, trivial⟩
    · have _q := h5
      refine jx_ld (pc_q := 19) (l_q := L0) (st_q := [rv (me), rv (me)]) rfl (jl_rvn g1) ?_
      refine cx_gi (pc_q := 22) (c := 2) (q := 6) (v := F (me) (6 : Int)) rfl rfl (by decide) (by decide) (Or.inl rfl) rfl o_me t_me rfl ?_
      have b12 : (-2147483648 : Int) ≤ F (me) (6 : Int) ∧ F (me) (6 : Int) ≤ 2147483647 := by have z := HC_i (c := 2) (q := 6) hC o_me t_me (by decide) rfl; rw [show F (me) ((6 : Nat) : Int) = F (me) (6 : Int) from rfl] at z; exact z
      refine jx_ld (pc_q := 23) (l_q := L0) (st_q := [rv (me), .int (i32 (F (me) (6 : Int))), rv (me)]) rfl (jl_rvn g1) ?_
      refine cx_gi (pc_q := 26) (c := 2) (q := 5) (v := F (me) (5 : Int)) rfl rfl (by decide) (by decide) (Or.inl rfl) rfl o_me t_me rfl ?_
      refine jx_divw (pc_q := 27) rfl rfl (by omega) (by omega) (by omega) (fun r13 hr13 => ?_)
      refine jx_go (tg := 39) rfl rfl ?_
      refine cx_vi (c := 2) (a := me) (st := []) (as := [.int (i32 (r13))]) rfl rfl rfl o_me t_me (by decide) rfl ⟨rfl, rfl, (Nat.le_of_ble_eq_true rfl)⟩ rfl (k_LCore_replaceTwo (dd := d) (R := R) (m := m) (tg := tg) (ln := ln) (F := F) (me := me) (a0 := r13) (hd := by omega) (hC := hC) (o_me := o_me) (t_me := t_me) (h_a0 := by omega)) (fun o V_q hq => ?_)
      obtain ⟨F14, rfl, rfl, hC15, hM16, -⟩ := hq
      have hM17 : Fq 0 [(3, 5), (3, 6), (3, 7), (3, 8), (3, 9), (3, 10), (3, 11), (3, 13), (3, 19)] m tg F F14 := Fq_t (ln := ln) (ln1 := ln) hM0 Ex_r hM16 (by decide) (Or.inl rfl)
      refine Or.inl ⟨rfl, ?_⟩
      refine jx_rt (v := none) rfl rfl rfl rfl rfl rfl ?_
      exact ⟨F14, rfl, rfl, hC15, hM17, trivial⟩
  · have _q := h4
    refine jx_ld (pc_q := 8) (l_q := L0) (st_q := [rv (me)]) rfl (jl_rvn g1) ?_
    refine cx_vi (c := 2) (a := me) (st := []) (as := []) rfl rfl rfl o_me t_me (by decide) rfl ⟨rfl, rfl, (Nat.le_of_ble_eq_true rfl)⟩ rfl (k_LCore_fail (dd := d) (R := R) (m := m) (tg := tg) (ln := ln) (F := F) (me := me) (hd := by omega) (hC := hC) (o_me := o_me) (t_me := t_me)) (fun o V_q hq => ?_)
    obtain ⟨F18, rfl, rfl, hC19, hM20, -⟩ := hq
    have hM21 : Fq 0 [(3, 5), (3, 6), (3, 7), (3, 8), (3, 9), (3, 10), (3, 11), (3, 13), (3, 19)] m tg F F18 := Fq_t (ln := ln) (ln1 := ln) hM0 Ex_r hM20 (by decide) (Or.inl rfl)
    refine Or.inl ⟨rfl, ?_⟩
    refine jx_rt (v := none) rfl rfl rfl rfl rfl rfl ?_
    exact ⟨F18, rfl, rfl, hC19, hM21, trivial⟩
set_option maxRecDepth 20000 in
set_option maxHeartbeats 4000000 in
theorem k_LCore_calculate {X : jX} {dd : Nat} {R : Nat → jC} {m : Nat} {tg ln : Int → Int} {F : Int → Int → Int} {me a0 : Int} (hd : 5 ≤ dd) (hC : HC 0 m tg ln F) (o_me : own m me) (t_me : tg me = 3) (h_a0 : (-2147483648 : Int) ≤ a0 ∧ a0 ≤ 2147483647) : wk X dd 108 [rv me, .int (i32 a0)] (cV R m tg ln F) (fun o V_q => ∃ (F_q : Int → Int → Int), V_q = cV R m tg ln F_q ∧ o = .inl none ∧ HC 0 m tg ln F_q ∧ Fq 0 [(3, 5), (3, 6), (3, 7), (3, 8), (3, 9), (3, 10), (3, 11), (3, 13), (3, 19)] m tg F F_q ∧ True) := by
  obtain ⟨d, rfl⟩ : ∃ d, dd = d + 1 := ⟨dd - 1, by omega⟩
  refine wk_of (e := jm108) rfl (by rw [jS_r, jS_i, jS_0]; exact Nat.le_of_ble_eq_true rfl) ?_
  rw [la_r, la_i, la_0]
  show wj X d jm108 (0, [(0, rv (me)), (1, .int (i32 (a0)))], [], cV R m tg ln F) _
  have hM0 : Fq 0 [(3, 5), (3, 6), (3, 7), (3, 8), (3, 9), (3, 10), (3, 11), (3, 13), (3, 19)] m tg F F := Fq_r
  obtain ⟨L0, eL0⟩ : ∃ q : jL, q = [(0, rv (me)), (1, .int (i32 (a0)))] := ⟨_, rfl⟩
  rw [← eL0]
  have g1 : jGet L0 0 = some (rv (me)) := eL0 ▸ (rfl : jGet [(0, rv (me)), (1, .int (i32 (a0)))] 0 = some (rv (me)))
  have g2 : jGet L0 1 = some (.int (i32 (a0))) := eL0 ▸ (rfl : jGet [(0, rv (me)), (1, .int (i32 (a0)))] 1 = some (.int (i32 (a0))))
  clear eL0
  refine jx_ld (pc_q := 1) (l_q := L0) (st_q := [.int (i32 (a0))]) rfl (jl_iloadn g2) ?_
  by_cases h3 : a0 = 0
  · refine jx_swe (tg := 60) h3 rfl rfl rfl rfl ?_
    refine jx_ld (pc_q := 61) (l_q := L0) (st_q := [rv (me)]) rfl (jl_rvn g1) ?_
    refine cx_gi (pc_q := 64) (c := 2) (q := 5) (v := F (me) (5 : Int)) rfl rfl (by decide) (by decide) (Or.inl rfl) rfl o_me t_me rfl ?_
    have b4 : (-2147483648 : Int) ≤ F (me) (5 : Int) ∧ F (me) (5 : Int) ≤ 2147483647 := by have z := HC_i (c := 2) (q := 5) hC o_me t_me (by decide) rfl; rw [show F (me) ((5 : Nat) : Int) = F (me) (5 : Int) from rfl] at z; exact z
    refine jx_ld (pc_q := 65) (l_q := jSto1 L0 2 (.int (i32 (F (me) (5 : Int))))) (st_q := []) rfl rfl ?_
    obtain ⟨L5, eL5⟩ : ∃ q : jL, q = jSto1 L0 2 (.int (i32 (F (me) (5 : Int)))) := ⟨_, rfl⟩
    rw [← eL5]
    have g6 : jGet L5 0 = some (rv (me)) := eL5 ▸ jg_nr (by decide) g1
    have g7 : jGet L5 1 = some (.int (i32 (a0))) := eL5 ▸ jg_ne (by decide) g2 rfl
    have g8 : jGet L5 2 = some (.int (i32 (F (me) (5 : Int)))) := eL5 ▸ jg_eq
    clear eL5
    refine jx_ld (pc_q := 66) (l_q := L5) (st_q := [rv (me)]) rfl (jl_rvn g6) ?_
    refine jx_ld (pc_q := 67) (l_q := L5) (st_q := [rv (me), rv (me)]) rfl (jl_rvn g6) ?_
    refine cx_gi (pc_q := 70) (c := 2) (q := 6) (v := F (me) (6 : Int)) rfl rfl (by decide) (by decide) (Or.inl rfl) rfl o_me t_me rfl ?_
    have b9 : (-2147483648 : Int) ≤ F (me) (6 : Int) ∧ F (me) (6 : Int) ≤ 2147483647 := by have z := HC_i (c := 2) (q := 6) hC o_me t_me (by decide) rfl; rw [show F (me) ((6 : Nat) : Int) = F (me) (6 : Int) from rfl] at z; exact z
    refine cx_pi (pc_q := 73) (c := 2) (q := 5) (qi := (5 : Int)) (z := F (me) (6 : Int)) rfl rfl (by decide) (by decide) rfl rfl rfl (by decide) rfl o_me t_me rfl ?_
    obtain ⟨F10, eF10⟩ : ∃ q, q = uF F (me) (5 : Int) (F (me) (6 : Int)) := ⟨_, rfl⟩
    rw [← eF10]
    have hC11 : HC 0 m tg ln F10 := by rw [eF10]; exact HC_fi (c := 2) (q := 5) hC t_me (by decide) rfl (by omega) (by omega) ⟨fun w => absurd w (by decide), fun _ => ⟨fun w => absurd w (by decide), fun w => absurd w (by decide)⟩⟩
    have hM12 : Fq 0 [(3, 5), (3, 6), (3, 7), (3, 8), (3, 9), (3, 10), (3, 11), (3, 13), (3, 19)] m tg F F10 := by rw [eF10]; exact Fq_p hM0 t_me (fun _ => rfl) rfl
    refine jx_ld (pc_q := 74) (l_q := L5) (st_q := [rv (me)]) rfl (jl_rvn g6) ?_
    refine jx_ld (pc_q := 75) (l_q := L5) (st_q := [.int (i32 (F (me) (5 : Int))), rv (me)]) rfl (jl_iloadn g8) ?_
    refine cx_pi (pc_q := 78) (c := 2) (q := 6) (qi := (6 : Int)) (z := F (me) (5 : Int)) rfl rfl (by decide) (by decide) rfl rfl rfl (by decide) rfl o_me t_me rfl ?_
    obtain ⟨F13, eF13⟩ : ∃ q, q = uF F10 (me) (6 : Int) (F (me) (5 : Int)) := ⟨_, rfl⟩
    rw [← eF13]
    have hC14 : HC 0 m tg ln F13 := by rw [eF13]; exact HC_fi (c := 2) (q := 6) hC11 t_me (by decide) rfl (by omega) (by omega) ⟨fun w => absurd w (by decide), fun _ => ⟨fun w => absurd w (by decide), fun w => absurd w (by decide)⟩⟩
    have hM15 : Fq 0 [(3, 5), (3, 6), (3, 7), (3, 8), (3, 9), (3, 10), (3, 11), (3, 13), (3, 19)] m tg F F13 := by rw [eF13]; exact Fq_p hM12 t_me (fun _ => rfl) rfl
    refine jx_go (tg := 243) rfl rfl ?_
    refine jx_rt (v := none) rfl rfl rfl rfl rfl rfl ?_
    exact ⟨F13, rfl, rfl, hC14, hM15, trivial⟩
  by_cases h16 : a0 = 1
  · refine jx_swe (tg := 81) h16 rfl rfl rfl rfl ?_
    refine jx_ld (pc_q := 82) (l_q := L0) (st_q := [rv (me)]) rfl (jl_rvn g1) ?_
    refine jx_ld (pc_q := 83) (l_q := L0) (st_q := [rv (me), rv (me)]) rfl (jl_rvn g1) ?_
    refine cx_gi (pc_q := 86) (c := 2) (q := 6) (v := F (me) (6 : Int)) rfl rfl (by decide) (by decide) (Or.inl rfl) rfl o_me t_me rfl ?_
    have b17 : (-2147483648 : Int) ≤ F (me) (6 : Int) ∧ F (me) (6 : Int) ≤ 2147483647 := by have z := HC_i (c := 2) (q := 6) hC o_me t_me (by decide) rfl; rw [show F (me) ((6 : Nat) : Int) = F (me) (6 : Int) from rfl] at z; exact z
    refine jx_ld (pc_q := 87) (l_q := L0) (st_q := [rv (me), .int (i32 (F (me) (6 : Int))), rv (me)]) rfl (jl_rvn g1) ?_
    refine cx_gi (pc_q := 90) (c := 2) (q := 5) (v := F (me) (5 : Int)) rfl rfl (by decide) (by decide) (Or.inl rfl) rfl o_me t_me rfl ?_
    have b18 : (-2147483648 : Int) ≤ F (me) (5 : Int) ∧ F (me) (5 : Int) ≤ 2147483647 := by have z := HC_i (c := 2) (q := 5) hC o_me t_me (by decide) rfl; rw [show F (me) ((5 : Nat) : Int) = F (me) (5 : Int) from rfl] at z; exact z
    refine jx_add (pc_q := 91) rfl rfl ?_
    obtain ⟨z19, ez19⟩ : ∃ q, q = (i32 ((F (me) (6 : Int) + F (me) (5 : Int)))).toInt := ⟨_, rfl⟩
    have bz19 : (-2147483648 : Int) ≤ z19 ∧ z19 ≤ 2147483647 := ez19 ▸ i32_rg _
    rw [show i32 ((F (me) (6 : Int) + F (me) (5 : Int))) = i32 z19 by rw [ez19, i32_of]]
    clear ez19
    refine cx_vi (c := 2) (a := me) (st := []) (as := [.int (i32 (z19))]) rfl rfl rfl o_me t_me (by decide) rfl ⟨rfl, rfl, (Nat.le_of_ble_eq_true rfl)⟩ rfl (k_LCore_replaceTwo (dd := d) (R := R) (m := m) (tg := tg) (ln := ln) (F := F) (me := me) (a0 := z19) (hd := by omega) (hC := hC) (o_me := o_me) (t_me := t_me) (h_a0 := by omega)) (fun o V_q hq => ?_)
    obtain ⟨F20, rfl, rfl, hC21, hM22, -⟩ := hq
    have hM23 : Fq 0 [(3, 5), (3, 6), (3, 7), (3, 8), (3, 9), (3, 10), (3, 11), (3, 13), (3, 19)] m tg F F20 := Fq_t (ln := ln) (ln1 := ln) hM0 Ex_r hM22 (by decide) (Or.inl rfl)
    refine Or.inl ⟨rfl, ?_⟩
    refine jx_go (tg := 243) rfl rfl ?_
    refine jx_rt (v := none) rfl rfl rfl rfl rfl rfl ?_
    exact ⟨F20, rfl, rfl, hC21, hM23, trivial⟩
  by_cases h24 : a0 = 2
  · refine jx_swe (tg := 97) h24 rfl rfl rfl rfl ?_
    refine jx_ld (pc_q := 98) (l_q := L0) (st_q := [rv (me)]) rfl (jl_rvn g1) ?_
    refine jx_ld (pc_q := 99) (l_q := L0) (st_q := [rv (me), rv (me)]) rfl (jl_rvn g1) ?_
    refine cx_gi (pc_q := 102) (c := 2) (q := 6) (v := F (me) (6 : Int)) rfl rfl (by decide) (by decide) (Or.inl rfl) rfl o_me t_me rfl ?_
    have b25 : (-2147483648 : Int) ≤ F (me) (6 : Int) ∧ F (me) (6 : Int) ≤ 2147483647 := by have z := HC_i (c := 2) (q := 6) hC o_me t_me (by decide) rfl; rw [show F (me) ((6 : Nat) : Int) = F (me) (6 : Int) from rfl] at z; exact z
    refine jx_ld (pc_q := 103) (l_q := L0) (st_q := [rv (me), .int (i32 (F (me) (6 : Int))), rv (me)]) rfl (jl_rvn g1) ?_
    refine cx_gi (pc_q := 106) (c := 2) (q := 5) (v := F (me) (5 : Int)) rfl rfl (by decide) (by decide) (Or.inl rfl) rfl o_me t_me rfl ?_
    have b26 : (-2147483648 : Int) ≤ F (me) (5 : Int) ∧ F (me) (5 : Int) ≤ 2147483647 := by have z := HC_i (c := 2) (q := 5) hC o_me t_me (by decide) rfl; rw [show F (me) ((5 : Nat) : Int) = F (me) (5 : Int) from rfl] at z; exact z
    refine jx_sub (pc_q := 107) rfl rfl ?_
    obtain ⟨z27, ez27⟩ : ∃ q, q = (i32 ((F (me) (6 : Int) - F (me) (5 : Int)))).toInt := ⟨_, rfl⟩
    have bz27 : (-2147483648 : Int) ≤ z27 ∧ z27 ≤ 2147483647 := ez27 ▸ i32_rg _
    rw [show i32 ((F (me) (6 : Int) - F (me) (5 : Int))) = i32 z27 by rw [ez27, i32_of]]
    clear ez27
    refine cx_vi (c := 2) (a := me) (st := []) (as := [.int (i32 (z27))]) rfl rfl rfl o_me t_me (by decide) rfl ⟨rfl, rfl, (Nat.le_of_ble_eq_true rfl)⟩ rfl (k_LCore_replaceTwo (dd := d) (R := R) (m := m) (tg := tg) (ln := ln) (F := F) (me := me) (a0 := z27) (hd := by omega) (hC := hC) (o_me := o_me) (t_me := t_me) (h_a0 := by omega)) (fun o V_q hq => ?_)
    obtain ⟨F28, rfl, rfl, hC29, hM30, -⟩ := hq
    have hM31 : Fq 0 [(3, 5), (3, 6), (3, 7), (3, 8), (3, 9), (3, 10), (3, 11), (3, 13), (3, 19)] m tg F F28 := Fq_t (ln := ln) (ln1 := ln) hM0 Ex_r hM30 (by decide) (Or.inl rfl)
    refine Or.inl ⟨rfl, ?_⟩
    refine jx_go (tg := 243) rfl rfl ?_
    refine jx_rt (v := none) rfl rfl rfl rfl rfl rfl ?_
    exact ⟨F28, rfl, rfl, hC29, hM31, trivial⟩
  by_cases h32 : a0 = 3
  · refine jx_swe (tg := 113) h32 rfl rfl rfl rfl ?_
    refine jx_ld (pc_q := 114) (l_q := L0) (st_q := [rv (me)]) rfl (jl_rvn g1) ?_
    refine jx_ld (pc_q := 115) (l_q := L0) (st_q := [rv (me), rv (me)]) rfl (jl_rvn g1) ?_
    refine cx_gi (pc_q := 118) (c := 2) (q := 6) (v := F (me) (6 : Int)) rfl rfl (by decide) (by decide) (Or.inl rfl) rfl o_me t_me rfl ?_
    have b33 : (-2147483648 : Int) ≤ F (me) (6 : Int) ∧ F (me) (6 : Int) ≤ 2147483647 := by have z := HC_i (c := 2) (q := 6) hC o_me t_me (by decide) rfl; rw [show F (me) ((6 : Nat) : Int) = F (me) (6 : Int) from rfl] at z; exact z
    refine jx_ld (pc_q := 119) (l_q := L0) (st_q := [rv (me), .int (i32 (F (me) (6 : Int))), rv (me)]) rfl (jl_rvn g1) ?_
    refine cx_gi (pc_q := 122) (c := 2) (q := 5) (v := F (me) (5 : Int)) rfl rfl (by decide) (by decide) (Or.inl rfl) rfl o_me t_me rfl ?_
    have b34 : (-2147483648 : Int) ≤ F (me) (5 : Int) ∧ F (me) (5 : Int) ≤ 2147483647 := by have z := HC_i (c := 2) (q := 5) hC o_me t_me (by decide) rfl; rw [show F (me) ((5 : Nat) : Int) = F (me) (5 : Int) from rfl] at z; exact z
    refine jx_mul (pc_q := 123) rfl rfl ?_
    obtain ⟨z35, ez35⟩ : ∃ q, q = (i32 ((F (me) (6 : Int) * F (me) (5 : Int)))).toInt := ⟨_, rfl⟩
    have bz35 : (-2147483648 : Int) ≤ z35 ∧ z35 ≤ 2147483647 := ez35 ▸ i32_rg _
    rw [show i32 ((F (me) (6 : Int) * F (me) (5 : Int))) = i32 z35 by rw [ez35, i32_of]]
    clear ez35
    refine cx_vi (c := 2) (a := me) (st := []) (as := [.int (i32 (z35))]) rfl rfl rfl o_me t_me (by decide) rfl ⟨rfl, rfl, (Nat.le_of_ble_eq_true rfl)⟩ rfl (k_LCore_replaceTwo (dd := d) (R := R) (m := m) (tg := tg) (ln := ln) (F := F) (me := me) (a0 := z35) (hd := by omega) (hC := hC) (o_me := o_me) (t_me := t_me) (h_a0 := by omega)) (fun o V_q hq => ?_)
    obtain ⟨F36, rfl, rfl, hC37, hM38, -⟩ := hq
    have hM39 : Fq 0 [(3, 5), (3, 6), (3, 7), (3, 8), (3, 9), (3, 10), (3, 11), (3, 13), (3, 19)] m tg F F36 := Fq_t (ln := ln) (ln1 := ln) hM0 Ex_r hM38 (by decide) (Or.inl rfl)
    refine Or.inl ⟨rfl, ?_⟩
    refine jx_go (tg := 243) rfl rfl ?_
    refine jx_rt (v := none) rfl rfl rfl rfl rfl rfl ?_
    exact ⟨F36, rfl, rfl, hC37, hM39, trivial⟩
  by_cases h40 : a0 = 4
  · refine jx_swe (tg := 129) h40 rfl rfl rfl rfl ?_
    refine jx_ld (pc_q := 130) (l_q := L0) (st_q := [rv (me)]) rfl (jl_rvn g1) ?_
    refine jx_ld (pc_q := 131) (l_q := L0) (st_q := [.int (i32 (a0)), rv (me)]) rfl (jl_iloadn g2) ?_
    refine cx_vi (c := 2) (a := me) (st := []) (as := [.int (i32 (a0))]) rfl rfl rfl o_me t_me (by decide) rfl ⟨rfl, rfl, (Nat.le_of_ble_eq_true rfl)⟩ rfl (k_LCore_divide (dd := d) (R := R) (m := m) (tg := tg) (ln := ln) (F := F) (me := me) (a0 := a0) (hd := by omega) (hC := hC) (o_me := o_me) (t_me := t_me) (h_a0 := by omega)) (fun o V_q hq => ?_)
    obtain ⟨F41, rfl, rfl, hC42, hM43, -⟩ := hq
    have hM44 : Fq 0 [(3, 5), (3, 6), (3, 7), (3, 8), (3, 9), (3, 10), (3, 11), (3, 13), (3, 19)] m tg F F41 := Fq_t (ln := ln) (ln1 := ln) hM0 Ex_r hM43 (by decide) (Or.inl rfl)
    refine Or.inl ⟨rfl, ?_⟩
    refine jx_go (tg := 243) rfl rfl ?_
    refine jx_rt (v := none) rfl rfl rfl rfl rfl rfl ?_
    exact ⟨F41, rfl, rfl, hC42, hM44, trivial⟩
  by_cases h45 : a0 = 5
  · refine jx_swe (tg := 129) h45 rfl rfl rfl rfl ?_
    refine jx_ld (pc_q := 130) (l_q := L0) (st_q := [rv (me)]) rfl (jl_rvn g1) ?_
    refine jx_ld (pc_q := 131) (l_q := L0) (st_q := [.int (i32 (a0)), rv (me)]) rfl (jl_iloadn g2) ?_
    refine cx_vi (c := 2) (a := me) (st := []) (as := [.int (i32 (a0))]) rfl rfl rfl o_me t_me (by decide) rfl ⟨rfl, rfl, (Nat.le_of_ble_eq_true rfl)⟩ rfl (k_LCore_divide (dd := d) (R := R) (m := m) (tg := tg) (ln := ln) (F := F) (me := me) (a0 := a0) (hd := by omega) (hC := hC) (o_me := o_me) (t_me := t_me) (h_a0 := by omega)) (fun o V_q hq => ?_)
    obtain ⟨F46, rfl, rfl, hC47, hM48, -⟩ := hq
    have hM49 : Fq 0 [(3, 5), (3, 6), (3, 7), (3, 8), (3, 9), (3, 10), (3, 11), (3, 13), (3, 19)] m tg F F46 := Fq_t (ln := ln) (ln1 := ln) hM0 Ex_r hM48 (by decide) (Or.inl rfl)
    refine Or.inl ⟨rfl, ?_⟩
    refine jx_go (tg := 243) rfl rfl ?_
    refine jx_rt (v := none) rfl rfl rfl rfl rfl rfl ?_
    exact ⟨F46, rfl, rfl, hC47, hM49, trivial⟩
  by_cases h50 : a0 = 6
  · refine jx_swe (tg := 137) h50 rfl rfl rfl rfl ?_
    refine jx_ld (pc_q := 138) (l_q := L0) (st_q := [rv (me)]) rfl (jl_rvn g1) ?_
    refine jx_ld (pc_q := 139) (l_q := L0) (st_q := [rv (me), rv (me)]) rfl (jl_rvn g1) ?_
    refine cx_gi (pc_q := 142) (c := 2) (q := 6) (v := F (me) (6 : Int)) rfl rfl (by decide) (by decide) (Or.inl rfl) rfl o_me t_me rfl ?_
    have b51 : (-2147483648 : Int) ≤ F (me) (6 : Int) ∧ F (me) (6 : Int) ≤ 2147483647 := by have z := HC_i (c := 2) (q := 6) hC o_me t_me (by decide) rfl; rw [show F (me) ((6 : Nat) : Int) = F (me) (6 : Int) from rfl] at z; exact z
    refine jx_ld (pc_q := 143) (l_q := L0) (st_q := [rv (me), .int (i32 (F (me) (6 : Int))), rv (me)]) rfl (jl_rvn g1) ?_
    refine cx_gi (pc_q := 146) (c := 2) (q := 5) (v := F (me) (5 : Int)) rfl rfl (by decide) (by decide) (Or.inl rfl) rfl o_me t_me rfl ?_
    have b52 : (-2147483648 : Int) ≤ F (me) (5 : Int) ∧ F (me) (5 : Int) ≤ 2147483647 := by have z := HC_i (c := 2) (q := 5) hC o_me t_me (by decide) rfl; rw [show F (me) ((5 : Nat) : Int) = F (me) (5 : Int) from rfl] at z; exact z
    refine jx_icmp_le (pc_q := 149) (tg := 153) rfl rfl rfl (by omega) (by omega) (by omega) (by omega) (fun h53 => ?_) (fun h53 => ?_)
    · have _q := h53
      refine jx_ar (pc_q := 154) (st_q := [.int (i32 (0)), rv (me)]) rfl rfl rfl rfl ?_
      refine cx_vi (c := 2) (a := me) (st := []) (as := [.int (i32 (0))]) rfl rfl rfl o_me t_me (by decide) rfl ⟨rfl, rfl, (Nat.le_of_ble_eq_true rfl)⟩ rfl (k_LCore_replaceTwo (dd := d) (R := R) (m := m) (tg := tg) (ln := ln) (F := F) (me := me) (a0 := 0) (hd := by omega) (hC := hC) (o_me := o_me) (t_me := t_me) (h_a0 := by omega)) (fun o V_q hq => ?_)
      obtain ⟨F54, rfl, rfl, hC55, hM56, -⟩ := hq
      have hM57 : Fq 0 [(3, 5), (3, 6), (3, 7), (3, 8), (3, 9), (3, 10), (3, 11), (3, 13), (3, 19)] m tg F F54 := Fq_t (ln := ln) (ln1 := ln) hM0 Ex_r hM56 (by decide) (Or.inl rfl)
      refine Or.inl ⟨rfl, ?_⟩
      refine jx_go (tg := 243) rfl rfl ?_
      refine jx_rt (v := none) rfl rfl rfl rfl rfl rfl ?_
      exact ⟨F54, rfl, rfl, hC55, hM57, trivial⟩
    · have _q := h53
      refine jx_ar (pc_q := 150) (st_q := [.int (i32 (1)), rv (me)]) rfl rfl rfl rfl ?_
      refine jx_go (tg := 154) rfl rfl ?_
      refine cx_vi (c := 2) (a := me) (st := []) (as := [.int (i32 (1))]) rfl rfl rfl o_me t_me (by decide) rfl ⟨rfl, rfl, (Nat.le_of_ble_eq_true rfl)⟩ rfl (k_LCore_replaceTwo (dd := d) (R := R) (m := m) (tg := tg) (ln := ln) (F := F) (me := me) (a0 := 1) (hd := by omega) (hC := hC) (o_me := o_me) (t_me := t_me) (h_a0 := by omega)) (fun o V_q hq => ?_)
      obtain ⟨F58, rfl, rfl, hC59, hM60, -⟩ := hq
      have hM61 : Fq 0 [(3, 5), (3, 6), (3, 7), (3, 8), (3, 9), (3, 10), (3, 11), (3, 13), (3, 19)] m tg F F58 := Fq_t (ln := ln) (ln1 := ln) hM0 Ex_r hM60 (by decide) (Or.inl rfl)
      refine Or.inl ⟨rfl, ?_⟩
      refine jx_go (tg := 243) rfl rfl ?_
      refine jx_rt (v := none) rfl rfl rfl rfl rfl rfl ?_
      exact ⟨F58, rfl, rfl, hC59, hM61, trivial⟩
  by_cases h62 : a0 = 7
  · refine jx_swe (tg := 160) h62 rfl rfl rfl rfl ?_
    refine jx_ld (pc_q := 161) (l_q := L0) (st_q := [rv (me)]) rfl (jl_rvn g1) ?_
    refine jx_ld (pc_q := 162) (l_q := L0) (st_q := [rv (me), rv (me)]) rfl (jl_rvn g1) ?_
    refine cx_gi (pc_q := 165) (c := 2) (q := 6) (v := F (me) (6 : Int)) rfl rfl (by decide) (by decide) (Or.inl rfl) rfl o_me t_me rfl ?_
    have b63 : (-2147483648 : Int) ≤ F (me) (6 : Int) ∧ F (me) (6 : Int) ≤ 2147483647 := by have z := HC_i (c := 2) (q := 6) hC o_me t_me (by decide) rfl; rw [show F (me) ((6 : Nat) : Int) = F (me) (6 : Int) from rfl] at z; exact z
    refine jx_ld (pc_q := 166) (l_q := L0) (st_q := [rv (me), .int (i32 (F (me) (6 : Int))), rv (me)]) rfl (jl_rvn g1) ?_
    refine cx_gi (pc_q := 169) (c := 2) (q := 5) (v := F (me) (5 : Int)) rfl rfl (by decide) (by decide) (Or.inl rfl) rfl o_me t_me rfl ?_
    have b64 : (-2147483648 : Int) ≤ F (me) (5 : Int) ∧ F (me) (5 : Int) ≤ 2147483647 := by have z := HC_i (c := 2) (q := 5) hC o_me t_me (by decide) rfl; rw [show F (me) ((5 : Nat) : Int) = F (me) (5 : Int) from rfl] at z; exact z
    refine jx_and (pc_q := 170) rfl rfl ?_
    obtain ⟨z65, ez65⟩ : ∃ q, q = (i32 (F (me) (6 : Int)) &&& i32 (F (me) (5 : Int))).toInt := ⟨_, rfl⟩
    rw [← ez65]
    have bz65 : (-2147483648 : Int) ≤ z65 ∧ z65 ≤ 2147483647 := ez65 ▸ i32_rg _
    clear ez65
    refine cx_vi (c := 2) (a := me) (st := []) (as := [.int (i32 (z65))]) rfl rfl rfl o_me t_me (by decide) rfl ⟨rfl, rfl, (Nat.le_of_ble_eq_true rfl)⟩ rfl (k_LCore_replaceTwo (dd := d) (R := R) (m := m) (tg := tg) (ln := ln) (F := F) (me := me) (a0 := z65) (hd := by omega) (hC := hC) (o_me := o_me) (t_me := t_me) (h_a0 := by omega)) (fun o V_q hq => ?_)
    obtain ⟨F66, rfl, rfl, hC67, hM68, -⟩ := hq
    have hM69 : Fq 0 [(3, 5), (3, 6), (3, 7), (3, 8), (3, 9), (3, 10), (3, 11), (3, 13), (3, 19)] m tg F F66 := Fq_t (ln := ln) (ln1 := ln) hM0 Ex_r hM68 (by decide) (Or.inl rfl)
    refine Or.inl ⟨rfl, ?_⟩
    refine jx_go (tg := 243) rfl rfl ?_
    refine jx_rt (v := none) rfl rfl rfl rfl rfl rfl ?_
    exact ⟨F66, rfl, rfl, hC67, hM69, trivial⟩
  by_cases h70 : a0 = 8
  · refine jx_swe (tg := 176) h70 rfl rfl rfl rfl ?_
    refine jx_ld (pc_q := 177) (l_q := L0) (st_q := [rv (me)]) rfl (jl_rvn g1) ?_
    refine jx_ld (pc_q := 178) (l_q := L0) (st_q := [rv (me), rv (me)]) rfl (jl_rvn g1) ?_
    refine cx_gi (pc_q := 181) (c := 2) (q := 6) (v := F (me) (6 : Int)) rfl rfl (by decide) (by decide) (Or.inl rfl) rfl o_me t_me rfl ?_
    have b71 : (-2147483648 : Int) ≤ F (me) (6 : Int) ∧ F (me) (6 : Int) ≤ 2147483647 := by have z := HC_i (c := 2) (q := 6) hC o_me t_me (by decide) rfl; rw [show F (me) ((6 : Nat) : Int) = F (me) (6 : Int) from rfl] at z; exact z
    refine jx_ld (pc_q := 182) (l_q := L0) (st_q := [rv (me), .int (i32 (F (me) (6 : Int))), rv (me)]) rfl (jl_rvn g1) ?_
    refine cx_gi (pc_q := 185) (c := 2) (q := 5) (v := F (me) (5 : Int)) rfl rfl (by decide) (by decide) (Or.inl rfl) rfl o_me t_me rfl ?_
    have b72 : (-2147483648 : Int) ≤ F (me) (5 : Int) ∧ F (me) (5 : Int) ≤ 2147483647 := by have z := HC_i (c := 2) (q := 5) hC o_me t_me (by decide) rfl; rw [show F (me) ((5 : Nat) : Int) = F (me) (5 : Int) from rfl] at z; exact z
    refine jx_or (pc_q := 186) rfl rfl ?_
    obtain ⟨z73, ez73⟩ : ∃ q, q = (i32 (F (me) (6 : Int)) ||| i32 (F (me) (5 : Int))).toInt := ⟨_, rfl⟩
    rw [← ez73]
    have bz73 : (-2147483648 : Int) ≤ z73 ∧ z73 ≤ 2147483647 := ez73 ▸ i32_rg _
    clear ez73
    refine cx_vi (c := 2) (a := me) (st := []) (as := [.int (i32 (z73))]) rfl rfl rfl o_me t_me (by decide) rfl ⟨rfl, rfl, (Nat.le_of_ble_eq_true rfl)⟩ rfl (k_LCore_replaceTwo (dd := d) (R := R) (m := m) (tg := tg) (ln := ln) (F := F) (me := me) (a0 := z73) (hd := by omega) (hC := hC) (o_me := o_me) (t_me := t_me) (h_a0 := by omega)) (fun o V_q hq => ?_)
    obtain ⟨F74, rfl, rfl, hC75, hM76, -⟩ := hq
    have hM77 : Fq 0 [(3, 5), (3, 6), (3, 7), (3, 8), (3, 9), (3, 10), (3, 11), (3, 13), (3, 19)] m tg F F74 := Fq_t (ln := ln) (ln1 := ln) hM0 Ex_r hM76 (by decide) (Or.inl rfl)
    refine Or.inl ⟨rfl, ?_⟩
    refine jx_go (tg := 243) rfl rfl ?_
    refine jx_rt (v := none) rfl rfl rfl rfl rfl rfl ?_
    exact ⟨F74, rfl, rfl, hC75, hM77, trivial⟩
  by_cases h78 : a0 = 9
  · refine jx_swe (tg := 192) h78 rfl rfl rfl rfl ?_
    refine jx_ld (pc_q := 193) (l_q := L0) (st_q := [rv (me)]) rfl (jl_rvn g1) ?_
    refine jx_ld (pc_q := 194) (l_q := L0) (st_q := [rv (me), rv (me)]) rfl (jl_rvn g1) ?_
    refine cx_gi (pc_q := 197) (c := 2) (q := 6) (v := F (me) (6 : Int)) rfl rfl (by decide) (by decide) (Or.inl rfl) rfl o_me t_me rfl ?_
    have b79 : (-2147483648 : Int) ≤ F (me) (6 : Int) ∧ F (me) (6 : Int) ≤ 2147483647 := by have z := HC_i (c := 2) (q := 6) hC o_me t_me (by decide) rfl; rw [show F (me) ((6 : Nat) : Int) = F (me) (6 : Int) from rfl] at z; exact z
    refine jx_ld (pc_q := 198) (l_q := L0) (st_q := [rv (me), .int (i32 (F (me) (6 : Int))), rv (me)]) rfl (jl_rvn g1) ?_
    refine cx_gi (pc_q := 201) (c := 2) (q := 5) (v := F (me) (5 : Int)) rfl rfl (by decide) (by decide) (Or.inl rfl) rfl o_me t_me rfl ?_
    have b80 : (-2147483648 : Int) ≤ F (me) (5 : Int) ∧ F (me) (5 : Int) ≤ 2147483647 := by have z := HC_i (c := 2) (q := 5) hC o_me t_me (by decide) rfl; rw [show F (me) ((5 : Nat) : Int) = F (me) (5 : Int) from rfl] at z; exact z
    refine jx_ar (pc_q := 203) (st_q := [.int (i32 (31)), .int (i32 (F (me) (5 : Int))), .int (i32 (F (me) (6 : Int))), rv (me)]) rfl rfl rfl rfl ?_
    refine jx_and (pc_q := 204) rfl rfl ?_
    obtain ⟨z81, ez81⟩ : ∃ q, q = (i32 (F (me) (5 : Int)) &&& i32 (31)).toInt := ⟨_, rfl⟩
    rw [← ez81]
    have bz81 : (-2147483648 : Int) ≤ z81 ∧ z81 ≤ 2147483647 := ez81 ▸ i32_rg _
    have cz81 : 0 ≤ z81 ∧ z81 ≤ 31 := ez81 ▸ and_le (by decide) (by decide)
    clear ez81
    refine jx_shl (pc_q := 205) rfl rfl ?_
    obtain ⟨z82, ez82⟩ : ∃ q, q = (i32 (F (me) (6 : Int)) <<< (i32 (z81) &&& 31)).toInt := ⟨_, rfl⟩
    rw [← ez82]
    have bz82 : (-2147483648 : Int) ≤ z82 ∧ z82 ≤ 2147483647 := ez82 ▸ i32_rg _
    clear ez82
    refine cx_vi (c := 2) (a := me) (st := []) (as := [.int (i32 (z82))]) rfl rfl rfl o_me t_me (by decide) rfl ⟨rfl, rfl, (Nat.le_of_ble_eq_true rfl)⟩ rfl (k_LCore_replaceTwo (dd := d) (R := R) (m := m) (tg := tg) (ln := ln) (F := F) (me := me) (a0 := z82) (hd := by omega) (hC := hC) (o_me := o_me) (t_me := t_me) (h_a0 := by omega)) (fun o V_q hq => ?_)
    obtain ⟨F83, rfl, rfl, hC84, hM85, -⟩ := hq
    have hM86 : Fq 0 [(3, 5), (3, 6), (3, 7), (3, 8), (3, 9), (3, 10), (3, 11), (3, 13), (3, 19)] m tg F F83 := Fq_t (ln := ln) (ln1 := ln) hM0 Ex_r hM85 (by decide) (Or.inl rfl)
    refine Or.inl ⟨rfl, ?_⟩
    refine jx_go (tg := 243) rfl rfl ?_
    refine jx_rt (v := none) rfl rfl rfl rfl rfl rfl ?_
    exact ⟨F83, rfl, rfl, hC84, hM86, trivial⟩
  by_cases h87 : a0 = 10
  · refine jx_swe (tg := 211) h87 rfl rfl rfl rfl ?_
    refine jx_ld (pc_q := 212) (l_q := L0) (st_q := [rv (me)]) rfl (jl_rvn g1) ?_
    refine jx_ld (pc_q := 213) (l_q := L0) (st_q := [rv (me), rv (me)]) rfl (jl_rvn g1) ?_
    refine cx_gi (pc_q := 216) (c := 2) (q := 6) (v := F (me) (6 : Int)) rfl rfl (by decide) (by decide) (Or.inl rfl) rfl o_me t_me rfl ?_
    have b88 : (-2147483648 : Int) ≤ F (me) (6 : Int) ∧ F (me) (6 : Int) ≤ 2147483647 := by have z := HC_i (c := 2) (q := 6) hC o_me t_me (by decide) rfl; rw [show F (me) ((6 : Nat) : Int) = F (me) (6 : Int) from rfl] at z; exact z
    refine jx_ld (pc_q := 217) (l_q := L0) (st_q := [rv (me), .int (i32 (F (me) (6 : Int))), rv (me)]) rfl (jl_rvn g1) ?_
    refine cx_gi (pc_q := 220) (c := 2) (q := 5) (v := F (me) (5 : Int)) rfl rfl (by decide) (by decide) (Or.inl rfl) rfl o_me t_me rfl ?_
    have b89 : (-2147483648 : Int) ≤ F (me) (5 : Int) ∧ F (me) (5 : Int) ≤ 2147483647 := by have z := HC_i (c := 2) (q := 5) hC o_me t_me (by decide) rfl; rw [show F (me) ((5 : Nat) : Int) = F (me) (5 : Int) from rfl] at z; exact z
    refine jx_ar (pc_q := 222) (st_q := [.int (i32 (31)), .int (i32 (F (me) (5 : Int))), .int (i32 (F (me) (6 : Int))), rv (me)]) rfl rfl rfl rfl ?_
    refine jx_and (pc_q := 223) rfl rfl ?_
    obtain ⟨z90, ez90⟩ : ∃ q, q = (i32 (F (me) (5 : Int)) &&& i32 (31)).toInt := ⟨_, rfl⟩
    rw [← ez90]
    have bz90 : (-2147483648 : Int) ≤ z90 ∧ z90 ≤ 2147483647 := ez90 ▸ i32_rg _
    have cz90 : 0 ≤ z90 ∧ z90 ≤ 31 := ez90 ▸ and_le (by decide) (by decide)
    clear ez90
    refine jx_ushrw (pc_q := 224) rfl rfl (fun r91 hr91 => ?_)
    refine cx_vi (c := 2) (a := me) (st := []) (as := [.int (i32 (r91))]) rfl rfl rfl o_me t_me (by decide) rfl ⟨rfl, rfl, (Nat.le_of_ble_eq_true rfl)⟩ rfl (k_LCore_replaceTwo (dd := d) (R := R) (m := m) (tg := tg) (ln := ln) (F := F) (me := me) (a0 := r91) (hd := by omega) (hC := hC) (o_me := o_me) (t_me := t_me) (h_a0 := by omega)) (fun o V_q hq => ?_)
    obtain ⟨F92, rfl, rfl, hC93, hM94, -⟩ := hq
    have hM95 : Fq 0 [(3, 5), (3, 6), (3, 7), (3, 8), (3, 9), (3, 10), (3, 11), (3, 13), (3, 19)] m tg F F92 := Fq_t (ln := ln) (ln1 := ln) hM0 Ex_r hM94 (by decide) (Or.inl rfl)
    refine Or.inl ⟨rfl, ?_⟩
    refine jx_go (tg := 243) rfl rfl ?_
    refine jx_rt (v := none) rfl rfl rfl rfl rfl rfl ?_
    exact ⟨F92, rfl, rfl, hC93, hM95, trivial⟩
  refine jx_swt (tg := 230) (by omega) (by omega) rfl (by omega) rfl ?_
  refine jx_ld (pc_q := 231) (l_q := L0) (st_q := [rv (me)]) rfl (jl_rvn g1) ?_
  refine jx_ld (pc_q := 232) (l_q := L0) (st_q := [rv (me), rv (me)]) rfl (jl_rvn g1) ?_
  refine cx_gi (pc_q := 235) (c := 2) (q := 5) (v := F (me) (5 : Int)) rfl rfl (by decide) (by decide) (Or.inl rfl) rfl o_me t_me rfl ?_
  have b96 : (-2147483648 : Int) ≤ F (me) (5 : Int) ∧ F (me) (5 : Int) ≤ 2147483647 := by have z := HC_i (c := 2) (q := 5) hC o_me t_me (by decide) rfl; rw [show F (me) ((5 : Nat) : Int) = F (me) (5 : Int) from rfl] at z; exact z
  refine jx_ld (pc_q := 236) (l_q := L0) (st_q := [rv (me), .int (i32 (F (me) (5 : Int))), rv (me)]) rfl (jl_rvn g1) ?_
  refine cx_gi (pc_q := 239) (c := 2) (q := 6) (v := F (me) (6 : Int)) rfl rfl (by decide) (by decide) (Or.inl rfl) rfl o_me t_me rfl ?_
  have b97 : (-2147483648 : Int) ≤ F (me) (6 : Int) ∧ F (me) (6 : Int) ≤ 2147483647 := by have z := HC_i (c := 2) (q := 6) hC o_me t_me (by decide) rfl; rw [show F (me) ((6 : Nat) : Int) = F (me) (6 : Int) from rfl] at z; exact z
  refine jx_add (pc_q := 240) rfl rfl ?_
  obtain ⟨z98, ez98⟩ : ∃ q, q = (i32 ((F (me) (5 : Int) + F (me) (6 : Int)))).toInt := ⟨_, rfl⟩
  have bz98 : (-2147483648 : Int) ≤ z98 ∧ z98 ≤ 2147483647 := ez98 ▸ i32_rg _
  rw [show i32 ((F (me) (5 : Int) + F (me) (6 : Int))) = i32 z98 by rw [ez98, i32_of]]
  clear ez98
  refine cx_vi (c := 2) (a := me) (st := []) (as := [.int (i32 (z98))]) rfl rfl rfl o_me t_me (by decide) rfl ⟨rfl, rfl, (Nat.le_of_ble_eq_true rfl)⟩ rfl (k_LCore_replaceTwo (dd := d) (R := R) (m := m) (tg := tg) (ln := ln) (F := F) (me := me) (a0 := z98) (hd := by omega) (hC := hC) (o_me := o_me) (t_me := t_me) (h_a0 := by omega)) (fun o V_q hq => ?_)
  obtain ⟨F99, rfl, rfl, hC100, hM101, -⟩ := hq
  have hM102 : Fq 0 [(3, 5), (3, 6), (3, 7), (3, 8), (3, 9), (3, 10), (3, 11), (3, 13), (3, 19)] m tg F F99 := Fq_t (ln := ln) (ln1 := ln) hM0 Ex_r hM101 (by decide) (Or.inl rfl)
  refine Or.inl ⟨rfl, ?_⟩
  refine jx_rt (v := none) rfl rfl rfl rfl rfl rfl ?_
  exact ⟨F99, rfl, rfl, hC100, hM102, trivial⟩
set_option maxRecDepth 20000 in
set_option maxHeartbeats 4000000 in
theorem k_LCore_perform {X : jX} {dd : Nat} {R : Nat → jC} {m : Nat} {tg ln : Int → Int} {F : Int → Int → Int} {me a0 a1 : Int} (hd : 5 ≤ dd) (hC : HC 0 m tg ln F) (o_me : own m me) (t_me : tg me = 3) (h_a0 : (-2147483648 : Int) ≤ a0 ∧ a0 ≤ 2147483647) (h_a1 : (-2147483648 : Int) ≤ a1 ∧ a1 ≤ 2147483647) : wk X dd 106 [rv me, .int (i32 a0), .int (i32 a1)] (cV R m tg ln F) (fun o V_q => ∃ (F_q : Int → Int → Int), V_q = cV R m tg ln F_q ∧ o = .inl none ∧ HC 0 m tg ln F_q ∧ Fq 0 [(3, 5), (3, 6), (3, 7), (3, 8), (3, 9), (3, 10), (3, 11), (3, 13), (3, 16), (3, 17), (3, 19), (21, -5)] m tg F F_q ∧ True) := by
  obtain ⟨d, rfl⟩ : ∃ d, dd = d + 1 := ⟨dd - 1, by omega⟩
  refine wk_of (e := jm106) rfl (by rw [jS_r, jS_i, jS_i, jS_0]; exact Nat.le_of_ble_eq_true rfl) ?_
  rw [la_r, la_i, la_i, la_0]
  show wj X d jm106 (0, [(0, rv (me)), (1, .int (i32 (a0))), (2, .int (i32 (a1)))], [], cV R m tg ln F) _
  have hM0 : Fq 0 [(3, 5), (3, 6), (3, 7), (3, 8), (3, 9), (3, 10), (3, 11), (3, 13), (3, 16), (3, 17), (3, 19), (21, -5)] m tg F F := Fq_r
  obtain ⟨L0, eL0⟩ : ∃ q : jL, q = [(0, rv (me)), (1, .int (i32 (a0))), (2, .int (i32 (a1)))] := ⟨_, rfl⟩
  rw [← eL0]
  have g1 : jGet L0 0 = some (rv (me)) := eL0 ▸ (rfl : jGet [(0, rv (me)), (1, .int (i32 (a0))), (2, .int (i32 (a1)))] 0 = some (rv (me)))
  have g2 : jGet L0 1 = some (.int (i32 (a0))) := eL0 ▸ (rfl : jGet [(0, rv (me)), (1, .int (i32 (a0))), (2, .int (i32 (a1)))] 1 = some (.int (i32 (a0))))
  have g3 : jGet L0 2 = some (.int (i32 (a1))) := eL0 ▸ (rfl : jGet [(0, rv (me)), (1, .int (i32 (a0))), (2, .int (i32 (a1)))] 2 = some (.int (i32 (a1))))
  clear eL0
  refine jx_ld (pc_q := 1) (l_q := L0) (st_q := [.int (i32 (a0))]) rfl (jl_iloadn g2) ?_
  by_cases h4 : a0 = 0
  · refine jx_swe (tg := 76) h4 rfl rfl rfl rfl ?_
    refine jx_ld (pc_q := 77) (l_q := L0) (st_q := [rv (me)]) rfl (jl_rvn g1) ?_
    refine jx_ld (pc_q := 78) (l_q := L0) (st_q := [.int (i32 (a1)), rv (me)]) rfl (jl_iloadn g3) ?_
    refine cx_vi (c := 2) (a := me) (st := []) (as := [.int (i32 (a1))]) rfl rfl rfl o_me t_me (by decide) rfl ⟨rfl, rfl, (Nat.le_of_ble_eq_true rfl)⟩ rfl (k_LCore_jump (dd := d) (R := R) (m := m) (tg := tg) (ln := ln) (F := F) (me := me) (a0 := a1) (hd := by omega) (hC := hC) (o_me := o_me) (t_me := t_me) (h_a0 := by omega)) (fun o V_q hq => ?_)
    obtain ⟨F5, rfl, rfl, hC6, hM7, -⟩ := hq
    have hM8 : Fq 0 [(3, 5), (3, 6), (3, 7), (3, 8), (3, 9), (3, 10), (3, 11), (3, 13), (3, 16), (3, 17), (3, 19), (21, -5)] m tg F F5 := Fq_t (ln := ln) (ln1 := ln) hM0 Ex_r hM7 (by decide) (Or.inl rfl)
    refine Or.inl ⟨rfl, ?_⟩
    refine jx_go (tg := 306) rfl rfl ?_
    refine jx_rt (v := none) rfl rfl rfl rfl rfl rfl ?_
    exact ⟨F5, rfl, rfl, hC6, hM8, trivial⟩
  by_cases h9 : a0 = 1
  · refine jx_swe (tg := 84) h9 rfl rfl rfl rfl ?_
    refine jx_ld (pc_q := 85) (l_q := L0) (st_q := [rv (me)]) rfl (jl_rvn g1) ?_
    refine jx_ld (pc_q := 86) (l_q := L0) (st_q := [rv (me), rv (me)]) rfl (jl_rvn g1) ?_
    refine cx_gi (pc_q := 89) (c := 2) (q := 9) (v := F (me) (9 : Int)) rfl rfl (by decide) (by decide) (Or.inl rfl) rfl o_me t_me rfl ?_
    have b10 : (-2147483648 : Int) ≤ F (me) (9 : Int) ∧ F (me) (9 : Int) ≤ 2147483647 := by have z := HC_i (c := 2) (q := 9) hC o_me t_me (by decide) rfl; rw [show F (me) ((9 : Nat) : Int) = F (me) (9 : Int) from rfl] at z; exact z
    refine jx_ld (pc_q := 90) (l_q := L0) (st_q := [.int (i32 (a1)), .int (i32 (F (me) (9 : Int))), rv (me)]) rfl (jl_iloadn g3) ?_
    refine jx_add (pc_q := 91) rfl rfl ?_
    obtain ⟨z11, ez11⟩ : ∃ q, q = (i32 ((F (me) (9 : Int) + a1))).toInt := ⟨_, rfl⟩
    have bz11 : (-2147483648 : Int) ≤ z11 ∧ z11 ≤ 2147483647 := ez11 ▸ i32_rg _
    rw [show i32 ((F (me) (9 : Int) + a1)) = i32 z11 by rw [ez11, i32_of]]
    clear ez11
    refine cx_vi (c := 2) (a := me) (st := []) (as := [.int (i32 (z11))]) rfl rfl rfl o_me t_me (by decide) rfl ⟨rfl, rfl, (Nat.le_of_ble_eq_true rfl)⟩ rfl (k_LCore_push (dd := d) (R := R) (m := m) (tg := tg) (ln := ln) (F := F) (me := me) (a0 := z11) (hd := by omega) (hC := hC) (o_me := o_me) (t_me := t_me) (h_a0 := by omega)) (fun o V_q hq => ?_)
    obtain ⟨F12, rfl, rfl, hC13, hM14, -⟩ := hq
    have hM15 : Fq 0 [(3, 5), (3, 6), (3, 7), (3, 8), (3, 9), (3, 10), (3, 11), (3, 13), (3, 16), (3, 17), (3, 19), (21, -5)] m tg F F12 := Fq_t (ln := ln) (ln1 := ln) hM0 Ex_r hM14 (by decide) (Or.inl rfl)
    refine Or.inl ⟨rfl, ?_⟩
    refine jx_go (tg := 306) rfl rfl ?_
    refine jx_rt (v := none) rfl rfl rfl rfl rfl rfl ?_
    exact ⟨F12, rfl, rfl, hC13, hM15, trivial⟩
  by_cases h16 : a0 = 2
  · refine jx_swe (tg := 302) h16 rfl rfl rfl rfl ?_
    refine jx_ld (pc_q := 303) (l_q := L0) (st_q := [rv (me)]) rfl (jl_rvn g1) ?_
    refine cx_vi (c := 2) (a := me) (st := []) (as := []) rfl rfl rfl o_me t_me (by decide) rfl ⟨rfl, rfl, (Nat.le_of_ble_eq_true rfl)⟩ rfl (k_LCore_fail (dd := d) (R := R) (m := m) (tg := tg) (ln := ln) (F := F) (me := me) (hd := by omega) (hC := hC) (o_me := o_me) (t_me := t_me)) (fun o V_q hq => ?_)
    obtain ⟨F17, rfl, rfl, hC18, hM19, -⟩ := hq
    have hM20 : Fq 0 [(3, 5), (3, 6), (3, 7), (3, 8), (3, 9), (3, 10), (3, 11), (3, 13), (3, 16), (3, 17), (3, 19), (21, -5)] m tg F F17 := Fq_t (ln := ln) (ln1 := ln) hM0 Ex_r hM19 (by decide) (Or.inl rfl)
    refine Or.inl ⟨rfl, ?_⟩
    refine jx_rt (v := none) rfl rfl rfl rfl rfl rfl ?_
    exact ⟨F17, rfl, rfl, hC18, hM20, trivial⟩
  by_cases h21 : a0 = 3
  · refine jx_swe (tg := 97) h21 rfl rfl rfl rfl ?_
    refine jx_ld (pc_q := 98) (l_q := L0) (st_q := [rv (me)]) rfl (jl_rvn g1) ?_
    refine jx_ld (pc_q := 99) (l_q := L0) (st_q := [rv (me), rv (me)]) rfl (jl_rvn g1) ?_
    refine jx_ld (pc_q := 100) (l_q := L0) (st_q := [rv (me), rv (me), rv (me)]) rfl (jl_rvn g1) ?_
    refine cx_gi (pc_q := 103) (c := 2) (q := 5) (v := F (me) (5 : Int)) rfl rfl (by decide) (by decide) (Or.inl rfl) rfl o_me t_me rfl ?_
    have b22 : (-2147483648 : Int) ≤ F (me) (5 : Int) ∧ F (me) (5 : Int) ≤ 2147483647 := by have z := HC_i (c := 2) (q := 5) hC o_me t_me (by decide) rfl; rw [show F (me) ((5 : Nat) : Int) = F (me) (5 : Int) from rfl] at z; exact z
    refine jx_ld (pc_q := 104) (l_q := L0) (st_q := [.int (i32 (a1)), .int (i32 (F (me) (5 : Int))), rv (me), rv (me)]) rfl (jl_iloadn g3) ?_
    refine jx_add (pc_q := 105) rfl rfl ?_
    obtain ⟨z23, ez23⟩ : ∃ q, q = (i32 ((F (me) (5 : Int) + a1))).toInt := ⟨_, rfl⟩
    have bz23 : (-2147483648 : Int) ≤ z23 ∧ z23 ≤ 2147483647 := ez23 ▸ i32_rg _
    rw [show i32 ((F (me) (5 : Int) + a1)) = i32 z23 by rw [ez23, i32_of]]
    clear ez23
    refine cx_vi (c := 2) (a := me) (st := [rv (me)]) (as := [.int (i32 (z23))]) rfl rfl rfl o_me t_me (by decide) rfl ⟨rfl, rfl, (by rw [jS_r, jS_0]; exact Nat.le_of_ble_eq_true rfl)⟩ rfl (k_LCore_peek (dd := d) (R := R) (m := m) (tg := tg) (ln := ln) (F := F) (me := me) (a0 := z23) (hd := by omega) (hC := hC) (o_me := o_me) (t_me := t_me) (h_a0 := by omega)) (fun o V_q hq => ?_)
    obtain ⟨r24, rfl, rfl, b25, -⟩ := hq
    refine Or.inr (Or.inl ⟨_, rfl, ?_⟩)
    refine cx_pi (pc_q := 111) (c := 2) (q := 5) (qi := (5 : Int)) (z := r24) rfl rfl (by decide) (by decide) rfl rfl rfl (by decide) rfl o_me t_me rfl ?_
    obtain ⟨F26, eF26⟩ : ∃ q, q = uF F (me) (5 : Int) (r24) := ⟨_, rfl⟩
    rw [← eF26]
    have hC27 : HC 0 m tg ln F26 := by rw [eF26]; exact HC_fi (c := 2) (q := 5) hC t_me (by decide) rfl (by omega) (by omega) ⟨fun w => absurd w (by decide), fun _ => ⟨fun w => absurd w (by decide), fun w => absurd w (by decide)⟩⟩
    have hM28 : Fq 0 [(3, 5), (3, 6), (3, 7), (3, 8), (3, 9), (3, 10), (3, 11), (3, 13), (3, 16), (3, 17), (3, 19), (21, -5)] m tg F F26 := by rw [eF26]; exact Fq_p hM0 t_me (fun _ => rfl) rfl
    refine jx_go (tg := 306) rfl rfl ?_
    refine jx_rt (v := none) rfl rfl rfl rfl rfl rfl ?_
    exact ⟨F26, rfl, rfl, hC27, hM28, trivial⟩
  by_cases h29 : a0 = 4
  · refine jx_swe (tg := 114) h29 rfl rfl rfl rfl ?_
    refine jx_ld (pc_q := 115) (l_q := L0) (st_q := [rv (me)]) rfl (jl_rvn g1) ?_
    refine jx_ld (pc_q := 116) (l_q := L0) (st_q := [.int (i32 (a1)), rv (me)]) rfl (jl_iloadn g3) ?_
    refine cx_vi (c := 2) (a := me) (st := []) (as := [.int (i32 (a1))]) rfl rfl rfl o_me t_me (by decide) rfl ⟨rfl, rfl, (Nat.le_of_ble_eq_true rfl)⟩ rfl (k_LCore_push (dd := d) (R := R) (m := m) (tg := tg) (ln := ln) (F := F) (me := me) (a0 := a1) (hd := by omega) (hC := hC) (o_me := o_me) (t_me := t_me) (h_a0 := by omega)) (fun o V_q hq => ?_)
    obtain ⟨F30, rfl, rfl, hC31, hM32, -⟩ := hq
    have hM33 : Fq 0 [(3, 5), (3, 6), (3, 7), (3, 8), (3, 9), (3, 10), (3, 11), (3, 13), (3, 16), (3, 17), (3, 19), (21, -5)] m tg F F30 := Fq_t (ln := ln) (ln1 := ln) hM0 Ex_r hM32 (by decide) (Or.inl rfl)
    refine Or.inl ⟨rfl, ?_⟩
    refine jx_go (tg := 306) rfl rfl ?_
    refine jx_rt (v := none) rfl rfl rfl rfl rfl rfl ?_
    exact ⟨F30, rfl, rfl, hC31, hM33, trivial⟩
  by_cases h34 : a0 = 5
  · refine jx_swe (tg := 122) h34 rfl rfl rfl rfl ?_
    refine jx_ld (pc_q := 123) (l_q := L0) (st_q := [rv (me)]) rfl (jl_rvn g1) ?_
    refine jx_ar (pc_q := 124) (st_q := [rv (me), rv (me)]) rfl rfl ja_dup rfl ?_
    refine cx_gi (pc_q := 127) (c := 2) (q := 5) (v := F (me) (5 : Int)) rfl rfl (by decide) (by decide) (Or.inl rfl) rfl o_me t_me rfl ?_
    have b35 : (-2147483648 : Int) ≤ F (me) (5 : Int) ∧ F (me) (5 : Int) ≤ 2147483647 := by have z := HC_i (c := 2) (q := 5) hC o_me t_me (by decide) rfl; rw [show F (me) ((5 : Nat) : Int) = F (me) (5 : Int) from rfl] at z; exact z
    refine jx_ld (pc_q := 128) (l_q := L0) (st_q := [.int (i32 (a1)), .int (i32 (F (me) (5 : Int))), rv (me)]) rfl (jl_iloadn g3) ?_
    refine jx_add (pc_q := 129) rfl rfl ?_
    obtain ⟨z36, ez36⟩ : ∃ q, q = (i32 ((F (me) (5 : Int) + a1))).toInt := ⟨_, rfl⟩
    have bz36 : (-2147483648 : Int) ≤ z36 ∧ z36 ≤ 2147483647 := ez36 ▸ i32_rg _
    rw [show i32 ((F (me) (5 : Int) + a1)) = i32 z36 by rw [ez36, i32_of]]
    clear ez36
    refine cx_pi (pc_q := 132) (c := 2) (q := 5) (qi := (5 : Int)) (z := z36) rfl rfl (by decide) (by decide) rfl rfl rfl (by decide) rfl o_me t_me rfl ?_
    obtain ⟨F37, eF37⟩ : ∃ q, q = uF F (me) (5 : Int) (z36) := ⟨_, rfl⟩
    rw [← eF37]
    have hC38 : HC 0 m tg ln F37 := by rw [eF37]; exact HC_fi (c := 2) (q := 5) hC t_me (by decide) rfl (by omega) (by omega) ⟨fun w => absurd w (by decide), fun _ => ⟨fun w => absurd w (by decide), fun w => absurd w (by decide)⟩⟩
    have hM39 : Fq 0 [(3, 5), (3, 6), (3, 7), (3, 8), (3, 9), (3, 10), (3, 11), (3, 13), (3, 16), (3, 17), (3, 19), (21, -5)] m tg F F37 := by rw [eF37]; exact Fq_p hM0 t_me (fun _ => rfl) rfl
    refine jx_go (tg := 306) rfl rfl ?_
    refine jx_rt (v := none) rfl rfl rfl rfl rfl rfl ?_
    exact ⟨F37, rfl, rfl, hC38, hM39, trivial⟩
  by_cases h40 : a0 = 6
  · refine jx_swe (tg := 302) h40 rfl rfl rfl rfl ?_
    refine jx_ld (pc_q := 303) (l_q := L0) (st_q := [rv (me)]) rfl (jl_rvn g1) ?_
    refine cx_vi (c := 2) (a := me) (st := []) (as := []) rfl rfl rfl o_me t_me (by decide) rfl ⟨rfl, rfl, (Nat.le_of_ble_eq_true rfl)⟩ rfl (k_LCore_fail (dd := d) (R := R) (m := m) (tg := tg) (ln := ln) (F := F) (me := me) (hd := by omega) (hC := hC) (o_me := o_me) (t_me := t_me)) (fun o V_q hq => ?_)
    obtain ⟨F41, rfl, rfl, hC42, hM43, -⟩ := hq
    have hM44 : Fq 0 [(3, 5), (3, 6), (3, 7), (3, 8), (3, 9), (3, 10), (3, 11), (3, 13), (3, 16), (3, 17), (3, 19), (21, -5)] m tg F F41 := Fq_t (ln := ln) (ln1 := ln) hM0 Ex_r hM43 (by decide) (Or.inl rfl)
    refine Or.inl ⟨rfl, ?_⟩
    refine jx_rt (v := none) rfl rfl rfl rfl rfl rfl ?_
    exact ⟨F41, rfl, rfl, hC42, hM44, trivial⟩
  by_cases h45 : a0 = 7
  · refine jx_swe (tg := 135) h45 rfl rfl rfl rfl ?_
    refine jx_ld (pc_q := 136) (l_q := L0) (st_q := [rv (me)]) rfl (jl_rvn g1) ?_
    refine jx_ld (pc_q := 137) (l_q := L0) (st_q := [rv (me), rv (me)]) rfl (jl_rvn g1) ?_
    refine jx_ld (pc_q := 138) (l_q := L0) (st_q := [rv (me), rv (me), rv (me)]) rfl (jl_rvn g1) ?_
    refine cx_gi (pc_q := 141) (c := 2) (q := 9) (v := F (me) (9 : Int)) rfl rfl (by decide) (by decide) (Or.inl rfl) rfl o_me t_me rfl ?_
    have b46 : (-2147483648 : Int) ≤ F (me) (9 : Int) ∧ F (me) (9 : Int) ≤ 2147483647 := by have z := HC_i (c := 2) (q := 9) hC o_me t_me (by decide) rfl; rw [show F (me) ((9 : Nat) : Int) = F (me) (9 : Int) from rfl] at z; exact z
    refine jx_ld (pc_q := 142) (l_q := L0) (st_q := [.int (i32 (a1)), .int (i32 (F (me) (9 : Int))), rv (me), rv (me)]) rfl (jl_iloadn g3) ?_
    refine jx_add (pc_q := 143) rfl rfl ?_
    obtain ⟨z47, ez47⟩ : ∃ q, q = (i32 ((F (me) (9 : Int) + a1))).toInt := ⟨_, rfl⟩
    have bz47 : (-2147483648 : Int) ≤ z47 ∧ z47 ≤ 2147483647 := ez47 ▸ i32_rg _
    rw [show i32 ((F (me) (9 : Int) + a1)) = i32 z47 by rw [ez47, i32_of]]
    clear ez47
    refine cx_vi (c := 2) (a := me) (st := [rv (me)]) (as := [.int (i32 (z47))]) rfl rfl rfl o_me t_me (by decide) rfl ⟨rfl, rfl, (by rw [jS_r, jS_0]; exact Nat.le_of_ble_eq_true rfl)⟩ rfl (k_LCore_peek (dd := d) (R := R) (m := m) (tg := tg) (ln := ln) (F := F) (me := me) (a0 := z47) (hd := by omega) (hC := hC) (o_me := o_me) (t_me := t_me) (h_a0 := by omega)) (fun o V_q hq => ?_)
    obtain ⟨r48, rfl, rfl, b49, -⟩ := hq
    refine Or.inr (Or.inl ⟨_, rfl, ?_⟩)
    refine cx_vi (c := 2) (a := me) (st := []) (as := [.int (i32 (r48))]) rfl rfl rfl o_me t_me (by decide) rfl ⟨rfl, rfl, (Nat.le_of_ble_eq_true rfl)⟩ rfl (k_LCore_push (dd := d) (R := R) (m := m) (tg := tg) (ln := ln) (F := F) (me := me) (a0 := r48) (hd := by omega) (hC := hC) (o_me := o_me) (t_me := t_me) (h_a0 := by omega)) (fun o V_q hq => ?_)
    obtain ⟨F50, rfl, rfl, hC51, hM52, -⟩ := hq
    have hM53 : Fq 0 [(3, 5), (3, 6), (3, 7), (3, 8), (3, 9), (3, 10), (3, 11), (3, 13), (3, 16), (3, 17), (3, 19), (21, -5)] m tg F F50 := Fq_t (ln := ln) (ln1 := ln) hM0 Ex_r hM52 (by decide) (Or.inl rfl)
    refine Or.inl ⟨rfl, ?_⟩
    refine jx_go (tg := 306) rfl rfl ?_
    refine jx_rt (v := none) rfl rfl rfl rfl rfl rfl ?_
    exact ⟨F50, rfl, rfl, hC51, hM53, trivial⟩
  by_cases h54 : a0 = 8
  · refine jx_swe (tg := 152) h54 rfl rfl rfl rfl ?_
    refine jx_ld (pc_q := 153) (l_q := L0) (st_q := [rv (me)]) rfl (jl_rvn g1) ?_
    refine jx_ar (pc_q := 154) (st_q := [rv (me), rv (me)]) rfl rfl ja_dup rfl ?_
    refine cx_gi (pc_q := 157) (c := 2) (q := 5) (v := F (me) (5 : Int)) rfl rfl (by decide) (by decide) (Or.inl rfl) rfl o_me t_me rfl ?_
    have b55 : (-2147483648 : Int) ≤ F (me) (5 : Int) ∧ F (me) (5 : Int) ≤ 2147483647 := by have z := HC_i (c := 2) (q := 5) hC o_me t_me (by decide) rfl; rw [show F (me) ((5 : Nat) : Int) = F (me) (5 : Int) from rfl] at z; exact z
    refine jx_ld (pc_q := 158) (l_q := L0) (st_q := [.int (i32 (a1)), .int (i32 (F (me) (5 : Int))), rv (me)]) rfl (jl_iloadn g3) ?_
    refine jx_add (pc_q := 159) rfl rfl ?_
    obtain ⟨z56, ez56⟩ : ∃ q, q = (i32 ((F (me) (5 : Int) + a1))).toInt := ⟨_, rfl⟩
    have bz56 : (-2147483648 : Int) ≤ z56 ∧ z56 ≤ 2147483647 := ez56 ▸ i32_rg _
    rw [show i32 ((F (me) (5 : Int) + a1)) = i32 z56 by rw [ez56, i32_of]]
    clear ez56
    refine cx_pi (pc_q := 162) (c := 2) (q := 5) (qi := (5 : Int)) (z := z56) rfl rfl (by decide) (by decide) rfl rfl rfl (by decide) rfl o_me t_me rfl ?_
    obtain ⟨F57, eF57⟩ : ∃ q, q = uF F (me) (5 : Int) (z56) := ⟨_, rfl⟩
    rw [← eF57]
    have hC58 : HC 0 m tg ln F57 := by rw [eF57]; exact HC_fi (c := 2) (q := 5) hC t_me (by decide) rfl (by omega) (by omega) ⟨fun w => absurd w (by decide), fun _ => ⟨fun w => absurd w (by decide), fun w => absurd w (by decide)⟩⟩
    have hM59 : Fq 0 [(3, 5), (3, 6), (3, 7), (3, 8), (3, 9), (3, 10), (3, 11), (3, 13), (3, 16), (3, 17), (3, 19), (21, -5)] m tg F F57 := by rw [eF57]; exact Fq_p hM0 t_me (fun _ => rfl) rfl
    refine jx_go (tg := 306) rfl rfl ?_
    refine jx_rt (v := none) rfl rfl rfl rfl rfl rfl ?_
    exact ⟨F57, rfl, rfl, hC58, hM59, trivial⟩
  by_cases h60 : a0 = 9
  · refine jx_swe (tg := 165) h60 rfl rfl rfl rfl ?_
    refine jx_ld (pc_q := 166) (l_q := L0) (st_q := [rv (me)]) rfl (jl_rvn g1) ?_
    refine jx_ar (pc_q := 167) (st_q := [rv (me), rv (me)]) rfl rfl ja_dup rfl ?_
    refine cx_gi (pc_q := 170) (c := 2) (q := 9) (v := F (me) (9 : Int)) rfl rfl (by decide) (by decide) (Or.inl rfl) rfl o_me t_me rfl ?_
    have b61 : (-2147483648 : Int) ≤ F (me) (9 : Int) ∧ F (me) (9 : Int) ≤ 2147483647 := by have z := HC_i (c := 2) (q := 9) hC o_me t_me (by decide) rfl; rw [show F (me) ((9 : Nat) : Int) = F (me) (9 : Int) from rfl] at z; exact z
    refine jx_ar (pc_q := 171) (st_q := [.int (i32 (4)), .int (i32 (F (me) (9 : Int))), rv (me)]) rfl rfl rfl rfl ?_
    refine jx_sub (pc_q := 172) rfl rfl ?_
    obtain ⟨z62, ez62⟩ : ∃ q, q = (i32 ((F (me) (9 : Int) - 4))).toInt := ⟨_, rfl⟩
    have bz62 : (-2147483648 : Int) ≤ z62 ∧ z62 ≤ 2147483647 := ez62 ▸ i32_rg _
    rw [show i32 ((F (me) (9 : Int) - 4)) = i32 z62 by rw [ez62, i32_of]]
    clear ez62
    refine cx_pi (pc_q := 175) (c := 2) (q := 9) (qi := (9 : Int)) (z := z62) rfl rfl (by decide) (by decide) rfl rfl rfl (by decide) rfl o_me t_me rfl ?_
    obtain ⟨F63, eF63⟩ : ∃ q, q = uF F (me) (9 : Int) (z62) := ⟨_, rfl⟩
    rw [← eF63]
    have hC64 : HC 0 m tg ln F63 := by rw [eF63]; exact HC_fi (c := 2) (q := 9) hC t_me (by decide) rfl (by omega) (by omega) ⟨fun w => absurd w (by decide), fun _ => ⟨fun w => absurd w (by decide), fun w => absurd w (by decide)⟩⟩
    have hM65 : Fq 0 [(3, 5), (3, 6), (3, 7), (3, 8), (3, 9), (3, 10), (3, 11), (3, 13), (3, 16), (3, 17), (3, 19), (21, -5)] m tg F F63 := by rw [eF63]; exact Fq_p hM0 t_me (fun _ => rfl) rfl
    refine jx_ld (pc_q := 176) (l_q := L0) (st_q := [rv (me)]) rfl (jl_rvn g1) ?_
    refine jx_ld (pc_q := 177) (l_q := L0) (st_q := [rv (me), rv (me)]) rfl (jl_rvn g1) ?_
    refine cx_gi (pc_q := 180) (c := 2) (q := 9) (v := z62) rfl rfl (by decide) (by decide) (Or.inl rfl) rfl o_me t_me (show F63 (me) (9 : Int) = z62 from by rw [eF63]; exact uF_e) ?_
    refine jx_ld (pc_q := 181) (l_q := L0) (st_q := [rv (me), .int (i32 (z62)), rv (me)]) rfl (jl_rvn g1) ?_
    refine cx_gi (pc_q := 184) (c := 2) (q := 8) (v := F (me) (8 : Int)) rfl rfl (by decide) (by decide) (Or.inl rfl) rfl o_me t_me (show F63 (me) (8 : Int) = F (me) (8 : Int) from by rw [eF63]; exact uF_j (by decide)) ?_
    have b66 : (-2147483648 : Int) ≤ F (me) (8 : Int) ∧ F (me) (8 : Int) ≤ 2147483647 := by have z := HC_i (c := 2) (q := 8) hC64 o_me t_me (by decide) rfl; rw [show F63 (me) ((8 : Nat) : Int) = F (me) (8 : Int) from (show F63 (me) (8 : Int) = F (me) (8 : Int) from by rw [eF63]; exact uF_j (by decide))] at z; exact z
    refine cx_vi (c := 2) (a := me) (st := []) (as := [.int (i32 (z62)), .int (i32 (F (me) (8 : Int)))]) rfl rfl rfl o_me t_me (by decide) rfl ⟨rfl, rfl, (Nat.le_of_ble_eq_true rfl)⟩ rfl (k_LCore_poke (dd := d) (R := R) (m := m) (tg := tg) (ln := ln) (F := F63) (me := me) (a0 := z62) (a1 := F (me) (8 : Int)) (hd := by omega) (hC := hC64) (o_me := o_me) (t_me := t_me) (h_a0 := by omega) (h_a1 := by omega)) (fun o V_q hq => ?_)
    obtain ⟨F67, rfl, rfl, hC68, hM69, -⟩ := hq
    have hM70 : Fq 0 [(3, 5), (3, 6), (3, 7), (3, 8), (3, 9), (3, 10), (3, 11), (3, 13), (3, 16), (3, 17), (3, 19), (21, -5)] m tg F F67 := Fq_t (ln := ln) (ln1 := ln) hM65 Ex_r hM69 (by decide) (Or.inl rfl)
    refine Or.inl ⟨rfl, ?_⟩
    refine jx_ld (pc_q := 188) (l_q := L0) (st_q := [rv (me)]) rfl (jl_rvn g1) ?_
    refine jx_ar (pc_q := 189) (st_q := [rv (me), rv (me)]) rfl rfl ja_dup rfl ?_
    refine cx_gi (pc_q := 192) (c := 2) (q := 8) (v := F (me) (8 : Int)) rfl rfl (by decide) (by decide) (Or.inl rfl) rfl o_me t_me ((show F67 (me) (8 : Int) = F63 (me) (8 : Int) from hM69 _ _ o_me (own_z o_me) (by rw [t_me]; rfl)).trans (show F63 (me) (8 : Int) = F (me) (8 : Int) from by rw [eF63]; exact uF_j (by decide))) ?_
    refine jx_ld (pc_q := 193) (l_q := L0) (st_q := [.int (i32 (a1)), .int (i32 (F (me) (8 : Int))), rv (me)]) rfl (jl_iloadn g3) ?_
    refine jx_add (pc_q := 194) rfl rfl ?_
    obtain ⟨z71, ez71⟩ : ∃ q, q = (i32 ((F (me) (8 : Int) + a1))).toInt := ⟨_, rfl⟩
    have bz71 : (-2147483648 : Int) ≤ z71 ∧ z71 ≤ 2147483647 := ez71 ▸ i32_rg _
    rw [show i32 ((F (me) (8 : Int) + a1)) = i32 z71 by rw [ez71, i32_of]]
    clear ez71
    refine cx_pi (pc_q := 197) (c := 2) (q := 8) (qi := (8 : Int)) (z := z71) rfl rfl (by decide) (by decide) rfl rfl rfl (by decide) rfl o_me t_me rfl ?_
    obtain ⟨F72, eF72⟩ : ∃ q, q = uF F67 (me) (8 : Int) (z71) := ⟨_, rfl⟩
    rw [← eF72]
    have hC73 : HC 0 m tg ln F72 := by rw [eF72]; exact HC_fi (c := 2) (q := 8) hC68 t_me (by decide) rfl (by omega) (by omega) ⟨fun w => absurd w (by decide), fun _ => ⟨fun w => absurd w (by decide), fun w => absurd w (by decide)⟩⟩
    have hM74 : Fq 0 [(3, 5), (3, 6), (3, 7), (3, 8), (3, 9), (3, 10), (3, 11), (3, 13), (3, 16), (3, 17), (3, 19), (21, -5)] m tg F F72 := by rw [eF72]; exact Fq_p hM70 t_me (fun _ => rfl) rfl
    refine jx_go (tg := 306) rfl rfl ?_
    refine jx_rt (v := none) rfl rfl rfl rfl rfl rfl ?_
    exact ⟨F72, rfl, rfl, hC73, hM74, trivial⟩
  by_cases h75 : a0 = 10
  · refine jx_swe (tg := 200) h75 rfl rfl rfl rfl ?_
    refine jx_ld (pc_q := 201) (l_q := L0) (st_q := [rv (me)]) rfl (jl_rvn g1) ?_
    refine cx_gi (pc_q := 204) (c := 2) (q := 5) (v := F (me) (5 : Int)) rfl rfl (by decide) (by decide) (Or.inl rfl) rfl o_me t_me rfl ?_
    have b76 : (-2147483648 : Int) ≤ F (me) (5 : Int) ∧ F (me) (5 : Int) ≤ 2147483647 := by have z := HC_i (c := 2) (q := 5) hC o_me t_me (by decide) rfl; rw [show F (me) ((5 : Nat) : Int) = F (me) (5 : Int) from rfl] at z; exact z
    refine jx_if_ne (pc_q := 207) (tg := 220) rfl rfl rfl (by omega) (by omega) (fun h77 => ?_) (fun h77 => ?_)
    · have _q := h77
      refine jx_ld (pc_q := 221) (l_q := L0) (st_q := [rv (me)]) rfl (jl_rvn g1) ?_
      refine cx_vi (c := 2) (a := me) (st := []) (as := []) rfl rfl rfl o_me t_me (by decide) rfl ⟨rfl, rfl, (Nat.le_of_ble_eq_true rfl)⟩ rfl (k_LCore_drop (dd := d) (R := R) (m := m) (tg := tg) (ln := ln) (F := F) (me := me) (hd := by omega) (hC := hC) (o_me := o_me) (t_me := t_me)) (fun o V_q hq => ?_)
      obtain ⟨F78, rfl, rfl, hC79, hM80, -⟩ := hq
      have hM81 : Fq 0 [(3, 5), (3, 6), (3, 7), (3, 8), (3, 9), (3, 10), (3, 11), (3, 13), (3, 16), (3, 17), (3, 19), (21, -5)] m tg F F78 := Fq_t (ln := ln) (ln1 := ln) hM0 Ex_r hM80 (by decide) (Or.inl rfl)
      refine Or.inl ⟨rfl, ?_⟩
      refine jx_go (tg := 306) rfl rfl ?_
      refine jx_rt (v := none) rfl rfl rfl rfl rfl rfl ?_
      exact ⟨F78, rfl, rfl, hC79, hM81, trivial⟩
    · have _q := h77
      refine jx_ld (pc_q := 208) (l_q := L0) (st_q := [rv (me)]) rfl (jl_rvn g1) ?_
      refine jx_ar (pc_q := 209) (st_q := [rv (me), rv (me)]) rfl rfl ja_dup rfl ?_
      refine cx_gi (pc_q := 212) (c := 2) (q := 8) (v := F (me) (8 : Int)) rfl rfl (by decide) (by decide) (Or.inl rfl) rfl o_me t_me rfl ?_
      have b82 : (-2147483648 : Int) ≤ F (me) (8 : Int) ∧ F (me) (8 : Int) ≤ 2147483647 := by have z := HC_i (c := 2) (q := 8) hC o_me t_me (by decide) rfl; rw [show F (me) ((8 : Nat) : Int) = F (me) (8 : Int) from rfl] at z; exact z
      refine jx_ld (pc_q := 213) (l_q := L0) (st_q := [.int (i32 (a1)), .int (i32 (F (me) (8 : Int))), rv (me)]) rfl (jl_iloadn g3) ?_
      refine jx_add (pc_q := 214) rfl rfl ?_
      obtain ⟨z83, ez83⟩ : ∃ q, q = (i32 ((F (me) (8 : Int) + a1))).toInt := ⟨_, rfl⟩
      have bz83 : (-2147483648 : Int) ≤ z83 ∧ z83 ≤ 2147483647 := ez83 ▸ i32_rg _
      rw [show i32 ((F (me) (8 : Int) + a1)) = i32 z83 by rw [ez83, i32_of]]
      clear ez83
      refine cx_pi (pc_q := 217) (c := 2) (q := 8) (qi := (8 : Int)) (z := z83) rfl rfl (by decide) (by decide) rfl rfl rfl (by decide) rfl o_me t_me rfl ?_
      obtain ⟨F84, eF84⟩ : ∃ q, q = uF F (me) (8 : Int) (z83) := ⟨_, rfl⟩
      rw [← eF84]
      have hC85 : HC 0 m tg ln F84 := by rw [eF84]; exact HC_fi (c := 2) (q := 8) hC t_me (by decide) rfl (by omega) (by omega) ⟨fun w => absurd w (by decide), fun _ => ⟨fun w => absurd w (by decide), fun w => absurd w (by decide)⟩⟩
      have hM86 : Fq 0 [(3, 5), (3, 6), (3, 7), (3, 8), (3, 9), (3, 10), (3, 11), (3, 13), (3, 16), (3, 17), (3, 19), (21, -5)] m tg F F84 := by rw [eF84]; exact Fq_p hM0 t_me (fun _ => rfl) rfl
      refine jx_go (tg := 306) rfl rfl ?_
      refine jx_rt (v := none) rfl rfl rfl rfl rfl rfl ?_
      exact ⟨F84, rfl, rfl, hC85, hM86, trivial⟩
  by_cases h87 : a0 = 11
  · refine jx_swe (tg := 227) h87 rfl rfl rfl rfl ?_
    refine jx_ld (pc_q := 228) (l_q := L0) (st_q := [rv (me)]) rfl (jl_rvn g1) ?_
    refine jx_ar (pc_q := 229) (st_q := [rv (me), rv (me)]) rfl rfl ja_dup rfl ?_
    refine cx_gi (pc_q := 232) (c := 2) (q := 9) (v := F (me) (9 : Int)) rfl rfl (by decide) (by decide) (Or.inl rfl) rfl o_me t_me rfl ?_
    have b88 : (-2147483648 : Int) ≤ F (me) (9 : Int) ∧ F (me) (9 : Int) ≤ 2147483647 := by have z := HC_i (c := 2) (q := 9) hC o_me t_me (by decide) rfl; rw [show F (me) ((9 : Nat) : Int) = F (me) (9 : Int) from rfl] at z; exact z
    refine jx_ld (pc_q := 233) (l_q := L0) (st_q := [.int (i32 (a1)), .int (i32 (F (me) (9 : Int))), rv (me)]) rfl (jl_iloadn g3) ?_
    refine jx_add (pc_q := 234) rfl rfl ?_
    obtain ⟨z89, ez89⟩ : ∃ q, q = (i32 ((F (me) (9 : Int) + a1))).toInt := ⟨_, rfl⟩
    have bz89 : (-2147483648 : Int) ≤ z89 ∧ z89 ≤ 2147483647 := ez89 ▸ i32_rg _
    rw [show i32 ((F (me) (9 : Int) + a1)) = i32 z89 by rw [ez89, i32_of]]
    clear ez89
    refine cx_pi (pc_q := 237) (c := 2) (q := 9) (qi := (9 : Int)) (z := z89) rfl rfl (by decide) (by decide) rfl rfl rfl (by decide) rfl o_me t_me rfl ?_
    obtain ⟨F90, eF90⟩ : ∃ q, q = uF F (me) (9 : Int) (z89) := ⟨_, rfl⟩
    rw [← eF90]
    have hC91 : HC 0 m tg ln F90 := by rw [eF90]; exact HC_fi (c := 2) (q := 9) hC t_me (by decide) rfl (by omega) (by omega) ⟨fun w => absurd w (by decide), fun _ => ⟨fun w => absurd w (by decide), fun w => absurd w (by decide)⟩⟩
    have hM92 : Fq 0 [(3, 5), (3, 6), (3, 7), (3, 8), (3, 9), (3, 10), (3, 11), (3, 13), (3, 16), (3, 17), (3, 19), (21, -5)] m tg F F90 := by rw [eF90]; exact Fq_p hM0 t_me (fun _ => rfl) rfl
    refine jx_go (tg := 306) rfl rfl ?_
    refine jx_rt (v := none) rfl rfl rfl rfl rfl rfl ?_
    exact ⟨F90, rfl, rfl, hC91, hM92, trivial⟩
  by_cases h93 : a0 = 12
  · refine jx_swe (tg := 240) h93 rfl rfl rfl rfl ?_
    refine jx_ld (pc_q := 241) (l_q := L0) (st_q := [rv (me)]) rfl (jl_rvn g1) ?_
    refine jx_ld (pc_q := 242) (l_q := L0) (st_q := [rv (me), rv (me)]) rfl (jl_rvn g1) ?_
    refine cx_gi (pc_q := 245) (c := 2) (q := 5) (v := F (me) (5 : Int)) rfl rfl (by decide) (by decide) (Or.inl rfl) rfl o_me t_me rfl ?_
    have b94 : (-2147483648 : Int) ≤ F (me) (5 : Int) ∧ F (me) (5 : Int) ≤ 2147483647 := by have z := HC_i (c := 2) (q := 5) hC o_me t_me (by decide) rfl; rw [show F (me) ((5 : Nat) : Int) = F (me) (5 : Int) from rfl] at z; exact z
    refine jx_ld (pc_q := 246) (l_q := L0) (st_q := [.int (i32 (a1)), .int (i32 (F (me) (5 : Int))), rv (me)]) rfl (jl_iloadn g3) ?_
    refine jx_icmp_ne (pc_q := 249) (tg := 253) rfl rfl rfl (by omega) (by omega) (by omega) (by omega) (fun h95 => ?_) (fun h95 => ?_)
    · have _q := h95
      refine jx_ar (pc_q := 254) (st_q := [.int (i32 (0)), rv (me)]) rfl rfl rfl rfl ?_
      refine cx_pi (pc_q := 257) (c := 2) (q := 5) (qi := (5 : Int)) (z := 0) rfl rfl (by decide) (by decide) rfl rfl rfl (by decide) rfl o_me t_me rfl ?_
      obtain ⟨F96, eF96⟩ : ∃ q, q = uF F (me) (5 : Int) (0) := ⟨_, rfl⟩
      rw [← eF96]
      have hC97 : HC 0 m tg ln F96 := by rw [eF96]; exact HC_fi (c := 2) (q := 5) hC t_me (by decide) rfl (by omega) (by omega) ⟨fun w => absurd w (by decide), fun _ => ⟨fun w => absurd w (by decide), fun w => absurd w (by decide)⟩⟩
      have hM98 : Fq 0 [(3, 5), (3, 6), (3, 7), (3, 8), (3, 9), (3, 10), (3, 11), (3, 13), (3, 16), (3, 17), (3, 19), (21, -5)] m tg F F96 := by rw [eF96]; exact Fq_p hM0 t_me (fun _ => rfl) rfl
      refine jx_go (tg := 306) rfl rfl ?_
      refine jx_rt (v := none) rfl rfl rfl rfl rfl rfl ?_
      exact ⟨F96, rfl, rfl, hC97, hM98, trivial⟩
    · have _q := h95
      refine jx_ar (pc_q := 250) (st_q := [.int (i32 (1)), rv (me)]) rfl rfl rfl rfl ?_
      refine jx_go (tg := 254) rfl rfl ?_
      refine cx_pi (pc_q := 257) (c := 2) (q := 5) (qi := (5 : Int)) (z := 1) rfl rfl (by decide) (by decide) rfl rfl rfl (by decide) rfl o_me t_me rfl ?_
      obtain ⟨F99, eF99⟩ : ∃ q, q = uF F (me) (5 : Int) (1) := ⟨_, rfl⟩
      rw [← eF99]
      have hC100 : HC 0 m tg ln F99 := by rw [eF99]; exact HC_fi (c := 2) (q := 5) hC t_me (by decide) rfl (by omega) (by omega) ⟨fun w => absurd w (by decide), fun _ => ⟨fun w => absurd w (by decide), fun w => absurd w (by decide)⟩⟩
      have hM101 : Fq 0 [(3, 5), (3, 6), (3, 7), (3, 8), (3, 9), (3, 10), (3, 11), (3, 13), (3, 16), (3, 17), (3, 19), (21, -5)] m tg F F99 := by rw [eF99]; exact Fq_p hM0 t_me (fun _ => rfl) rfl
      refine jx_go (tg := 306) rfl rfl ?_
      refine jx_rt (v := none) rfl rfl rfl rfl rfl rfl ?_
      exact ⟨F99, rfl, rfl, hC100, hM101, trivial⟩
  by_cases h102 : a0 = 13
  · refine jx_swe (tg := 260) h102 rfl rfl rfl rfl ?_
    refine jx_ld (pc_q := 261) (l_q := L0) (st_q := [rv (me)]) rfl (jl_rvn g1) ?_
    refine jx_ld (pc_q := 262) (l_q := L0) (st_q := [rv (me), rv (me)]) rfl (jl_rvn g1) ?_
    refine cx_gi (pc_q := 265) (c := 2) (q := 9) (v := F (me) (9 : Int)) rfl rfl (by decide) (by decide) (Or.inl rfl) rfl o_me t_me rfl ?_
    have b103 : (-2147483648 : Int) ≤ F (me) (9 : Int) ∧ F (me) (9 : Int) ≤ 2147483647 := by have z := HC_i (c := 2) (q := 9) hC o_me t_me (by decide) rfl; rw [show F (me) ((9 : Nat) : Int) = F (me) (9 : Int) from rfl] at z; exact z
    refine jx_ld (pc_q := 266) (l_q := L0) (st_q := [.int (i32 (a1)), .int (i32 (F (me) (9 : Int))), rv (me)]) rfl (jl_iloadn g3) ?_
    refine jx_add (pc_q := 267) rfl rfl ?_
    obtain ⟨z104, ez104⟩ : ∃ q, q = (i32 ((F (me) (9 : Int) + a1))).toInt := ⟨_, rfl⟩
    have bz104 : (-2147483648 : Int) ≤ z104 ∧ z104 ≤ 2147483647 := ez104 ▸ i32_rg _
    rw [show i32 ((F (me) (9 : Int) + a1)) = i32 z104 by rw [ez104, i32_of]]
    clear ez104
    refine jx_ld (pc_q := 268) (l_q := L0) (st_q := [rv (me), .int (i32 (z104)), rv (me)]) rfl (jl_rvn g1) ?_
    refine cx_gi (pc_q := 271) (c := 2) (q := 5) (v := F (me) (5 : Int)) rfl rfl (by decide) (by decide) (Or.inl rfl) rfl o_me t_me rfl ?_
    have b105 : (-2147483648 : Int) ≤ F (me) (5 : Int) ∧ F (me) (5 : Int) ≤ 2147483647 := by have z := HC_i (c := 2) (q := 5) hC o_me t_me (by decide) rfl; rw [show F (me) ((5 : Nat) : Int) = F (me) (5 : Int) from rfl] at z; exact z
    refine cx_vi (c := 2) (a := me) (st := []) (as := [.int (i32 (z104)), .int (i32 (F (me) (5 : Int)))]) rfl rfl rfl o_me t_me (by decide) rfl ⟨rfl, rfl, (Nat.le_of_ble_eq_true rfl)⟩ rfl (k_LCore_poke (dd := d) (R := R) (m := m) (tg := tg) (ln := ln) (F := F) (me := me) (a0 := z104) (a1 := F (me) (5 : Int)) (hd := by omega) (hC := hC) (o_me := o_me) (t_me := t_me) (h_a0 := by omega) (h_a1 := by omega)) (fun o V_q hq => ?_)
    obtain ⟨F106, rfl, rfl, hC107, hM108, -⟩ := hq
    have hM109 : Fq 0 [(3, 5), (3, 6), (3, 7), (3, 8), (3, 9), (3, 10), (3, 11), (3, 13), (3, 16), (3, 17), (3, 19), (21, -5)] m tg F F106 := Fq_t (ln := ln) (ln1 := ln) hM0 Ex_r hM108 (by decide) (Or.inl rfl)
    refine Or.inl ⟨rfl, ?_⟩
    refine jx_ld (pc_q := 275) (l_q := L0) (st_q := [rv (me)]) rfl (jl_rvn g1) ?_
    refine cx_vi (c := 2) (a := me) (st := []) (as := []) rfl rfl rfl o_me t_me (by decide) rfl ⟨rfl, rfl, (Nat.le_of_ble_eq_true rfl)⟩ rfl (k_LCore_drop (dd := d) (R := R) (m := m) (tg := tg) (ln := ln) (F := F106) (me := me) (hd := by omega) (hC := hC107) (o_me := o_me) (t_me := t_me)) (fun o V_q hq => ?_)
    obtain ⟨F110, rfl, rfl, hC111, hM112, -⟩ := hq
    have hM113 : Fq 0 [(3, 5), (3, 6), (3, 7), (3, 8), (3, 9), (3, 10), (3, 11), (3, 13), (3, 16), (3, 17), (3, 19), (21, -5)] m tg F F110 := Fq_t (ln := ln) (ln1 := ln) hM109 Ex_r hM112 (by decide) (Or.inl rfl)
    refine Or.inl ⟨rfl, ?_⟩
    refine jx_go (tg := 306) rfl rfl ?_
    refine jx_rt (v := none) rfl rfl rfl rfl rfl rfl ?_
    exact ⟨F110, rfl, rfl, hC111, hM113, trivial⟩
  by_cases h114 : a0 = 14
  · refine jx_swe (tg := 281) h114 rfl rfl rfl rfl ?_
    refine jx_ld (pc_q := 282) (l_q := L0) (st_q := [rv (me)]) rfl (jl_rvn g1) ?_
    refine jx_ld (pc_q := 283) (l_q := L0) (st_q := [rv (me), rv (me)]) rfl (jl_rvn g1) ?_
    refine cx_gi (pc_q := 286) (c := 2) (q := 5) (v := F (me) (5 : Int)) rfl rfl (by decide) (by decide) (Or.inl rfl) rfl o_me t_me rfl ?_
    have b115 : (-2147483648 : Int) ≤ F (me) (5 : Int) ∧ F (me) (5 : Int) ≤ 2147483647 := by have z := HC_i (c := 2) (q := 5) hC o_me t_me (by decide) rfl; rw [show F (me) ((5 : Nat) : Int) = F (me) (5 : Int) from rfl] at z; exact z
    refine jx_ld (pc_q := 287) (l_q := L0) (st_q := [.int (i32 (a1)), .int (i32 (F (me) (5 : Int))), rv (me)]) rfl (jl_iloadn g3) ?_
    refine jx_add (pc_q := 288) rfl rfl ?_
    obtain ⟨z116, ez116⟩ : ∃ q, q = (i32 ((F (me) (5 : Int) + a1))).toInt := ⟨_, rfl⟩
    have bz116 : (-2147483648 : Int) ≤ z116 ∧ z116 ≤ 2147483647 := ez116 ▸ i32_rg _
    rw [show i32 ((F (me) (5 : Int) + a1)) = i32 z116 by rw [ez116, i32_of]]
    clear ez116
    refine jx_ld (pc_q := 289) (l_q := L0) (st_q := [rv (me), .int (i32 (z116)), rv (me)]) rfl (jl_rvn g1) ?_
    refine cx_gi (pc_q := 292) (c := 2) (q := 6) (v := F (me) (6 : Int)) rfl rfl (by decide) (by decide) (Or.inl rfl) rfl o_me t_me rfl ?_
    have b117 : (-2147483648 : Int) ≤ F (me) (6 : Int) ∧ F (me) (6 : Int) ≤ 2147483647 := by have z := HC_i (c := 2) (q := 6) hC o_me t_me (by decide) rfl; rw [show F (me) ((6 : Nat) : Int) = F (me) (6 : Int) from rfl] at z; exact z
    refine cx_vi (c := 2) (a := me) (st := []) (as := [.int (i32 (z116)), .int (i32 (F (me) (6 : Int)))]) rfl rfl rfl o_me t_me (by decide) rfl ⟨rfl, rfl, (Nat.le_of_ble_eq_true rfl)⟩ rfl (k_LCore_poke (dd := d) (R := R) (m := m) (tg := tg) (ln := ln) (F := F) (me := me) (a0 := z116) (a1 := F (me) (6 : Int)) (hd := by omega) (hC := hC) (o_me := o_me) (t_me := t_me) (h_a0 := by omega) (h_a1 := by omega)) (fun o V_q hq => ?_)
    obtain ⟨F118, rfl, rfl, hC119, hM120, -⟩ := hq
    have hM121 : Fq 0 [(3, 5), (3, 6), (3, 7), (3, 8), (3, 9), (3, 10), (3, 11), (3, 13), (3, 16), (3, 17), (3, 19), (21, -5)] m tg F F118 := Fq_t (ln := ln) (ln1 := ln) hM0 Ex_r hM120 (by decide) (Or.inl rfl)
    refine Or.inl ⟨rfl, ?_⟩
    refine jx_ld (pc_q := 296) (l_q := L0) (st_q := [rv (me)]) rfl (jl_rvn g1) ?_
    refine cx_vi (c := 2) (a := me) (st := []) (as := []) rfl rfl rfl o_me t_me (by decide) rfl ⟨rfl, rfl, (Nat.le_of_ble_eq_true rfl)⟩ rfl (k_LCore_dropTwo (dd := d) (R := R) (m := m) (tg := tg) (ln := ln) (F := F118) (me := me) (hd := by omega) (hC := hC119) (o_me := o_me) (t_me := t_me)) (fun o V_q hq => ?_)
    obtain ⟨F122, rfl, rfl, hC123, hM124, -⟩ := hq
    have hM125 : Fq 0 [(3, 5), (3, 6), (3, 7), (3, 8), (3, 9), (3, 10), (3, 11), (3, 13), (3, 16), (3, 17), (3, 19), (21, -5)] m tg F F122 := Fq_t (ln := ln) (ln1 := ln) hM121 Ex_r hM124 (by decide) (Or.inl rfl)
    refine Or.inl ⟨rfl, ?_⟩
    refine jx_go (tg := 306) rfl rfl ?_
    refine jx_rt (v := none) rfl rfl rfl rfl rfl rfl ?_
    exact ⟨F122, rfl, rfl, hC123, hM125, trivial⟩
  refine jx_swt (tg := 302) (by omega) (by omega) rfl (by omega) rfl ?_
  refine jx_ld (pc_q := 303) (l_q := L0) (st_q := [rv (me)]) rfl (jl_rvn g1) ?_
  refine cx_vi (c := 2) (a := me) (st := []) (as := []) rfl rfl rfl o_me t_me (by decide) rfl ⟨rfl, rfl, (Nat.le_of_ble_eq_true rfl)⟩ rfl (k_LCore_fail (dd := d) (R := R) (m := m) (tg := tg) (ln := ln) (F := F) (me := me) (hd := by omega) (hC := hC) (o_me := o_me) (t_me := t_me)) (fun o V_q hq => ?_)
  obtain ⟨F126, rfl, rfl, hC127, hM128, -⟩ := hq
  have hM129 : Fq 0 [(3, 5), (3, 6), (3, 7), (3, 8), (3, 9), (3, 10), (3, 11), (3, 13), (3, 16), (3, 17), (3, 19), (21, -5)] m tg F F126 := Fq_t (ln := ln) (ln1 := ln) hM0 Ex_r hM128 (by decide) (Or.inl rfl)
  refine Or.inl ⟨rfl, ?_⟩
  refine jx_rt (v := none) rfl rfl rfl rfl rfl rfl ?_
  exact ⟨F126, rfl, rfl, hC127, hM129, trivial⟩
set_option maxRecDepth 20000 in
set_option maxHeartbeats 4000000 in
theorem k_LCore_check {X : jX} {dd : Nat} {R : Nat → jC} {m : Nat} {tg ln : Int → Int} {F : Int → Int → Int} {me : Int} (hd : 4 ≤ dd) (hC : HC 0 m tg ln F) (o_me : own m me) (t_me : tg me = 3) : wk X dd 111 [rv me] (cV R m tg ln F) (fun o V_q => ∃ (F_q : Int → Int → Int), V_q = cV R m tg ln F_q ∧ o = .inl none ∧ HC 0 m tg ln F_q ∧ Fq 0 [(3, 5), (3, 6), (3, 7), (3, 8), (3, 9), (3, 10), (3, 11), (3, 13), (3, 19)] m tg F F_q ∧ True) := by
  obtain ⟨d, rfl⟩ : ∃ d, dd = d + 1 := ⟨dd - 1, by omega⟩
  refine wk_of (e := jm111) rfl (by rw [jS_r, jS_0]; exact Nat.le_of_ble_eq_true rfl) ?_
  rw [la_r, la_0]
  show wj X d jm111 (0, [(0, rv (me))], [], cV R m tg ln F) _
  have hM0 : Fq 0 [(3, 5), (3, 6), (3, 7), (3, 8), (3, 9), (3, 10), (3, 11), (3, 13), (3, 19)] m tg F F := Fq_r
  obtain ⟨L0, eL0⟩ : ∃ q : jL, q = [(0, rv (me))] := ⟨_, rfl⟩
  rw [← eL0]
  have g1 : jGet L0 0 = some (rv (me)) := eL0 ▸ (rfl : jGet [(0, rv (me))] 0 = some (rv (me)))
  clear eL0
  refine jx_ld (pc_q := 1) (l_q := L0) (st_q := [rv (me)]) rfl (jl_rvn g1) ?_
  refine cx_gi (pc_q := 4) (c := 2) (q := 5) (v := F (me) (5 : Int)) rfl rfl (by decide) (by decide) (Or.inl rfl) rfl o_me t_me rfl ?_
  have b2 : (-2147483648 : Int) ≤ F (me) (5 : Int) ∧ F (me) (5 : Int) ≤ 2147483647 := by have z := HC_i (c := 2) (q := 5) hC o_me t_me (by decide) rfl; rw [show F (me) ((5 : Nat) : Int) = F (me) (5 : Int) from rfl] at z; exact z
  refine jx_ld (pc_q := 5) (l_q := jSto1 L0 1 (.int (i32 (F (me) (5 : Int))))) (st_q := []) rfl rfl ?_
  obtain ⟨L3, eL3⟩ : ∃ q : jL, q = jSto1 L0 1 (.int (i32 (F (me) (5 : Int)))) := ⟨_, rfl⟩
  rw [← eL3]
  have g4 : jGet L3 0 = some (rv (me)) := eL3 ▸ jg_nr (by decide) g1
  have g5 : jGet L3 1 = some (.int (i32 (F (me) (5 : Int)))) := eL3 ▸ jg_eq
  clear eL3
  refine jx_ld (pc_q := 6) (l_q := L3) (st_q := [rv (me)]) rfl (jl_rvn g4) ?_
  refine cx_vi (c := 2) (a := me) (st := []) (as := []) rfl rfl rfl o_me t_me (by decide) rfl ⟨rfl, rfl, (Nat.le_of_ble_eq_true rfl)⟩ rfl (k_LCore_drop (dd := d) (R := R) (m := m) (tg := tg) (ln := ln) (F := F) (me := me) (hd := by omega) (hC := hC) (o_me := o_me) (t_me := t_me)) (fun o V_q hq => ?_)
  obtain ⟨F6, rfl, rfl, hC7, hM8, -⟩ := hq
  have hM9 : Fq 0 [(3, 5), (3, 6), (3, 7), (3, 8), (3, 9), (3, 10), (3, 11), (3, 13), (3, 19)] m tg F F6 := Fq_t (ln := ln) (ln1 := ln) hM0 Ex_r hM8 (by decide) (Or.inl rfl)
  refine Or.inl ⟨rfl, ?_⟩
  refine jx_ld (pc_q := 10) (l_q := L3) (st_q := [rv (me)]) rfl (jl_rvn g4) ?_
  refine cx_gi (pc_q := 13) (c := 2) (q := 5) (v := F6 (me) (5 : Int)) rfl rfl (by decide) (by decide) (Or.inl rfl) rfl o_me t_me rfl ?_
  have b10 : (-2147483648 : Int) ≤ F6 (me) (5 : Int) ∧ F6 (me) (5 : Int) ≤ 2147483647 := by have z := HC_i (c := 2) (q := 5) hC7 o_me t_me (by decide) rfl; rw [show F6 (me) ((5 : Nat) : Int) = F6 (me) (5 : Int) from rfl] at z; exact z
  refine jx_if_lt (pc_q := 16) (tg := 24) rfl rfl rfl (by omega) (by omega) (fun h11 => ?_) (fun h11 => ?_)
  · have _q := h11
    refine jx_ld (pc_q := 25) (l_q := L3) (st_q := [rv (me)]) rfl (jl_rvn g4) ?_
    refine cx_vi (c := 2) (a := me) (st := []) (as := []) rfl rfl rfl o_me t_me (by decide) rfl ⟨rfl, rfl, (Nat.le_of_ble_eq_true rfl)⟩ rfl (k_LCore_fail (dd := d) (R := R) (m := m) (tg := tg) (ln := ln) (F := F6) (me := me) (hd := by omega) (hC := hC7) (o_me := o_me) (t_me := t_me)) (fun o V_q hq => ?_)
    obtain ⟨F12, rfl, rfl, hC13, hM14, -⟩ := hq
    have hM15 : Fq 0 [(3, 5), (3, 6), (3, 7), (3, 8), (3, 9), (3, 10), (3, 11), (3, 13), (3, 19)] m tg F F12 := Fq_t (ln := ln) (ln1 := ln) hM9 Ex_r hM14 (by decide) (Or.inl rfl)
    refine Or.inl ⟨rfl, ?_⟩
    refine jx_rt (v := none) rfl rfl rfl rfl rfl rfl ?_
    exact ⟨F12, rfl, rfl, hC13, hM15, trivial⟩
  · have _q := h11
    refine jx_ld (pc_q := 17) (l_q := L3) (st_q := [rv (me)]) rfl (jl_rvn g4) ?_
    refine cx_gi (pc_q := 20) (c := 2) (q := 5) (v := F6 (me) (5 : Int)) rfl rfl (by decide) (by decide) (Or.inl rfl) rfl o_me t_me rfl ?_
    refine jx_ld (pc_q := 21) (l_q := L3) (st_q := [.int (i32 (F (me) (5 : Int))), .int (i32 (F6 (me) (5 : Int)))]) rfl (jl_iloadn g5) ?_
    refine jx_icmp_lt (pc_q := 24) (tg := 28) rfl rfl rfl (by omega) (by omega) (by omega) (by omega) (fun h16 => ?_) (fun h16 => ?_)
    · have _q := h16
      refine jx_rt (v := none) rfl rfl rfl rfl rfl rfl ?_
      exact ⟨F6, rfl, rfl, hC7, hM9, trivial⟩
    · have _q := h16
      refine jx_ld (pc_q := 25) (l_q := L3) (st_q := [rv (me)]) rfl (jl_rvn g4) ?_
      refine cx_vi (c := 2) (a := me) (st := []) (as := []) rfl rfl rfl o_me t_me (by decide) rfl ⟨rfl, rfl, (Nat.le_of_ble_eq_true rfl)⟩ rfl (k_LCore_fail (dd := d) (R := R) (m := m) (tg := tg) (ln := ln) (F := F6) (me := me) (hd := by omega) (hC := hC7) (o_me := o_me) (t_me := t_me)) (fun o V_q hq => ?_)
      obtain ⟨F17, rfl, rfl, hC18, hM19, -⟩ := hq
      have hM20 : Fq 0 [(3, 5), (3, 6), (3, 7), (3, 8), (3, 9), (3, 10), (3, 11), (3, 13), (3, 19)] m tg F F17 := Fq_t (ln := ln) (ln1 := ln) hM9 Ex_r hM19 (by decide) (Or.inl rfl)
      refine Or.inl ⟨rfl, ?_⟩
      refine jx_rt (v := none) rfl rfl rfl rfl rfl rfl ?_
      exact ⟨F17, rfl, rfl, hC18, hM20, trivial⟩
set_option maxRecDepth 20000 in
set_option maxHeartbeats 4000000 in
theorem k_LCore_fill_at_15 {X : jX} {d : Nat} {R : Nat → jC} {m : Nat} {tg ln : Int → Int} {F : Int → Int → Int} {me : Int} (hd : 2 ≤ d + 1) (hC : HC 0 m tg ln F) (o_me : own m me) (t_me : tg me = 3) : ∀ (mm : Nat) (L : jL) (Fx : Int → Int → Int) (n k : Int), (n - k).toNat = mm → jGet L 0 = some (rv (me)) → jGet L 1 = some (.int (i32 n)) → jGet L 2 = some (.int (i32 k)) → HC 0 m tg ln Fx → Fq 0 [(3, 5), (3, 6), (3, 7), (21, -5)] m tg F Fx → ((-2147483648 : Int) ≤ n ∧ n ≤ 2147483647) → ((-2147483648 : Int) ≤ k ∧ k ≤ 2147483647) → (0 ≤ k) → wj X d jm112 (15, L, [], cV R m tg ln Fx) (fun o V_q => ∃ (F_q : Int → Int → Int), V_q = cV R m tg ln F_q ∧ o = .inl none ∧ HC 0 m tg ln F_q ∧ Fq 0 [(3, 5), (3, 6), (3, 7), (21, -5)] m tg F F_q ∧ True) := by
  intro mm
  induction mm using Nat.strongRecOn with
  | ind mm ih =>
    intro L Fx n k hmm gL_0 gL_1 gL_2 hCx hMx rx_n rx_k iv_0
    refine jx_ld (pc_q := 16) (l_q := L) (st_q := [.int (i32 (k))]) rfl (jl_iloadn gL_2) ?_
    refine jx_ld (pc_q := 17) (l_q := L) (st_q := [.int (i32 (n)), .int (i32 (k))]) rfl (jl_iloadn gL_1) ?_
    refine jx_icmp_ge (pc_q := 20) (tg := 40) rfl rfl rfl (by omega) (by omega) (by omega) (by omega) (fun h1 => ?_) (fun h1 => ?_)
    · have _q := h1
      refine jx_ld (pc_q := 41) (l_q := L) (st_q := [rv (me)]) rfl (jl_rvn gL_0) ?_
      refine jx_ar (pc_q := 42) (st_q := [.int (i32 (0)), rv (me)]) rfl rfl rfl rfl ?_
      refine cx_pi (pc_q := 45) (c := 2) (q := 5) (qi := (5 : Int)) (z := 0) rfl rfl (by decide) (by decide) rfl rfl rfl (by decide) rfl o_me t_me rfl ?_
      obtain ⟨F2, eF2⟩ : ∃ q, q = uF Fx (me) (5 : Int) (0) := ⟨_, rfl⟩
      rw [← eF2]
      have hC3 : HC 0 m tg ln F2 := by rw [eF2]; exact HC_fi (c := 2) (q := 5) hCx t_me (by decide) rfl (by omega) (by omega) ⟨fun w => absurd w (by decide), fun _ => ⟨fun w => absurd w (by decide), fun w => absurd w (by decide)⟩⟩
      have hM4 : Fq 0 [(3, 5), (3, 6), (3, 7), (21, -5)] m tg F F2 := by rw [eF2]; exact Fq_p hMx t_me (fun _ => rfl) rfl
      refine jx_ld (pc_q := 46) (l_q := L) (st_q := [rv (me)]) rfl (jl_rvn gL_0) ?_
      refine jx_ar (pc_q := 47) (st_q := [.int (i32 (0)), rv (me)]) rfl rfl rfl rfl ?_
      refine cx_pi (pc_q := 50) (c := 2) (q := 6) (qi := (6 : Int)) (z := 0) rfl rfl (by decide) (by decide) rfl rfl rfl (by decide) rfl o_me t_me rfl ?_
      obtain ⟨F5, eF5⟩ : ∃ q, q = uF F2 (me) (6 : Int) (0) := ⟨_, rfl⟩
      rw [← eF5]
      have hC6 : HC 0 m tg ln F5 := by rw [eF5]; exact HC_fi (c := 2) (q := 6) hC3 t_me (by decide) rfl (by omega) (by omega) ⟨fun w => absurd w (by decide), fun _ => ⟨fun w => absurd w (by decide), fun w => absurd w (by decide)⟩⟩
      have hM7 : Fq 0 [(3, 5), (3, 6), (3, 7), (21, -5)] m tg F F5 := by rw [eF5]; exact Fq_p hM4 t_me (fun _ => rfl) rfl
      refine jx_ld (pc_q := 51) (l_q := L) (st_q := [rv (me)]) rfl (jl_rvn gL_0) ?_
      refine jx_ar (pc_q := 52) (st_q := [.int (i32 (0)), rv (me)]) rfl rfl rfl rfl ?_
      refine cx_pi (pc_q := 55) (c := 2) (q := 7) (qi := (7 : Int)) (z := 0) rfl rfl (by decide) (by decide) rfl rfl rfl (by decide) rfl o_me t_me rfl ?_
      obtain ⟨F8, eF8⟩ : ∃ q, q = uF F5 (me) (7 : Int) (0) := ⟨_, rfl⟩
      rw [← eF8]
      have hC9 : HC 0 m tg ln F8 := by rw [eF8]; exact HC_fi (c := 2) (q := 7) hC6 t_me (by decide) rfl (by omega) (by omega) ⟨fun w => absurd w (by decide), fun _ => ⟨fun w => absurd w (by decide), fun w => absurd w (by decide)⟩⟩
      have hM10 : Fq 0 [(3, 5), (3, 6), (3, 7), (21, -5)] m tg F F8 := by rw [eF8]; exact Fq_p hM7 t_me (fun _ => rfl) rfl
      refine jx_rt (v := none) rfl rfl rfl rfl rfl rfl ?_
      exact ⟨F8, rfl, rfl, hC9, hM10, trivial⟩
    · have _q := h1
      refine jx_ld (pc_q := 21) (l_q := L) (st_q := [rv (me)]) rfl (jl_rvn gL_0) ?_
      refine jx_ld (pc_q := 22) (l_q := L) (st_q := [rv (me), rv (me)]) rfl (jl_rvn gL_0) ?_
      refine cx_gi (pc_q := 25) (c := 2) (q := 5) (v := Fx (me) (5 : Int)) rfl rfl (by decide) (by decide) (Or.inl rfl) rfl o_me t_me rfl ?_
      have b11 : (-2147483648 : Int) ≤ Fx (me) (5 : Int) ∧ Fx (me) (5 : Int) ≤ 2147483647 := by have z := HC_i (c := 2) (q := 5) hCx o_me t_me (by decide) rfl; rw [show Fx (me) ((5 : Nat) : Int) = Fx (me) (5 : Int) from rfl] at z; exact z
      refine jx_ld (pc_q := 26) (l_q := L) (st_q := [.int (i32 (k)), .int (i32 (Fx (me) (5 : Int))), rv (me)]) rfl (jl_iloadn gL_2) ?_
      refine jx_add (pc_q := 27) rfl rfl ?_
      obtain ⟨z12, ez12⟩ : ∃ q, q = (i32 ((Fx (me) (5 : Int) + k))).toInt := ⟨_, rfl⟩
      have bz12 : (-2147483648 : Int) ≤ z12 ∧ z12 ≤ 2147483647 := ez12 ▸ i32_rg _
      rw [show i32 ((Fx (me) (5 : Int) + k)) = i32 z12 by rw [ez12, i32_of]]
      clear ez12
      refine jx_ld (pc_q := 28) (l_q := L) (st_q := [rv (me), .int (i32 (z12)), rv (me)]) rfl (jl_rvn gL_0) ?_
      refine cx_gi (pc_q := 31) (c := 2) (q := 7) (v := Fx (me) (7 : Int)) rfl rfl (by decide) (by decide) (Or.inl rfl) rfl o_me t_me rfl ?_
      have b13 : (-2147483648 : Int) ≤ Fx (me) (7 : Int) ∧ Fx (me) (7 : Int) ≤ 2147483647 := by have z := HC_i (c := 2) (q := 7) hCx o_me t_me (by decide) rfl; rw [show Fx (me) ((7 : Nat) : Int) = Fx (me) (7 : Int) from rfl] at z; exact z
      refine cx_vi (c := 2) (a := me) (st := []) (as := [.int (i32 (z12)), .int (i32 (Fx (me) (7 : Int)))]) rfl rfl rfl o_me t_me (by decide) rfl ⟨rfl, rfl, (Nat.le_of_ble_eq_true rfl)⟩ rfl (k_LCore_poke (dd := d) (R := R) (m := m) (tg := tg) (ln := ln) (F := Fx) (me := me) (a0 := z12) (a1 := Fx (me) (7 : Int)) (hd := by omega) (hC := hCx) (o_me := o_me) (t_me := t_me) (h_a0 := by omega) (h_a1 := by omega)) (fun o V_q hq => ?_)
      obtain ⟨F14, rfl, rfl, hC15, hM16, -⟩ := hq
      have hM17 : Fq 0 [(3, 5), (3, 6), (3, 7), (21, -5)] m tg F F14 := Fq_t (ln := ln) (ln1 := ln) hMx Ex_r hM16 (by decide) (Or.inl rfl)
      refine Or.inl ⟨rfl, ?_⟩
      refine jx_inc (pc_q := 37) (l_q := jSto1 L 2 (.int (i32 (k + (1))))) (x := k) rfl gL_2 (by decide) rfl rfl ?_
      obtain ⟨L18, eL18⟩ : ∃ q : jL, q = jSto1 L 2 (.int (i32 ((k + (1))))) := ⟨_, rfl⟩
      rw [← eL18]
      have g19 : jGet L18 0 = some (rv (me)) := eL18 ▸ jg_nr (by decide) gL_0
      have g20 : jGet L18 1 = some (.int (i32 (n))) := eL18 ▸ jg_ne (by decide) gL_1 rfl
      have g21 : jGet L18 2 = some (.int (i32 ((k + (1))))) := eL18 ▸ jg_eq
      clear eL18
      refine jx_go (tg := 15) rfl rfl ?_
      exact ih _ (by omega) L18 F14 (n) ((k + (1))) rfl g19 g20 g21 hC15 hM17 (by omega) (by omega) (by omega)
set_option maxRecDepth 20000 in
set_option maxHeartbeats 4000000 in
theorem k_LCore_fill {X : jX} {dd : Nat} {R : Nat → jC} {m : Nat} {tg ln : Int → Int} {F : Int → Int → Int} {me : Int} (hd : 2 ≤ dd) (hC : HC 0 m tg ln F) (o_me : own m me) (t_me : tg me = 3) : wk X dd 112 [rv me] (cV R m tg ln F) (fun o V_q => ∃ (F_q : Int → Int → Int), V_q = cV R m tg ln F_q ∧ o = .inl none ∧ HC 0 m tg ln F_q ∧ Fq 0 [(3, 5), (3, 6), (3, 7), (21, -5)] m tg F F_q ∧ True) := by
  obtain ⟨d, rfl⟩ : ∃ d, dd = d + 1 := ⟨dd - 1, by omega⟩
  refine wk_of (e := jm112) rfl (by rw [jS_r, jS_0]; exact Nat.le_of_ble_eq_true rfl) ?_
  rw [la_r, la_0]
  show wj X d jm112 (0, [(0, rv (me))], [], cV R m tg ln F) _
  have hM0 : Fq 0 [(3, 5), (3, 6), (3, 7), (21, -5)] m tg F F := Fq_r
  obtain ⟨L0, eL0⟩ : ∃ q : jL, q = [(0, rv (me))] := ⟨_, rfl⟩
  rw [← eL0]
  have g22 : jGet L0 0 = some (rv (me)) := eL0 ▸ (rfl : jGet [(0, rv (me))] 0 = some (rv (me)))
  clear eL0
  refine jx_ld (pc_q := 1) (l_q := L0) (st_q := [rv (me)]) rfl (jl_rvn g22) ?_
  refine cx_gi (pc_q := 4) (c := 2) (q := 6) (v := F (me) (6 : Int)) rfl rfl (by decide) (by decide) (Or.inl rfl) rfl o_me t_me rfl ?_
  have b23 : (-2147483648 : Int) ≤ F (me) (6 : Int) ∧ F (me) (6 : Int) ≤ 2147483647 := by have z := HC_i (c := 2) (q := 6) hC o_me t_me (by decide) rfl; rw [show F (me) ((6 : Nat) : Int) = F (me) (6 : Int) from rfl] at z; exact z
  refine jx_ld (pc_q := 5) (l_q := L0) (st_q := [rv (me), .int (i32 (F (me) (6 : Int)))]) rfl (jl_rvn g22) ?_
  refine cx_gr (pc_q := 8) (c := 2) (q := 4) (v := F (me) (4 : Int)) rfl rfl (by decide) (by decide) rfl rfl o_me t_me rfl ?_
  have y24 : own m (F (me) (4 : Int)) ∧ tg (F (me) (4 : Int)) = 21 ∧ ((0 : Int) ≠ 0 → ln (F (me) (4 : Int)) = 0) := by have z := HC_n (c := 2) (q := 4) hC o_me t_me (own_z o_me) (by decide) rfl; rw [show F (me) ((4 : Nat) : Int) = F (me) (4 : Int) from rfl] at z; exact ⟨z.1, z.2.1, z.2.2.1⟩
  have b25 := HC_l hC y24.1 y24.2.1 (by decide)
  refine cx_len (pc_q := 9) rfl rfl y24.1 (by rw [y24.2.1]; decide) (by omega) ?_
  refine cx_st (st := []) (as := [.int (i32 (F (me) (6 : Int))), .int (i32 (ln (F (me) (4 : Int))))]) rfl rfl rfl ⟨rfl, (Nat.le_of_ble_eq_true rfl)⟩ rfl (k_java_lang_Math_min (dd := d) (R := R) (u := 0) (m := m) (tg := tg) (ln := ln) (F := F) (a := F (me) (6 : Int)) (b := ln (F (me) (4 : Int))) (hd := by omega) (hC := hC) (h_a := by omega) (h_b := by omega)) (fun o V_q hq => ?_)
  obtain ⟨r26, rfl, rfl, b27, p28, p29, p30, -⟩ := hq
  refine Or.inr (Or.inl ⟨_, rfl, ?_⟩)
  refine jx_ld (pc_q := 13) (l_q := jSto1 L0 1 (.int (i32 (r26)))) (st_q := []) rfl rfl ?_
  obtain ⟨L31, eL31⟩ : ∃ q : jL, q = jSto1 L0 1 (.int (i32 (r26))) := ⟨_, rfl⟩
  rw [← eL31]
  have g32 : jGet L31 0 = some (rv (me)) := eL31 ▸ jg_nr (by decide) g22
  have g33 : jGet L31 1 = some (.int (i32 (r26))) := eL31 ▸ jg_eq
  clear eL31
  refine jx_ar (pc_q := 14) (st_q := [.int (i32 (0))]) rfl rfl rfl rfl ?_
  refine jx_ld (pc_q := 15) (l_q := jSto1 L31 2 (.int (i32 (0)))) (st_q := []) rfl rfl ?_
  obtain ⟨L34, eL34⟩ : ∃ q : jL, q = jSto1 L31 2 (.int (i32 (0))) := ⟨_, rfl⟩
  rw [← eL34]
  have g35 : jGet L34 0 = some (rv (me)) := eL34 ▸ jg_nr (by decide) g32
  have g36 : jGet L34 1 = some (.int (i32 (r26))) := eL34 ▸ jg_ne (by decide) g33 rfl
  have g37 : jGet L34 2 = some (.int (i32 (0))) := eL34 ▸ jg_eq
  clear eL34
  exact k_LCore_fill_at_15 (X := X) (d := d) (R := R) (m := m) (tg := tg) (ln := ln) (F := F) (me := me) (hd := hd) (hC := hC) (o_me := o_me) (t_me := t_me) _ L34 F (r26) (0) rfl g35 g36 g37 hC hM0 (by omega) (by omega) (by omega)
set_option maxRecDepth 20000 in
set_option maxHeartbeats 4000000 in
theorem k_LCore_startProcess {X : jX} {dd : Nat} {R : Nat → jC} {m : Nat} {tg ln : Int → Int} {F : Int → Int → Int} {me a0 : Int} (hd : 3 ≤ dd) (hC : HC 0 m tg ln F) (o_me : own m me) (t_me : tg me = 3) (h_a0 : (-2147483648 : Int) ≤ a0 ∧ a0 ≤ 2147483647) : wk X dd 113 [rv me, .int (i32 a0)] (cV R m tg ln F) (fun o V_q => ∃ (F_q : Int → Int → Int), V_q = cV R m tg ln F_q ∧ o = .inl none ∧ HC 0 m tg ln F_q ∧ Fq 0 [(3, 5), (3, 6), (3, 16), (3, 17), (21, -5)] m tg F F_q ∧ True) := by
  obtain ⟨d, rfl⟩ : ∃ d, dd = d + 1 := ⟨dd - 1, by omega⟩
  refine wk_of (e := jm113) rfl (by rw [jS_r, jS_i, jS_0]; exact Nat.le_of_ble_eq_true rfl) ?_
  rw [la_r, la_i, la_0]
  show wj X d jm113 (0, [(0, rv (me)), (1, .int (i32 (a0)))], [], cV R m tg ln F) _
  have hM0 : Fq 0 [(3, 5), (3, 6), (3, 16), (3, 17), (21, -5)] m tg F F := Fq_r
  obtain ⟨L0, eL0⟩ : ∃ q : jL, q = [(0, rv (me)), (1, .int (i32 (a0)))] := ⟨_, rfl⟩
  rw [← eL0]
  have g1 : jGet L0 0 = some (rv (me)) := eL0 ▸ (rfl : jGet [(0, rv (me)), (1, .int (i32 (a0)))] 0 = some (rv (me)))
  have g2 : jGet L0 1 = some (.int (i32 (a0))) := eL0 ▸ (rfl : jGet [(0, rv (me)), (1, .int (i32 (a0)))] 1 = some (.int (i32 (a0))))
  clear eL0
  refine jx_ld (pc_q := 1) (l_q := L0) (st_q := [rv (me)]) rfl (jl_rvn g1) ?_
  refine cx_gi (pc_q := 4) (c := 2) (q := 5) (v := F (me) (5 : Int)) rfl rfl (by decide) (by decide) (Or.inl rfl) rfl o_me t_me rfl ?_
  have b3 : (-2147483648 : Int) ≤ F (me) (5 : Int) ∧ F (me) (5 : Int) ≤ 2147483647 := by have z := HC_i (c := 2) (q := 5) hC o_me t_me (by decide) rfl; rw [show F (me) ((5 : Nat) : Int) = F (me) (5 : Int) from rfl] at z; exact z
  refine jx_ld (pc_q := 5) (l_q := jSto1 L0 2 (.int (i32 (F (me) (5 : Int))))) (st_q := []) rfl rfl ?_
  obtain ⟨L4, eL4⟩ : ∃ q : jL, q = jSto1 L0 2 (.int (i32 (F (me) (5 : Int)))) := ⟨_, rfl⟩
  rw [← eL4]
  have g5 : jGet L4 0 = some (rv (me)) := eL4 ▸ jg_nr (by decide) g1
  have g6 : jGet L4 1 = some (.int (i32 (a0))) := eL4 ▸ jg_ne (by decide) g2 rfl
  have g7 : jGet L4 2 = some (.int (i32 (F (me) (5 : Int)))) := eL4 ▸ jg_eq
  clear eL4
  refine jx_ld (pc_q := 6) (l_q := L4) (st_q := [rv (me)]) rfl (jl_rvn g5) ?_
  refine jx_ld (pc_q := 7) (l_q := L4) (st_q := [.int (i32 (F (me) (5 : Int))), rv (me)]) rfl (jl_iloadn g7) ?_
  refine jx_ar (pc_q := 8) (st_q := [.int (i32 (1)), .int (i32 (F (me) (5 : Int))), rv (me)]) rfl rfl rfl rfl ?_
  refine jx_sub (pc_q := 9) rfl rfl ?_
  obtain ⟨z8, ez8⟩ : ∃ q, q = (i32 ((F (me) (5 : Int) - 1))).toInt := ⟨_, rfl⟩
  have bz8 : (-2147483648 : Int) ≤ z8 ∧ z8 ≤ 2147483647 := ez8 ▸ i32_rg _
  rw [show i32 ((F (me) (5 : Int) - 1)) = i32 z8 by rw [ez8, i32_of]]
  clear ez8
  refine jx_ld (pc_q := 10) (l_q := L4) (st_q := [rv (me), .int (i32 (z8)), rv (me)]) rfl (jl_rvn g5) ?_
  refine cx_gi (pc_q := 13) (c := 2) (q := 6) (v := F (me) (6 : Int)) rfl rfl (by decide) (by decide) (Or.inl rfl) rfl o_me t_me rfl ?_
  have b9 : (-2147483648 : Int) ≤ F (me) (6 : Int) ∧ F (me) (6 : Int) ≤ 2147483647 := by have z := HC_i (c := 2) (q := 6) hC o_me t_me (by decide) rfl; rw [show F (me) ((6 : Nat) : Int) = F (me) (6 : Int) from rfl] at z; exact z
  refine cx_vi (c := 2) (a := me) (st := []) (as := [.int (i32 (z8)), .int (i32 (F (me) (6 : Int)))]) rfl rfl rfl o_me t_me (by decide) rfl ⟨rfl, rfl, (Nat.le_of_ble_eq_true rfl)⟩ rfl (k_LCore_poke (dd := d) (R := R) (m := m) (tg := tg) (ln := ln) (F := F) (me := me) (a0 := z8) (a1 := F (me) (6 : Int)) (hd := by omega) (hC := hC) (o_me := o_me) (t_me := t_me) (h_a0 := by omega) (h_a1 := by omega)) (fun o V_q hq => ?_)
  obtain ⟨F10, rfl, rfl, hC11, hM12, -⟩ := hq
  have hM13 : Fq 0 [(3, 5), (3, 6), (3, 16), (3, 17), (21, -5)] m tg F F10 := Fq_t (ln := ln) (ln1 := ln) hM0 Ex_r hM12 (by decide) (Or.inl rfl)
  refine Or.inl ⟨rfl, ?_⟩
  refine jx_ld (pc_q := 17) (l_q := L4) (st_q := [rv (me)]) rfl (jl_rvn g5) ?_
  refine jx_ld (pc_q := 18) (l_q := L4) (st_q := [.int (i32 (F (me) (5 : Int))), rv (me)]) rfl (jl_iloadn g7) ?_
  refine jx_ar (pc_q := 19) (st_q := [.int (i32 (3)), .int (i32 (F (me) (5 : Int))), rv (me)]) rfl rfl rfl rfl ?_
  refine jx_sub (pc_q := 20) rfl rfl ?_
  obtain ⟨z14, ez14⟩ : ∃ q, q = (i32 ((F (me) (5 : Int) - 3))).toInt := ⟨_, rfl⟩
  have bz14 : (-2147483648 : Int) ≤ z14 ∧ z14 ≤ 2147483647 := ez14 ▸ i32_rg _
  rw [show i32 ((F (me) (5 : Int) - 3)) = i32 z14 by rw [ez14, i32_of]]
  clear ez14
  refine jx_ar (pc_q := 21) (st_q := [.int (i32 (0)), .int (i32 (z14)), rv (me)]) rfl rfl rfl rfl ?_
  refine cx_vi (c := 2) (a := me) (st := []) (as := [.int (i32 (z14)), .int (i32 (0))]) rfl rfl rfl o_me t_me (by decide) rfl ⟨rfl, rfl, (Nat.le_of_ble_eq_true rfl)⟩ rfl (k_LCore_poke (dd := d) (R := R) (m := m) (tg := tg) (ln := ln) (F := F10) (me := me) (a0 := z14) (a1 := 0) (hd := by omega) (hC := hC11) (o_me := o_me) (t_me := t_me) (h_a0 := by omega) (h_a1 := by omega)) (fun o V_q hq => ?_)
  obtain ⟨F15, rfl, rfl, hC16, hM17, -⟩ := hq
  have hM18 : Fq 0 [(3, 5), (3, 6), (3, 16), (3, 17), (21, -5)] m tg F F15 := Fq_t (ln := ln) (ln1 := ln) hM13 Ex_r hM17 (by decide) (Or.inl rfl)
  refine Or.inl ⟨rfl, ?_⟩
  refine jx_ld (pc_q := 25) (l_q := L4) (st_q := [rv (me)]) rfl (jl_rvn g5) ?_
  refine cx_vi (c := 2) (a := me) (st := []) (as := []) rfl rfl rfl o_me t_me (by decide) rfl ⟨rfl, rfl, (Nat.le_of_ble_eq_true rfl)⟩ rfl (k_LCore_dropTwo (dd := d) (R := R) (m := m) (tg := tg) (ln := ln) (F := F15) (me := me) (hd := by omega) (hC := hC16) (o_me := o_me) (t_me := t_me)) (fun o V_q hq => ?_)
  obtain ⟨F19, rfl, rfl, hC20, hM21, -⟩ := hq
  have hM22 : Fq 0 [(3, 5), (3, 6), (3, 16), (3, 17), (21, -5)] m tg F F19 := Fq_t (ln := ln) (ln1 := ln) hM18 Ex_r hM21 (by decide) (Or.inl rfl)
  refine Or.inl ⟨rfl, ?_⟩
  refine jx_ld (pc_q := 29) (l_q := L4) (st_q := [rv (me)]) rfl (jl_rvn g5) ?_
  refine jx_ar (pc_q := 30) (st_q := [.int (i32 (2)), rv (me)]) rfl rfl rfl rfl ?_
  refine jx_ld (pc_q := 31) (l_q := L4) (st_q := [.int (i32 (F (me) (5 : Int))), .int (i32 (2)), rv (me)]) rfl (jl_iloadn g7) ?_
  refine jx_mul (pc_q := 32) rfl rfl ?_
  obtain ⟨z23, ez23⟩ : ∃ q, q = (i32 ((2 * F (me) (5 : Int)))).toInt := ⟨_, rfl⟩
  have bz23 : (-2147483648 : Int) ≤ z23 ∧ z23 ≤ 2147483647 := ez23 ▸ i32_rg _
  rw [show i32 ((2 * F (me) (5 : Int))) = i32 z23 by rw [ez23, i32_of]]
  clear ez23
  refine jx_ld (pc_q := 33) (l_q := L4) (st_q := [.int (i32 (a0)), .int (i32 (z23)), rv (me)]) rfl (jl_iloadn g6) ?_
  refine jx_add (pc_q := 34) rfl rfl ?_
  obtain ⟨z24, ez24⟩ : ∃ q, q = (i32 ((z23 + a0))).toInt := ⟨_, rfl⟩
  have bz24 : (-2147483648 : Int) ≤ z24 ∧ z24 ≤ 2147483647 := ez24 ▸ i32_rg _
  rw [show i32 ((z23 + a0)) = i32 z24 by rw [ez24, i32_of]]
  clear ez24
  refine cx_vi (c := 2) (a := me) (st := []) (as := [.int (i32 (z24))]) rfl rfl rfl o_me t_me (by decide) rfl ⟨rfl, rfl, (Nat.le_of_ble_eq_true rfl)⟩ rfl (k_LCore_wake (dd := d) (R := R) (m := m) (tg := tg) (ln := ln) (F := F19) (me := me) (a0 := z24) (hd := by omega) (hC := hC20) (o_me := o_me) (t_me := t_me) (h_a0 := by omega)) (fun o V_q hq => ?_)
  obtain ⟨F25, rfl, rfl, hC26, hM27, -⟩ := hq
  have hM28 : Fq 0 [(3, 5), (3, 6), (3, 16), (3, 17), (21, -5)] m tg F F25 := Fq_t (ln := ln) (ln1 := ln) hM22 Ex_r hM27 (by decide) (Or.inl rfl)
  refine Or.inl ⟨rfl, ?_⟩
  refine jx_rt (v := none) rfl rfl rfl rfl rfl rfl ?_
  exact ⟨F25, rfl, rfl, hC26, hM28, trivial⟩
set_option maxRecDepth 20000 in
set_option maxHeartbeats 4000000 in
theorem k_LCore_endProcess {X : jX} {dd : Nat} {R : Nat → jC} {m : Nat} {tg ln : Int → Int} {F : Int → Int → Int} {me : Int} (hd : 3 ≤ dd) (hC : HC 0 m tg ln F) (o_me : own m me) (t_me : tg me = 3) : wk X dd 114 [rv me] (cV R m tg ln F) (fun o V_q => ∃ (F_q : Int → Int → Int), V_q = cV R m tg ln F_q ∧ o = .inl none ∧ HC 0 m tg ln F_q ∧ Fq 0 [(3, 5), (3, 6), (3, 7), (3, 8), (3, 9), (3, 10), (3, 11), (3, 16), (3, 17), (3, 19), (21, -5)] m tg F F_q ∧ True) := by
  obtain ⟨d, rfl⟩ : ∃ d, dd = d + 1 := ⟨dd - 1, by omega⟩
  refine wk_of (e := jm114) rfl (by rw [jS_r, jS_0]; exact Nat.le_of_ble_eq_true rfl) ?_
  rw [la_r, la_0]
  show wj X d jm114 (0, [(0, rv (me))], [], cV R m tg ln F) _
  have hM0 : Fq 0 [(3, 5), (3, 6), (3, 7), (3, 8), (3, 9), (3, 10), (3, 11), (3, 16), (3, 17), (3, 19), (21, -5)] m tg F F := Fq_r
  obtain ⟨L0, eL0⟩ : ∃ q : jL, q = [(0, rv (me))] := ⟨_, rfl⟩
  rw [← eL0]
  have g1 : jGet L0 0 = some (rv (me)) := eL0 ▸ (rfl : jGet [(0, rv (me))] 0 = some (rv (me)))
  clear eL0
  refine jx_ld (pc_q := 1) (l_q := L0) (st_q := [rv (me)]) rfl (jl_rvn g1) ?_
  refine jx_ld (pc_q := 2) (l_q := L0) (st_q := [rv (me), rv (me)]) rfl (jl_rvn g1) ?_
  refine cx_gi (pc_q := 5) (c := 2) (q := 5) (v := F (me) (5 : Int)) rfl rfl (by decide) (by decide) (Or.inl rfl) rfl o_me t_me rfl ?_
  have b2 : (-2147483648 : Int) ≤ F (me) (5 : Int) ∧ F (me) (5 : Int) ≤ 2147483647 := by have z := HC_i (c := 2) (q := 5) hC o_me t_me (by decide) rfl; rw [show F (me) ((5 : Nat) : Int) = F (me) (5 : Int) from rfl] at z; exact z
  refine jx_ar (pc_q := 6) (st_q := [.int (i32 (1)), .int (i32 (F (me) (5 : Int))), rv (me)]) rfl rfl rfl rfl ?_
  refine jx_add (pc_q := 7) rfl rfl ?_
  obtain ⟨z3, ez3⟩ : ∃ q, q = (i32 ((F (me) (5 : Int) + 1))).toInt := ⟨_, rfl⟩
  have bz3 : (-2147483648 : Int) ≤ z3 ∧ z3 ≤ 2147483647 := ez3 ▸ i32_rg _
  rw [show i32 ((F (me) (5 : Int) + 1)) = i32 z3 by rw [ez3, i32_of]]
  clear ez3
  refine cx_vi (c := 2) (a := me) (st := []) (as := [.int (i32 (z3))]) rfl rfl rfl o_me t_me (by decide) rfl ⟨rfl, rfl, (Nat.le_of_ble_eq_true rfl)⟩ rfl (k_LCore_peek (dd := d) (R := R) (m := m) (tg := tg) (ln := ln) (F := F) (me := me) (a0 := z3) (hd := by omega) (hC := hC) (o_me := o_me) (t_me := t_me) (h_a0 := by omega)) (fun o V_q hq => ?_)
  obtain ⟨r4, rfl, rfl, b5, -⟩ := hq
  refine Or.inr (Or.inl ⟨_, rfl, ?_⟩)
  refine jx_ar (pc_q := 11) (st_q := [.int (i32 (1)), .int (i32 (r4))]) rfl rfl rfl rfl ?_
  refine jx_sub (pc_q := 12) rfl rfl ?_
  obtain ⟨z6, ez6⟩ : ∃ q, q = (i32 ((r4 - 1))).toInt := ⟨_, rfl⟩
  have bz6 : (-2147483648 : Int) ≤ z6 ∧ z6 ≤ 2147483647 := ez6 ▸ i32_rg _
  rw [show i32 ((r4 - 1)) = i32 z6 by rw [ez6, i32_of]]
  clear ez6
  refine jx_ld (pc_q := 13) (l_q := jSto1 L0 1 (.int (i32 (z6)))) (st_q := []) rfl rfl ?_
  obtain ⟨L7, eL7⟩ : ∃ q : jL, q = jSto1 L0 1 (.int (i32 (z6))) := ⟨_, rfl⟩
  rw [← eL7]
  have g8 : jGet L7 0 = some (rv (me)) := eL7 ▸ jg_nr (by decide) g1
  have g9 : jGet L7 1 = some (.int (i32 (z6))) := eL7 ▸ jg_eq
  clear eL7
  refine jx_ld (pc_q := 14) (l_q := L7) (st_q := [rv (me)]) rfl (jl_rvn g8) ?_
  refine jx_ld (pc_q := 15) (l_q := L7) (st_q := [rv (me), rv (me)]) rfl (jl_rvn g8) ?_
  refine cx_gi (pc_q := 18) (c := 2) (q := 5) (v := F (me) (5 : Int)) rfl rfl (by decide) (by decide) (Or.inl rfl) rfl o_me t_me rfl ?_
  refine jx_ar (pc_q := 19) (st_q := [.int (i32 (1)), .int (i32 (F (me) (5 : Int))), rv (me)]) rfl rfl rfl rfl ?_
  refine jx_add (pc_q := 20) rfl rfl ?_
  obtain ⟨z10, ez10⟩ : ∃ q, q = (i32 ((F (me) (5 : Int) + 1))).toInt := ⟨_, rfl⟩
  have bz10 : (-2147483648 : Int) ≤ z10 ∧ z10 ≤ 2147483647 := ez10 ▸ i32_rg _
  rw [show i32 ((F (me) (5 : Int) + 1)) = i32 z10 by rw [ez10, i32_of]]
  clear ez10
  refine jx_ld (pc_q := 21) (l_q := L7) (st_q := [.int (i32 (z6)), .int (i32 (z10)), rv (me)]) rfl (jl_iloadn g9) ?_
  refine cx_vi (c := 2) (a := me) (st := []) (as := [.int (i32 (z10)), .int (i32 (z6))]) rfl rfl rfl o_me t_me (by decide) rfl ⟨rfl, rfl, (Nat.le_of_ble_eq_true rfl)⟩ rfl (k_LCore_poke (dd := d) (R := R) (m := m) (tg := tg) (ln := ln) (F := F) (me := me) (a0 := z10) (a1 := z6) (hd := by omega) (hC := hC) (o_me := o_me) (t_me := t_me) (h_a0 := by omega) (h_a1 := by omega)) (fun o V_q hq => ?_)
  obtain ⟨F11, rfl, rfl, hC12, hM13, -⟩ := hq
  have hM14 : Fq 0 [(3, 5), (3, 6), (3, 7), (3, 8), (3, 9), (3, 10), (3, 11), (3, 16), (3, 17), (3, 19), (21, -5)] m tg F F11 := Fq_t (ln := ln) (ln1 := ln) hM0 Ex_r hM13 (by decide) (Or.inl rfl)
  refine Or.inl ⟨rfl, ?_⟩
  refine jx_ld (pc_q := 25) (l_q := L7) (st_q := [.int (i32 (z6))]) rfl (jl_iloadn g9) ?_
  refine jx_if_ne (pc_q := 28) (tg := 71) rfl rfl rfl (by omega) (by omega) (fun h15 => ?_) (fun h15 => ?_)
  · have _q := h15
    refine jx_ld (pc_q := 72) (l_q := L7) (st_q := [rv (me)]) rfl (jl_rvn g8) ?_
    refine cx_vi (c := 2) (a := me) (st := []) (as := []) rfl rfl rfl o_me t_me (by decide) rfl ⟨rfl, rfl, (Nat.le_of_ble_eq_true rfl)⟩ rfl (k_LCore_leave (dd := d) (R := R) (m := m) (tg := tg) (ln := ln) (F := F11) (me := me) (hd := by omega) (hC := hC12) (o_me := o_me) (t_me := t_me)) (fun o V_q hq => ?_)
    obtain ⟨F16, rfl, rfl, hC17, hM18, -⟩ := hq
    have hM19 : Fq 0 [(3, 5), (3, 6), (3, 7), (3, 8), (3, 9), (3, 10), (3, 11), (3, 16), (3, 17), (3, 19), (21, -5)] m tg F F16 := Fq_t (ln := ln) (ln1 := ln) hM14 Ex_r hM18 (by decide) (Or.inl rfl)
    refine Or.inl ⟨rfl, ?_⟩
    refine jx_rt (v := none) rfl rfl rfl rfl rfl rfl ?_
    exact ⟨F16, rfl, rfl, hC17, hM19, trivial⟩
  · have _q := h15
    refine jx_ld (pc_q := 29) (l_q := L7) (st_q := [rv (me)]) rfl (jl_rvn g8) ?_
    refine jx_ld (pc_q := 30) (l_q := L7) (st_q := [rv (me), rv (me)]) rfl (jl_rvn g8) ?_
    refine cx_gi (pc_q := 33) (c := 2) (q := 5) (v := F (me) (5 : Int)) rfl rfl (by decide) (by decide) (Or.inl rfl) rfl o_me t_me (show F11 (me) (5 : Int) = F (me) (5 : Int) from hM13 _ _ o_me (own_z o_me) (by rw [t_me]; rfl)) ?_
    refine jx_ar (pc_q := 34) (st_q := [.int (i32 (2)), .int (i32 (F (me) (5 : Int))), rv (me)]) rfl rfl rfl rfl ?_
    refine jx_add (pc_q := 35) rfl rfl ?_
    obtain ⟨z20, ez20⟩ : ∃ q, q = (i32 ((F (me) (5 : Int) + 2))).toInt := ⟨_, rfl⟩
    have bz20 : (-2147483648 : Int) ≤ z20 ∧ z20 ≤ 2147483647 := ez20 ▸ i32_rg _
    rw [show i32 ((F (me) (5 : Int) + 2)) = i32 z20 by rw [ez20, i32_of]]
    clear ez20
    refine cx_vi (c := 2) (a := me) (st := []) (as := [.int (i32 (z20))]) rfl rfl rfl o_me t_me (by decide) rfl ⟨rfl, rfl, (Nat.le_of_ble_eq_true rfl)⟩ rfl (k_LCore_peek (dd := d) (R := R) (m := m) (tg := tg) (ln := ln) (F := F11) (me := me) (a0 := z20) (hd := by omega) (hC := hC12) (o_me := o_me) (t_me := t_me) (h_a0 := by omega)) (fun o V_q hq => ?_)
    obtain ⟨r21, rfl, rfl, b22, -⟩ := hq
    refine Or.inr (Or.inl ⟨_, rfl, ?_⟩)
    refine jx_ld (pc_q := 39) (l_q := jSto1 L7 2 (.int (i32 (r21)))) (st_q := []) rfl rfl ?_
    obtain ⟨L23, eL23⟩ : ∃ q : jL, q = jSto1 L7 2 (.int (i32 (r21))) := ⟨_, rfl⟩
    rw [← eL23]
    have g24 : jGet L23 0 = some (rv (me)) := eL23 ▸ jg_nr (by decide) g8
    have g25 : jGet L23 1 = some (.int (i32 (z6))) := eL23 ▸ jg_ne (by decide) g9 rfl
    have g26 : jGet L23 2 = some (.int (i32 (r21))) := eL23 ▸ jg_eq
    clear eL23
    refine jx_ld (pc_q := 40) (l_q := L23) (st_q := [.int (i32 (r21))]) rfl (jl_iloadn g26) ?_
    refine jx_ar (pc_q := 41) (st_q := [.int (i32 (1)), .int (i32 (r21))]) rfl rfl rfl rfl ?_
    refine jx_shr (pc_q := 42) rfl rfl ?_
    obtain ⟨z27, ez27⟩ : ∃ q, q = (i32 (r21) >>> (i32 (1) &&& 31)).toInt := ⟨_, rfl⟩
    rw [← ez27]
    have bz27 : (-2147483648 : Int) ≤ z27 ∧ z27 ≤ 2147483647 := ez27 ▸ i32_rg _
    clear ez27
    refine jx_ld (pc_q := 43) (l_q := jSto1 L23 3 (.int (i32 (z27)))) (st_q := []) rfl rfl ?_
    obtain ⟨L28, eL28⟩ : ∃ q : jL, q = jSto1 L23 3 (.int (i32 (z27))) := ⟨_, rfl⟩
    rw [← eL28]
    have g29 : jGet L28 0 = some (rv (me)) := eL28 ▸ jg_nr (by decide) g24
    have g30 : jGet L28 1 = some (.int (i32 (z6))) := eL28 ▸ jg_ne (by decide) g25 rfl
    have g31 : jGet L28 2 = some (.int (i32 (r21))) := eL28 ▸ jg_ne (by decide) g26 rfl
    have g32 : jGet L28 3 = some (.int (i32 (z27))) := eL28 ▸ jg_eq
    clear eL28
    refine jx_ld (pc_q := 44) (l_q := L28) (st_q := [rv (me)]) rfl (jl_rvn g29) ?_
    refine jx_ld (pc_q := 45) (l_q := L28) (st_q := [.int (i32 (z27)), rv (me)]) rfl (jl_iloadn g32) ?_
    refine jx_ar (pc_q := 46) (st_q := [.int (i32 (1)), .int (i32 (z27)), rv (me)]) rfl rfl rfl rfl ?_
    refine jx_sub (pc_q := 47) rfl rfl ?_
    obtain ⟨z33, ez33⟩ : ∃ q, q = (i32 ((z27 - 1))).toInt := ⟨_, rfl⟩
    have bz33 : (-2147483648 : Int) ≤ z33 ∧ z33 ≤ 2147483647 := ez33 ▸ i32_rg _
    rw [show i32 ((z27 - 1)) = i32 z33 by rw [ez33, i32_of]]
    clear ez33
    refine jx_ld (pc_q := 48) (l_q := L28) (st_q := [rv (me), .int (i32 (z33)), rv (me)]) rfl (jl_rvn g29) ?_
    refine jx_ld (pc_q := 49) (l_q := L28) (st_q := [rv (me), rv (me), .int (i32 (z33)), rv (me)]) rfl (jl_rvn g29) ?_
    refine cx_gi (pc_q := 52) (c := 2) (q := 5) (v := F (me) (5 : Int)) rfl rfl (by decide) (by decide) (Or.inl rfl) rfl o_me t_me (show F11 (me) (5 : Int) = F (me) (5 : Int) from hM13 _ _ o_me (own_z o_me) (by rw [t_me]; rfl)) ?_
    refine cx_vi (c := 2) (a := me) (st := [.int (i32 (z33)), rv (me)]) (as := [.int (i32 (F (me) (5 : Int)))]) rfl rfl rfl o_me t_me (by decide) rfl ⟨rfl, rfl, (by rw [jS_i, jS_r, jS_0]; exact Nat.le_of_ble_eq_true rfl)⟩ rfl (k_LCore_peek (dd := d) (R := R) (m := m) (tg := tg) (ln := ln) (F := F11) (me := me) (a0 := F (me) (5 : Int)) (hd := by omega) (hC := hC12) (o_me := o_me) (t_me := t_me) (h_a0 := by omega)) (fun o V_q hq => ?_)
    obtain ⟨r34, rfl, rfl, b35, -⟩ := hq
    refine Or.inr (Or.inl ⟨_, rfl, ?_⟩)
    refine cx_vi (c := 2) (a := me) (st := []) (as := [.int (i32 (z33)), .int (i32 (r34))]) rfl rfl rfl o_me t_me (by decide) rfl ⟨rfl, rfl, (Nat.le_of_ble_eq_true rfl)⟩ rfl (k_LCore_poke (dd := d) (R := R) (m := m) (tg := tg) (ln := ln) (F := F11) (me := me) (a0 := z33) (a1 := r34) (hd := by omega) (hC := hC12) (o_me := o_me) (t_me := t_me) (h_a0 := by omega) (h_a1 := by omega)) (fun o V_q hq => ?_)
    obtain ⟨F36, rfl, rfl, hC37, hM38, -⟩ := hq
    have hM39 : Fq 0 [(3, 5), (3, 6), (3, 7), (3, 8), (3, 9), (3, 10), (3, 11), (3, 16), (3, 17), (3, 19), (21, -5)] m tg F F36 := Fq_t (ln := ln) (ln1 := ln) hM14 Ex_r hM38 (by decide) (Or.inl rfl)
    refine Or.inl ⟨rfl, ?_⟩
    refine jx_ld (pc_q := 59) (l_q := L28) (st_q := [rv (me)]) rfl (jl_rvn g29) ?_
    refine jx_ld (pc_q := 60) (l_q := L28) (st_q := [.int (i32 (z27)), rv (me)]) rfl (jl_iloadn g32) ?_
    refine jx_ar (pc_q := 61) (st_q := [.int (i32 (3)), .int (i32 (z27)), rv (me)]) rfl rfl rfl rfl ?_
    refine jx_sub (pc_q := 62) rfl rfl ?_
    obtain ⟨z40, ez40⟩ : ∃ q, q = (i32 ((z27 - 3))).toInt := ⟨_, rfl⟩
    have bz40 : (-2147483648 : Int) ≤ z40 ∧ z40 ≤ 2147483647 := ez40 ▸ i32_rg _
    rw [show i32 ((z27 - 3)) = i32 z40 by rw [ez40, i32_of]]
    clear ez40
    refine jx_ar (pc_q := 63) (st_q := [.int (i32 (0)), .int (i32 (z40)), rv (me)]) rfl rfl rfl rfl ?_
    refine cx_vi (c := 2) (a := me) (st := []) (as := [.int (i32 (z40)), .int (i32 (0))]) rfl rfl rfl o_me t_me (by decide) rfl ⟨rfl, rfl, (Nat.le_of_ble_eq_true rfl)⟩ rfl (k_LCore_poke (dd := d) (R := R) (m := m) (tg := tg) (ln := ln) (F := F36) (me := me) (a0 := z40) (a1 := 0) (hd := by omega) (hC := hC37) (o_me := o_me) (t_me := t_me) (h_a0 := by omega) (h_a1 := by omega)) (fun o V_q hq => ?_)
    obtain ⟨F41, rfl, rfl, hC42, hM43, -⟩ := hq
    have hM44 : Fq 0 [(3, 5), (3, 6), (3, 7), (3, 8), (3, 9), (3, 10), (3, 11), (3, 16), (3, 17), (3, 19), (21, -5)] m tg F F41 := Fq_t (ln := ln) (ln1 := ln) hM39 Ex_r hM43 (by decide) (Or.inl rfl)
    refine Or.inl ⟨rfl, ?_⟩
    refine jx_ld (pc_q := 67) (l_q := L28) (st_q := [rv (me)]) rfl (jl_rvn g29) ?_
    refine jx_ld (pc_q := 68) (l_q := L28) (st_q := [.int (i32 (r21)), rv (me)]) rfl (jl_iloadn g31) ?_
    refine cx_vi (c := 2) (a := me) (st := []) (as := [.int (i32 (r21))]) rfl rfl rfl o_me t_me (by decide) rfl ⟨rfl, rfl, (Nat.le_of_ble_eq_true rfl)⟩ rfl (k_LCore_wake (dd := d) (R := R) (m := m) (tg := tg) (ln := ln) (F := F41) (me := me) (a0 := r21) (hd := by omega) (hC := hC42) (o_me := o_me) (t_me := t_me) (h_a0 := by omega)) (fun o V_q hq => ?_)
    obtain ⟨F45, rfl, rfl, hC46, hM47, -⟩ := hq
    have hM48 : Fq 0 [(3, 5), (3, 6), (3, 7), (3, 8), (3, 9), (3, 10), (3, 11), (3, 16), (3, 17), (3, 19), (21, -5)] m tg F F45 := Fq_t (ln := ln) (ln1 := ln) hM44 Ex_r hM47 (by decide) (Or.inl rfl)
    refine Or.inl ⟨rfl, ?_⟩
    refine jx_ld (pc_q := 72) (l_q := L28) (st_q := [rv (me)]) rfl (jl_rvn g29) ?_
    refine cx_vi (c := 2) (a := me) (st := []) (as := []) rfl rfl rfl o_me t_me (by decide) rfl ⟨rfl, rfl, (Nat.le_of_ble_eq_true rfl)⟩ rfl (k_LCore_leave (dd := d) (R := R) (m := m) (tg := tg) (ln := ln) (F := F45) (me := me) (hd := by omega) (hC := hC46) (o_me := o_me) (t_me := t_me)) (fun o V_q hq => ?_)
    obtain ⟨F49, rfl, rfl, hC50, hM51, -⟩ := hq
    have hM52 : Fq 0 [(3, 5), (3, 6), (3, 7), (3, 8), (3, 9), (3, 10), (3, 11), (3, 16), (3, 17), (3, 19), (21, -5)] m tg F F49 := Fq_t (ln := ln) (ln1 := ln) hM48 Ex_r hM51 (by decide) (Or.inl rfl)
    refine Or.inl ⟨rfl, ?_⟩
    refine jx_rt (v := none) rfl rfl rfl rfl rfl rfl ?_
    exact ⟨F49, rfl, rfl, hC50, hM52, trivial⟩
set_option maxRecDepth 20000 in
set_option maxHeartbeats 4000000 in
theorem k_LCore_takeFrom {X : jX} {dd : Nat} {R : Nat → jC} {m : Nat} {tg ln : Int → Int} {F : Int → Int → Int} {me : Int} (hd : 4 ≤ dd) (hC : HC 0 m tg ln F) (o_me : own m me) (t_me : tg me = 3) : wk X dd 115 [rv me] (cV R m tg ln F) (fun o V_q => ∃ (F_q : Int → Int → Int), V_q = cV R m tg ln F_q ∧ o = .inl none ∧ HC 0 m tg ln F_q ∧ Fq 0 [(3, 5), (3, 6), (3, 7), (3, 8), (3, 9), (3, 10), (3, 11), (3, 16), (3, 17), (3, 19), (5, 5), (5, 6), (6, 4), (21, -5)] m tg F F_q ∧ True) := by
  obtain ⟨d, rfl⟩ : ∃ d, dd = d + 1 := ⟨dd - 1, by omega⟩
  refine wk_of (e := jm115) rfl (by rw [jS_r, jS_0]; exact Nat.le_of_ble_eq_true rfl) ?_
  rw [la_r, la_0]
  show wj X d jm115 (0, [(0, rv (me))], [], cV R m tg ln F) _
  have hM0 : Fq 0 [(3, 5), (3, 6), (3, 7), (3, 8), (3, 9), (3, 10), (3, 11), (3, 16), (3, 17), (3, 19), (5, 5), (5, 6), (6, 4), (21, -5)] m tg F F := Fq_r
  obtain ⟨L0, eL0⟩ : ∃ q : jL, q = [(0, rv (me))] := ⟨_, rfl⟩
  rw [← eL0]
  have g1 : jGet L0 0 = some (rv (me)) := eL0 ▸ (rfl : jGet [(0, rv (me))] 0 = some (rv (me)))
  clear eL0
  refine jx_ld (pc_q := 1) (l_q := L0) (st_q := [rv (me)]) rfl (jl_rvn g1) ?_
  refine cx_gi (pc_q := 4) (c := 2) (q := 5) (v := F (me) (5 : Int)) rfl rfl (by decide) (by decide) (Or.inl rfl) rfl o_me t_me rfl ?_
  have b2 : (-2147483648 : Int) ≤ F (me) (5 : Int) ∧ F (me) (5 : Int) ≤ 2147483647 := by have z := HC_i (c := 2) (q := 5) hC o_me t_me (by decide) rfl; rw [show F (me) ((5 : Nat) : Int) = F (me) (5 : Int) from rfl] at z; exact z
  refine jx_ld (pc_q := 5) (l_q := jSto1 L0 1 (.int (i32 (F (me) (5 : Int))))) (st_q := []) rfl rfl ?_
  obtain ⟨L3, eL3⟩ : ∃ q : jL, q = jSto1 L0 1 (.int (i32 (F (me) (5 : Int)))) := ⟨_, rfl⟩
  rw [← eL3]
  have g4 : jGet L3 0 = some (rv (me)) := eL3 ▸ jg_nr (by decide) g1
  have g5 : jGet L3 1 = some (.int (i32 (F (me) (5 : Int)))) := eL3 ▸ jg_eq
  clear eL3
  refine jx_ld (pc_q := 6) (l_q := L3) (st_q := [rv (me)]) rfl (jl_rvn g4) ?_
  refine cx_gi (pc_q := 9) (c := 2) (q := 6) (v := F (me) (6 : Int)) rfl rfl (by decide) (by decide) (Or.inl rfl) rfl o_me t_me rfl ?_
  have b6 : (-2147483648 : Int) ≤ F (me) (6 : Int) ∧ F (me) (6 : Int) ≤ 2147483647 := by have z := HC_i (c := 2) (q := 6) hC o_me t_me (by decide) rfl; rw [show F (me) ((6 : Nat) : Int) = F (me) (6 : Int) from rfl] at z; exact z
  refine jx_ld (pc_q := 10) (l_q := jSto1 L3 2 (.int (i32 (F (me) (6 : Int))))) (st_q := []) rfl rfl ?_
  obtain ⟨L7, eL7⟩ : ∃ q : jL, q = jSto1 L3 2 (.int (i32 (F (me) (6 : Int)))) := ⟨_, rfl⟩
  rw [← eL7]
  have g8 : jGet L7 0 = some (rv (me)) := eL7 ▸ jg_nr (by decide) g4
  have g9 : jGet L7 1 = some (.int (i32 (F (me) (5 : Int)))) := eL7 ▸ jg_ne (by decide) g5 rfl
  have g10 : jGet L7 2 = some (.int (i32 (F (me) (6 : Int)))) := eL7 ▸ jg_eq
  clear eL7
  refine jx_ld (pc_q := 11) (l_q := L7) (st_q := [rv (me)]) rfl (jl_rvn g8) ?_
  refine cx_vi (c := 2) (a := me) (st := []) (as := []) rfl rfl rfl o_me t_me (by decide) rfl ⟨rfl, rfl, (Nat.le_of_ble_eq_true rfl)⟩ rfl (k_LCore_dropTwo (dd := d) (R := R) (m := m) (tg := tg) (ln := ln) (F := F) (me := me) (hd := by omega) (hC := hC) (o_me := o_me) (t_me := t_me)) (fun o V_q hq => ?_)
  obtain ⟨F11, rfl, rfl, hC12, hM13, -⟩ := hq
  have hM14 : Fq 0 [(3, 5), (3, 6), (3, 7), (3, 8), (3, 9), (3, 10), (3, 11), (3, 16), (3, 17), (3, 19), (5, 5), (5, 6), (6, 4), (21, -5)] m tg F F11 := Fq_t (ln := ln) (ln1 := ln) hM0 Ex_r hM13 (by decide) (Or.inl rfl)
  refine Or.inl ⟨rfl, ?_⟩
  refine jx_ld (pc_q := 15) (l_q := L7) (st_q := [rv (me)]) rfl (jl_rvn g8) ?_
  refine cx_gr (pc_q := 18) (c := 2) (q := 0) (v := F (me) (0 : Int)) rfl rfl (by decide) (by decide) rfl rfl o_me t_me (show F11 (me) (0 : Int) = F (me) (0 : Int) from hM13 _ _ o_me (own_z o_me) (by rw [t_me]; rfl)) ?_
  have y15 : own m (F (me) (0 : Int)) ∧ tg (F (me) (0 : Int)) = 6 ∧ ((0 : Int) ≠ 0 → ln (F (me) (0 : Int)) = 0) := by have z := HC_n (c := 2) (q := 0) hC12 o_me t_me (own_z o_me) (by decide) rfl; rw [show F11 (me) ((0 : Nat) : Int) = F (me) (0 : Int) from (show F11 (me) (0 : Int) = F (me) (0 : Int) from hM13 _ _ o_me (own_z o_me) (by rw [t_me]; rfl))] at z; exact ⟨z.1, z.2.1, z.2.2.1⟩
  refine jx_ld (pc_q := 19) (l_q := L7) (st_q := [.int (i32 (F (me) (5 : Int))), rv (F (me) (0 : Int))]) rfl (jl_iloadn g9) ?_
  refine cx_vi (c := 5) (a := F (me) (0 : Int)) (st := []) (as := [.int (i32 (F (me) (5 : Int)))]) rfl rfl rfl y15.1 y15.2.1 (by decide) rfl ⟨rfl, rfl, (Nat.le_of_ble_eq_true rfl)⟩ rfl (k_LMachine_linkAt (dd := d) (R := R) (m := m) (tg := tg) (ln := ln) (F := F11) (me := F (me) (0 : Int)) (a0 := F (me) (5 : Int)) (hd := by omega) (hC := hC12) (o_me := y15.1) (t_me := y15.2.1) (h_a0 := by omega)) (fun o V_q hq => ?_)
  obtain ⟨r16, rfl, rfl, b17, -⟩ := hq
  refine Or.inr (Or.inl ⟨_, rfl, ?_⟩)
  refine jx_ld (pc_q := 23) (l_q := jSto1 L7 3 (rv (r16))) (st_q := []) rfl (js_rvn (by decide)) ?_
  obtain ⟨L18, eL18⟩ : ∃ q : jL, q = jSto1 L7 3 (rv (r16)) := ⟨_, rfl⟩
  rw [← eL18]
  have g19 : jGet L18 0 = some (rv (me)) := eL18 ▸ jg_nr (by decide) g8
  have g20 : jGet L18 1 = some (.int (i32 (F (me) (5 : Int)))) := eL18 ▸ jg_ne (by decide) g9 rfl
  have g21 : jGet L18 2 = some (.int (i32 (F (me) (6 : Int)))) := eL18 ▸ jg_ne (by decide) g10 rfl
  have g22 : jGet L18 3 = some (rv (r16)) := eL18 ▸ jg_eq
  clear eL18
  refine jx_ld (pc_q := 24) (l_q := L18) (st_q := [.int (i32 (F (me) (5 : Int)))]) rfl (jl_iloadn g20) ?_
  refine jx_ar (pc_q := 26) (st_q := [.int (i32 (13)), .int (i32 (F (me) (5 : Int)))]) rfl rfl rfl rfl ?_
  refine jx_icmp_ne (pc_q := 29) (tg := 54) rfl rfl rfl (by omega) (by omega) (by decide) (by decide) (fun h23 => ?_) (fun h23 => ?_)
  · have _q := h23
    refine jx_ld (pc_q := 55) (l_q := L18) (st_q := [rv (r16)]) rfl (jl_rvn g22) ?_
    refine cx_nul (pc_q := 58) (tg_q := 81) rfl rfl rfl (fun h24 => ?_) (fun h24 => ?_)
    · have _q := h24
      refine jx_ld (pc_q := 82) (l_q := L18) (st_q := [.int (i32 (F (me) (5 : Int)))]) rfl (jl_iloadn g20) ?_
      refine jx_ar (pc_q := 84) (st_q := [.int (i32 (16)), .int (i32 (F (me) (5 : Int)))]) rfl rfl rfl rfl ?_
      refine jx_icmp_lt (pc_q := 87) (tg := 96) rfl rfl rfl (by omega) (by omega) (by decide) (by decide) (fun h25 => ?_) (fun h25 => ?_)
      · have _q := h25
        refine jx_ld (pc_q := 97) (l_q := L18) (st_q := [rv (me)]) rfl (jl_rvn g19) ?_
        refine jx_ld (pc_q := 98) (l_q := L18) (st_q := [.int (i32 (F (me) (5 : Int))), rv (me)]) rfl (jl_iloadn g20) ?_
        refine jx_ld (pc_q := 99) (l_q := L18) (st_q := [.int (i32 (F (me) (6 : Int))), .int (i32 (F (me) (5 : Int))), rv (me)]) rfl (jl_iloadn g21) ?_
        refine cx_vi (c := 2) (a := me) (st := []) (as := [.int (i32 (F (me) (5 : Int))), .int (i32 (F (me) (6 : Int)))]) rfl rfl rfl o_me t_me (by decide) rfl ⟨rfl, rfl, (Nat.le_of_ble_eq_true rfl)⟩ rfl (k_LCore_waitAt (dd := d) (R := R) (m := m) (tg := tg) (ln := ln) (F := F11) (me := me) (a0 := F (me) (5 : Int)) (a1 := F (me) (6 : Int)) (hd := by omega) (hC := hC12) (o_me := o_me) (t_me := t_me) (h_a0 := by omega) (h_a1 := by omega)) (fun o V_q hq => ?_)
        obtain ⟨F26, rfl, rfl, hC27, hM28, -⟩ := hq
        have hM29 : Fq 0 [(3, 5), (3, 6), (3, 7), (3, 8), (3, 9), (3, 10), (3, 11), (3, 16), (3, 17), (3, 19), (5, 5), (5, 6), (6, 4), (21, -5)] m tg F F26 := Fq_t (ln := ln) (ln1 := ln) hM14 Ex_r hM28 (by decide) (Or.inl rfl)
        refine Or.inl ⟨rfl, ?_⟩
        refine jx_go (tg := 128) rfl rfl ?_
        refine jx_rt (v := none) rfl rfl rfl rfl rfl rfl ?_
        exact ⟨F26, rfl, rfl, hC27, hM29, trivial⟩
      · have _q := h25
        refine jx_ld (pc_q := 88) (l_q := L18) (st_q := [rv (me)]) rfl (jl_rvn g19) ?_
        refine jx_ld (pc_q := 89) (l_q := L18) (st_q := [.int (i32 (F (me) (5 : Int))), rv (me)]) rfl (jl_iloadn g20) ?_
        refine cx_vi (c := 2) (a := me) (st := []) (as := [.int (i32 (F (me) (5 : Int)))]) rfl rfl rfl o_me t_me (by decide) rfl ⟨rfl, rfl, (Nat.le_of_ble_eq_true rfl)⟩ rfl (k_LCore_peek (dd := d) (R := R) (m := m) (tg := tg) (ln := ln) (F := F11) (me := me) (a0 := F (me) (5 : Int)) (hd := by omega) (hC := hC12) (o_me := o_me) (t_me := t_me) (h_a0 := by omega)) (fun o V_q hq => ?_)
        obtain ⟨r30, rfl, rfl, b31, -⟩ := hq
        refine Or.inr (Or.inl ⟨_, rfl, ?_⟩)
        refine jx_ar (pc_q := 93) (st_q := [.int (i32 (-1)), .int (i32 (r30))]) rfl rfl rfl rfl ?_
        refine jx_icmp_ne (pc_q := 96) (tg := 105) rfl rfl rfl (by omega) (by omega) (by decide) (by decide) (fun h32 => ?_) (fun h32 => ?_)
        · have _q := h32
          refine jx_ld (pc_q := 106) (l_q := L18) (st_q := [rv (me)]) rfl (jl_rvn g19) ?_
          refine jx_ld (pc_q := 107) (l_q := L18) (st_q := [.int (i32 (F (me) (6 : Int))), rv (me)]) rfl (jl_iloadn g21) ?_
          refine jx_ld (pc_q := 108) (l_q := L18) (st_q := [rv (me), .int (i32 (F (me) (6 : Int))), rv (me)]) rfl (jl_rvn g19) ?_
          refine jx_ld (pc_q := 109) (l_q := L18) (st_q := [rv (me), rv (me), .int (i32 (F (me) (6 : Int))), rv (me)]) rfl (jl_rvn g19) ?_
          refine jx_ld (pc_q := 110) (l_q := L18) (st_q := [.int (i32 (F (me) (5 : Int))), rv (me), rv (me), .int (i32 (F (me) (6 : Int))), rv (me)]) rfl (jl_iloadn g20) ?_
          refine cx_vi (c := 2) (a := me) (st := [rv (me), .int (i32 (F (me) (6 : Int))), rv (me)]) (as := [.int (i32 (F (me) (5 : Int)))]) rfl rfl rfl o_me t_me (by decide) rfl ⟨rfl, rfl, (by rw [jS_r, jS_i, jS_r, jS_0]; exact Nat.le_of_ble_eq_true rfl)⟩ rfl (k_LCore_peek (dd := d) (R := R) (m := m) (tg := tg) (ln := ln) (F := F11) (me := me) (a0 := F (me) (5 : Int)) (hd := by omega) (hC := hC12) (o_me := o_me) (t_me := t_me) (h_a0 := by omega)) (fun o V_q hq => ?_)
          obtain ⟨r33, rfl, rfl, b34, -⟩ := hq
          refine Or.inr (Or.inl ⟨_, rfl, ?_⟩)
          refine jx_ar (pc_q := 114) (st_q := [.int (i32 (1)), .int (i32 (r33)), rv (me), .int (i32 (F (me) (6 : Int))), rv (me)]) rfl rfl rfl rfl ?_
          refine jx_shr (pc_q := 115) rfl rfl ?_
          obtain ⟨z35, ez35⟩ : ∃ q, q = (i32 (r33) >>> (i32 (1) &&& 31)).toInt := ⟨_, rfl⟩
          rw [← ez35]
          have bz35 : (-2147483648 : Int) ≤ z35 ∧ z35 ≤ 2147483647 := ez35 ▸ i32_rg _
          clear ez35
          refine jx_ar (pc_q := 116) (st_q := [.int (i32 (2)), .int (i32 (z35)), rv (me), .int (i32 (F (me) (6 : Int))), rv (me)]) rfl rfl rfl rfl ?_
          refine jx_sub (pc_q := 117) rfl rfl ?_
          obtain ⟨z36, ez36⟩ : ∃ q, q = (i32 ((z35 - 2))).toInt := ⟨_, rfl⟩
          have bz36 : (-2147483648 : Int) ≤ z36 ∧ z36 ≤ 2147483647 := ez36 ▸ i32_rg _
          rw [show i32 ((z35 - 2)) = i32 z36 by rw [ez36, i32_of]]
          clear ez36
          refine cx_vi (c := 2) (a := me) (st := [.int (i32 (F (me) (6 : Int))), rv (me)]) (as := [.int (i32 (z36))]) rfl rfl rfl o_me t_me (by decide) rfl ⟨rfl, rfl, (by rw [jS_i, jS_r, jS_0]; exact Nat.le_of_ble_eq_true rfl)⟩ rfl (k_LCore_peek (dd := d) (R := R) (m := m) (tg := tg) (ln := ln) (F := F11) (me := me) (a0 := z36) (hd := by omega) (hC := hC12) (o_me := o_me) (t_me := t_me) (h_a0 := by omega)) (fun o V_q hq => ?_)
          obtain ⟨r37, rfl, rfl, b38, -⟩ := hq
          refine Or.inr (Or.inl ⟨_, rfl, ?_⟩)
          refine cx_vi (c := 2) (a := me) (st := []) (as := [.int (i32 (F (me) (6 : Int))), .int (i32 (r37))]) rfl rfl rfl o_me t_me (by decide) rfl ⟨rfl, rfl, (Nat.le_of_ble_eq_true rfl)⟩ rfl (k_LCore_poke (dd := d) (R := R) (m := m) (tg := tg) (ln := ln) (F := F11) (me := me) (a0 := F (me) (6 : Int)) (a1 := r37) (hd := by omega) (hC := hC12) (o_me := o_me) (t_me := t_me) (h_a0 := by omega) (h_a1 := by omega)) (fun o V_q hq => ?_)
          obtain ⟨F39, rfl, rfl, hC40, hM41, -⟩ := hq
          have hM42 : Fq 0 [(3, 5), (3, 6), (3, 7), (3, 8), (3, 9), (3, 10), (3, 11), (3, 16), (3, 17), (3, 19), (5, 5), (5, 6), (6, 4), (21, -5)] m tg F F39 := Fq_t (ln := ln) (ln1 := ln) hM14 Ex_r hM41 (by decide) (Or.inl rfl)
          refine Or.inl ⟨rfl, ?_⟩
          refine jx_ld (pc_q := 124) (l_q := L18) (st_q := [rv (me)]) rfl (jl_rvn g19) ?_
          refine jx_ld (pc_q := 125) (l_q := L18) (st_q := [.int (i32 (F (me) (5 : Int))), rv (me)]) rfl (jl_iloadn g20) ?_
          refine cx_vi (c := 2) (a := me) (st := []) (as := [.int (i32 (F (me) (5 : Int)))]) rfl rfl rfl o_me t_me (by decide) rfl ⟨rfl, rfl, (Nat.le_of_ble_eq_true rfl)⟩ rfl (k_LCore_release (dd := d) (R := R) (m := m) (tg := tg) (ln := ln) (F := F39) (me := me) (a0 := F (me) (5 : Int)) (hd := by omega) (hC := hC40) (o_me := o_me) (t_me := t_me) (h_a0 := by omega)) (fun o V_q hq => ?_)
          obtain ⟨F43, rfl, rfl, hC44, hM45, -⟩ := hq
          have hM46 : Fq 0 [(3, 5), (3, 6), (3, 7), (3, 8), (3, 9), (3, 10), (3, 11), (3, 16), (3, 17), (3, 19), (5, 5), (5, 6), (6, 4), (21, -5)] m tg F F43 := Fq_t (ln := ln) (ln1 := ln) hM42 Ex_r hM45 (by decide) (Or.inl rfl)
          refine Or.inl ⟨rfl, ?_⟩
          refine jx_rt (v := none) rfl rfl rfl rfl rfl rfl ?_
          exact ⟨F43, rfl, rfl, hC44, hM46, trivial⟩
        · have _q := h32
          refine jx_ld (pc_q := 97) (l_q := L18) (st_q := [rv (me)]) rfl (jl_rvn g19) ?_
          refine jx_ld (pc_q := 98) (l_q := L18) (st_q := [.int (i32 (F (me) (5 : Int))), rv (me)]) rfl (jl_iloadn g20) ?_
          refine jx_ld (pc_q := 99) (l_q := L18) (st_q := [.int (i32 (F (me) (6 : Int))), .int (i32 (F (me) (5 : Int))), rv (me)]) rfl (jl_iloadn g21) ?_
          refine cx_vi (c := 2) (a := me) (st := []) (as := [.int (i32 (F (me) (5 : Int))), .int (i32 (F (me) (6 : Int)))]) rfl rfl rfl o_me t_me (by decide) rfl ⟨rfl, rfl, (Nat.le_of_ble_eq_true rfl)⟩ rfl (k_LCore_waitAt (dd := d) (R := R) (m := m) (tg := tg) (ln := ln) (F := F11) (me := me) (a0 := F (me) (5 : Int)) (a1 := F (me) (6 : Int)) (hd := by omega) (hC := hC12) (o_me := o_me) (t_me := t_me) (h_a0 := by omega) (h_a1 := by omega)) (fun o V_q hq => ?_)
          obtain ⟨F47, rfl, rfl, hC48, hM49, -⟩ := hq
          have hM50 : Fq 0 [(3, 5), (3, 6), (3, 7), (3, 8), (3, 9), (3, 10), (3, 11), (3, 16), (3, 17), (3, 19), (5, 5), (5, 6), (6, 4), (21, -5)] m tg F F47 := Fq_t (ln := ln) (ln1 := ln) hM14 Ex_r hM49 (by decide) (Or.inl rfl)
          refine Or.inl ⟨rfl, ?_⟩
          refine jx_go (tg := 128) rfl rfl ?_
          refine jx_rt (v := none) rfl rfl rfl rfl rfl rfl ?_
          exact ⟨F47, rfl, rfl, hC48, hM50, trivial⟩
    · have _q := h24
      have ho51 : own m (r16) ∧ tg (r16) = 5 := b17.resolve_left h24
      refine jx_ld (pc_q := 59) (l_q := L18) (st_q := [rv (r16)]) rfl (jl_rvn g22) ?_
      refine cx_vi (c := 4) (a := r16) (st := []) (as := []) rfl rfl rfl ho51.1 ho51.2 (by decide) rfl ⟨rfl, rfl, (Nat.le_of_ble_eq_true rfl)⟩ rfl (k_LLink_isWhole (dd := d) (R := R) (m := m) (tg := tg) (ln := ln) (F := F11) (me := r16) (hd := by omega) (hC := hC12) (o_me := ho51.1) (t_me := ho51.2)) (fun o V_q hq => ?_)
      obtain ⟨r52, rfl, rfl, b53, -⟩ := hq
      refine Or.inr (Or.inl ⟨_, rfl, ?_⟩)
      refine jx_if_eq (pc_q := 65) (tg := 81) rfl rfl rfl (by omega) (by omega) (fun h54 => ?_) (fun h54 => ?_)
      · have _q := h54
        refine jx_ld (pc_q := 82) (l_q := L18) (st_q := [.int (i32 (F (me) (5 : Int)))]) rfl (jl_iloadn g20) ?_
        refine jx_ar (pc_q := 84) (st_q := [.int (i32 (16)), .int (i32 (F (me) (5 : Int)))]) rfl rfl rfl rfl ?_
        refine jx_icmp_lt (pc_q := 87) (tg := 96) rfl rfl rfl (by omega) (by omega) (by decide) (by decide) (fun h55 => ?_) (fun h55 => ?_)
        · have _q := h55
          refine jx_ld (pc_q := 97) (l_q := L18) (st_q := [rv (me)]) rfl (jl_rvn g19) ?_
          refine jx_ld (pc_q := 98) (l_q := L18) (st_q := [.int (i32 (F (me) (5 : Int))), rv (me)]) rfl (jl_iloadn g20) ?_
          refine jx_ld (pc_q := 99) (l_q := L18) (st_q := [.int (i32 (F (me) (6 : Int))), .int (i32 (F (me) (5 : Int))), rv (me)]) rfl (jl_iloadn g21) ?_
          refine cx_vi (c := 2) (a := me) (st := []) (as := [.int (i32 (F (me) (5 : Int))), .int (i32 (F (me) (6 : Int)))]) rfl rfl rfl o_me t_me (by decide) rfl ⟨rfl, rfl, (Nat.le_of_ble_eq_true rfl)⟩ rfl (k_LCore_waitAt (dd := d) (R := R) (m := m) (tg := tg) (ln := ln) (F := F11) (me := me) (a0 := F (me) (5 : Int)) (a1 := F (me) (6 : Int)) (hd := by omega) (hC := hC12) (o_me := o_me) (t_me := t_me) (h_a0 := by omega) (h_a1 := by omega)) (fun o V_q hq => ?_)
          obtain ⟨F56, rfl, rfl, hC57, hM58, -⟩ := hq
          have hM59 : Fq 0 [(3, 5), (3, 6), (3, 7), (3, 8), (3, 9), (3, 10), (3, 11), (3, 16), (3, 17), (3, 19), (5, 5), (5, 6), (6, 4), (21, -5)] m tg F F56 := Fq_t (ln := ln) (ln1 := ln) hM14 Ex_r hM58 (by decide) (Or.inl rfl)
          refine Or.inl ⟨rfl, ?_⟩
          refine jx_go (tg := 128) rfl rfl ?_
          refine jx_rt (v := none) rfl rfl rfl rfl rfl rfl ?_
          exact ⟨F56, rfl, rfl, hC57, hM59, trivial⟩
        · have _q := h55
          refine jx_ld (pc_q := 88) (l_q := L18) (st_q := [rv (me)]) rfl (jl_rvn g19) ?_
          refine jx_ld (pc_q := 89) (l_q := L18) (st_q := [.int (i32 (F (me) (5 : Int))), rv (me)]) rfl (jl_iloadn g20) ?_
          refine cx_vi (c := 2) (a := me) (st := []) (as := [.int (i32 (F (me) (5 : Int)))]) rfl rfl rfl o_me t_me (by decide) rfl ⟨rfl, rfl, (Nat.le_of_ble_eq_true rfl)⟩ rfl (k_LCore_peek (dd := d) (R := R) (m := m) (tg := tg) (ln := ln) (F := F11) (me := me) (a0 := F (me) (5 : Int)) (hd := by omega) (hC := hC12) (o_me := o_me) (t_me := t_me) (h_a0 := by omega)) (fun o V_q hq => ?_)
          obtain ⟨r60, rfl, rfl, b61, -⟩ := hq
          refine Or.inr (Or.inl ⟨_, rfl, ?_⟩)
          refine jx_ar (pc_q := 93) (st_q := [.int (i32 (-1)), .int (i32 (r60))]) rfl rfl rfl rfl ?_
          refine jx_icmp_ne (pc_q := 96) (tg := 105) rfl rfl rfl (by omega) (by omega) (by decide) (by decide) (fun h62 => ?_) (fun h62 => ?_)
          · have _q := h62
            refine jx_ld (pc_q := 106) (l_q := L18) (st_q := [rv (me)]) rfl (jl_rvn g19) ?_
            refine jx_ld (pc_q := 107) (l_q := L18) (st_q := [.int (i32 (F (me) (6 : Int))), rv (me)]) rfl (jl_iloadn g21) ?_
            refine jx_ld (pc_q := 108) (l_q := L18) (st_q := [rv (me), .int (i32 (F (me) (6 : Int))), rv (me)]) rfl (jl_rvn g19) ?_
            refine jx_ld (pc_q := 109) (l_q := L18) (st_q := [rv (me), rv (me), .int (i32 (F (me) (6 : Int))), rv (me)]) rfl (jl_rvn g19) ?_
            refine jx_ld (pc_q := 110) (l_q := L18) (st_q := [.int (i32 (F (me) (5 : Int))), rv (me), rv (me), .int (i32 (F (me) (6 : Int))), rv (me)]) rfl (jl_iloadn g20) ?_
            refine cx_vi (c := 2) (a := me) (st := [rv (me), .int (i32 (F (me) (6 : Int))), rv (me)]) (as := [.int (i32 (F (me) (5 : Int)))]) rfl rfl rfl o_me t_me (by decide) rfl ⟨rfl, rfl, (by rw [jS_r, jS_i, jS_r, jS_0]; exact Nat.le_of_ble_eq_true rfl)⟩ rfl (k_LCore_peek (dd := d) (R := R) (m := m) (tg := tg) (ln := ln) (F := F11) (me := me) (a0 := F (me) (5 : Int)) (hd := by omega) (hC := hC12) (o_me := o_me) (t_me := t_me) (h_a0 := by omega)) (fun o V_q hq => ?_)
            obtain ⟨r63, rfl, rfl, b64, -⟩ := hq
            refine Or.inr (Or.inl ⟨_, rfl, ?_⟩)
            refine jx_ar (pc_q := 114) (st_q := [.int (i32 (1)), .int (i32 (r63)), rv (me), .int (i32 (F (me) (6 : Int))), rv (me)]) rfl rfl rfl rfl ?_
            refine jx_shr (pc_q := 115) rfl rfl ?_
            obtain ⟨z65, ez65⟩ : ∃ q, q = (i32 (r63) >>> (i32 (1) &&& 31)).toInt := ⟨_, rfl⟩
            rw [← ez65]
            have bz65 : (-2147483648 : Int) ≤ z65 ∧ z65 ≤ 2147483647 := ez65 ▸ i32_rg _
            clear ez65
            refine jx_ar (pc_q := 116) (st_q := [.int (i32 (2)), .int (i32 (z65)), rv (me), .int (i32 (F (me) (6 : Int))), rv (me)]) rfl rfl rfl rfl ?_
            refine jx_sub (pc_q := 117) rfl rfl ?_
            obtain ⟨z66, ez66⟩ : ∃ q, q = (i32 ((z65 - 2))).toInt := ⟨_, rfl⟩
            have bz66 : (-2147483648 : Int) ≤ z66 ∧ z66 ≤ 2147483647 := ez66 ▸ i32_rg _
            rw [show i32 ((z65 - 2)) = i32 z66 by rw [ez66, i32_of]]
            clear ez66
            refine cx_vi (c := 2) (a := me) (st := [.int (i32 (F (me) (6 : Int))), rv (me)]) (as := [.int (i32 (z66))]) rfl rfl rfl o_me t_me (by decide) rfl ⟨rfl, rfl, (by rw [jS_i, jS_r, jS_0]; exact Nat.le_of_ble_eq_true rfl)⟩ rfl (k_LCore_peek (dd := d) (R := R) (m := m) (tg := tg) (ln := ln) (F := F11) (me := me) (a0 := z66) (hd := by omega) (hC := hC12) (o_me := o_me) (t_me := t_me) (h_a0 := by omega)) (fun o V_q hq => ?_)
            obtain ⟨r67, rfl, rfl, b68, -⟩ := hq
            refine Or.inr (Or.inl ⟨_, rfl, ?_⟩)
            refine cx_vi (c := 2) (a := me) (st := []) (as := [.int (i32 (F (me) (6 : Int))), .int (i32 (r67))]) rfl rfl rfl o_me t_me (by decide) rfl ⟨rfl, rfl, (Nat.le_of_ble_eq_true rfl)⟩ rfl (k_LCore_poke (dd := d) (R := R) (m := m) (tg := tg) (ln := ln) (F := F11) (me := me) (a0 := F (me) (6 : Int)) (a1 := r67) (hd := by omega) (hC := hC12) (o_me := o_me) (t_me := t_me) (h_a0 := by omega) (h_a1 := by omega)) (fun o V_q hq => ?_)
            obtain ⟨F69, rfl, rfl, hC70, hM71, -⟩ := hq
            have hM72 : Fq 0 [(3, 5), (3, 6), (3, 7), (3, 8), (3, 9), (3, 10), (3, 11), (3, 16), (3, 17), (3, 19), (5, 5), (5, 6), (6, 4), (21, -5)] m tg F F69 := Fq_t (ln := ln) (ln1 := ln) hM14 Ex_r hM71 (by decide) (Or.inl rfl)
            refine Or.inl ⟨rfl, ?_⟩
            refine jx_ld (pc_q := 124) (l_q := L18) (st_q := [rv (me)]) rfl (jl_rvn g19) ?_
            refine jx_ld (pc_q := 125) (l_q := L18) (st_q := [.int (i32 (F (me) (5 : Int))), rv (me)]) rfl (jl_iloadn g20) ?_
            refine cx_vi (c := 2) (a := me) (st := []) (as := [.int (i32 (F (me) (5 : Int)))]) rfl rfl rfl o_me t_me (by decide) rfl ⟨rfl, rfl, (Nat.le_of_ble_eq_true rfl)⟩ rfl (k_LCore_release (dd := d) (R := R) (m := m) (tg := tg) (ln := ln) (F := F69) (me := me) (a0 := F (me) (5 : Int)) (hd := by omega) (hC := hC70) (o_me := o_me) (t_me := t_me) (h_a0 := by omega)) (fun o V_q hq => ?_)
            obtain ⟨F73, rfl, rfl, hC74, hM75, -⟩ := hq
            have hM76 : Fq 0 [(3, 5), (3, 6), (3, 7), (3, 8), (3, 9), (3, 10), (3, 11), (3, 16), (3, 17), (3, 19), (5, 5), (5, 6), (6, 4), (21, -5)] m tg F F73 := Fq_t (ln := ln) (ln1 := ln) hM72 Ex_r hM75 (by decide) (Or.inl rfl)
            refine Or.inl ⟨rfl, ?_⟩
            refine jx_rt (v := none) rfl rfl rfl rfl rfl rfl ?_
            exact ⟨F73, rfl, rfl, hC74, hM76, trivial⟩
          · have _q := h62
            refine jx_ld (pc_q := 97) (l_q := L18) (st_q := [rv (me)]) rfl (jl_rvn g19) ?_
            refine jx_ld (pc_q := 98) (l_q := L18) (st_q := [.int (i32 (F (me) (5 : Int))), rv (me)]) rfl (jl_iloadn g20) ?_
            refine jx_ld (pc_q := 99) (l_q := L18) (st_q := [.int (i32 (F (me) (6 : Int))), .int (i32 (F (me) (5 : Int))), rv (me)]) rfl (jl_iloadn g21) ?_
            refine cx_vi (c := 2) (a := me) (st := []) (as := [.int (i32 (F (me) (5 : Int))), .int (i32 (F (me) (6 : Int)))]) rfl rfl rfl o_me t_me (by decide) rfl ⟨rfl, rfl, (Nat.le_of_ble_eq_true rfl)⟩ rfl (k_LCore_waitAt (dd := d) (R := R) (m := m) (tg := tg) (ln := ln) (F := F11) (me := me) (a0 := F (me) (5 : Int)) (a1 := F (me) (6 : Int)) (hd := by omega) (hC := hC12) (o_me := o_me) (t_me := t_me) (h_a0 := by omega) (h_a1 := by omega)) (fun o V_q hq => ?_)
            obtain ⟨F77, rfl, rfl, hC78, hM79, -⟩ := hq
            have hM80 : Fq 0 [(3, 5), (3, 6), (3, 7), (3, 8), (3, 9), (3, 10), (3, 11), (3, 16), (3, 17), (3, 19), (5, 5), (5, 6), (6, 4), (21, -5)] m tg F F77 := Fq_t (ln := ln) (ln1 := ln) hM14 Ex_r hM79 (by decide) (Or.inl rfl)
            refine Or.inl ⟨rfl, ?_⟩
            refine jx_go (tg := 128) rfl rfl ?_
            refine jx_rt (v := none) rfl rfl rfl rfl rfl rfl ?_
            exact ⟨F77, rfl, rfl, hC78, hM80, trivial⟩
      · have _q := h54
        refine jx_ld (pc_q := 66) (l_q := L18) (st_q := [rv (me)]) rfl (jl_rvn g19) ?_
        refine jx_ld (pc_q := 67) (l_q := L18) (st_q := [.int (i32 (F (me) (6 : Int))), rv (me)]) rfl (jl_iloadn g21) ?_
        refine jx_ld (pc_q := 68) (l_q := L18) (st_q := [rv (r16), .int (i32 (F (me) (6 : Int))), rv (me)]) rfl (jl_rvn g22) ?_
        refine cx_gi (pc_q := 71) (c := 4) (q := 2) (v := F11 (r16) (2 : Int)) rfl rfl (by decide) (by decide) (Or.inl rfl) rfl ho51.1 ho51.2 rfl ?_
        have b81 : (-2147483648 : Int) ≤ F11 (r16) (2 : Int) ∧ F11 (r16) (2 : Int) ≤ 2147483647 := by have z := HC_i (c := 4) (q := 2) hC12 ho51.1 ho51.2 (by decide) rfl; rw [show F11 (r16) ((2 : Nat) : Int) = F11 (r16) (2 : Int) from rfl] at z; exact z
        refine cx_vi (c := 2) (a := me) (st := []) (as := [.int (i32 (F (me) (6 : Int))), .int (i32 (F11 (r16) (2 : Int)))]) rfl rfl rfl o_me t_me (by decide) rfl ⟨rfl, rfl, (Nat.le_of_ble_eq_true rfl)⟩ rfl (k_LCore_poke (dd := d) (R := R) (m := m) (tg := tg) (ln := ln) (F := F11) (me := me) (a0 := F (me) (6 : Int)) (a1 := F11 (r16) (2 : Int)) (hd := by omega) (hC := hC12) (o_me := o_me) (t_me := t_me) (h_a0 := by omega) (h_a1 := by omega)) (fun o V_q hq => ?_)
        obtain ⟨F82, rfl, rfl, hC83, hM84, -⟩ := hq
        have hM85 : Fq 0 [(3, 5), (3, 6), (3, 7), (3, 8), (3, 9), (3, 10), (3, 11), (3, 16), (3, 17), (3, 19), (5, 5), (5, 6), (6, 4), (21, -5)] m tg F F82 := Fq_t (ln := ln) (ln1 := ln) hM14 Ex_r hM84 (by decide) (Or.inl rfl)
        refine Or.inl ⟨rfl, ?_⟩
        refine jx_ld (pc_q := 75) (l_q := L18) (st_q := [rv (r16)]) rfl (jl_rvn g22) ?_
        refine cx_vi (c := 4) (a := r16) (st := []) (as := []) rfl rfl rfl ho51.1 ho51.2 (by decide) rfl ⟨rfl, rfl, (Nat.le_of_ble_eq_true rfl)⟩ rfl (k_LLink_take (dd := d) (R := R) (m := m) (tg := tg) (ln := ln) (F := F82) (me := r16) (hd := by omega) (hC := hC83) (o_me := ho51.1) (t_me := ho51.2)) (fun o V_q hq => ?_)
        obtain ⟨F86, rfl, rfl, hC87, hM88, -⟩ := hq
        have hM89 : Fq 0 [(3, 5), (3, 6), (3, 7), (3, 8), (3, 9), (3, 10), (3, 11), (3, 16), (3, 17), (3, 19), (5, 5), (5, 6), (6, 4), (21, -5)] m tg F F86 := Fq_t (ln := ln) (ln1 := ln) hM85 Ex_r hM88 (by decide) (Or.inl rfl)
        refine Or.inl ⟨rfl, ?_⟩
        refine jx_go (tg := 128) rfl rfl ?_
        refine jx_rt (v := none) rfl rfl rfl rfl rfl rfl ?_
        exact ⟨F86, rfl, rfl, hC87, hM89, trivial⟩
  · have _q := h23
    refine jx_ld (pc_q := 30) (l_q := L18) (st_q := [rv (me)]) rfl (jl_rvn g19) ?_
    refine cx_gr (pc_q := 33) (c := 2) (q := 0) (v := F (me) (0 : Int)) rfl rfl (by decide) (by decide) rfl rfl o_me t_me (show F11 (me) (0 : Int) = F (me) (0 : Int) from hM13 _ _ o_me (own_z o_me) (by rw [t_me]; rfl)) ?_
    refine cx_vi (c := 5) (a := F (me) (0 : Int)) (st := []) (as := []) rfl rfl rfl y15.1 y15.2.1 (by decide) rfl ⟨rfl, rfl, (Nat.le_of_ble_eq_true rfl)⟩ rfl (k_LMachine_hasInput (dd := d) (R := R) (m := m) (tg := tg) (ln := ln) (F := F11) (me := F (me) (0 : Int)) (hd := by omega) (hC := hC12) (o_me := y15.1) (t_me := y15.2.1)) (fun o V_q hq => ?_)
    obtain ⟨r90, rfl, rfl, b91, -⟩ := hq
    refine Or.inr (Or.inl ⟨_, rfl, ?_⟩)
    refine jx_if_eq (pc_q := 39) (tg := 54) rfl rfl rfl (by omega) (by omega) (fun h92 => ?_) (fun h92 => ?_)
    · have _q := h92
      refine jx_ld (pc_q := 55) (l_q := L18) (st_q := [rv (r16)]) rfl (jl_rvn g22) ?_
      refine cx_nul (pc_q := 58) (tg_q := 81) rfl rfl rfl (fun h93 => ?_) (fun h93 => ?_)
      · have _q := h93
        refine jx_ld (pc_q := 82) (l_q := L18) (st_q := [.int (i32 (F (me) (5 : Int)))]) rfl (jl_iloadn g20) ?_
        refine jx_ar (pc_q := 84) (st_q := [.int (i32 (16)), .int (i32 (F (me) (5 : Int)))]) rfl rfl rfl rfl ?_
        refine jx_icmp_lt (pc_q := 87) (tg := 96) rfl rfl rfl (by omega) (by omega) (by decide) (by decide) (fun h94 => ?_) (fun h94 => ?_)
        · have _q := h94
          refine jx_ld (pc_q := 97) (l_q := L18) (st_q := [rv (me)]) rfl (jl_rvn g19) ?_
          refine jx_ld (pc_q := 98) (l_q := L18) (st_q := [.int (i32 (F (me) (5 : Int))), rv (me)]) rfl (jl_iloadn g20) ?_
          refine jx_ld (pc_q := 99) (l_q := L18) (st_q := [.int (i32 (F (me) (6 : Int))), .int (i32 (F (me) (5 : Int))), rv (me)]) rfl (jl_iloadn g21) ?_
          refine cx_vi (c := 2) (a := me) (st := []) (as := [.int (i32 (F (me) (5 : Int))), .int (i32 (F (me) (6 : Int)))]) rfl rfl rfl o_me t_me (by decide) rfl ⟨rfl, rfl, (Nat.le_of_ble_eq_true rfl)⟩ rfl (k_LCore_waitAt (dd := d) (R := R) (m := m) (tg := tg) (ln := ln) (F := F11) (me := me) (a0 := F (me) (5 : Int)) (a1 := F (me) (6 : Int)) (hd := by omega) (hC := hC12) (o_me := o_me) (t_me := t_me) (h_a0 := by omega) (h_a1 := by omega)) (fun o V_q hq => ?_)
          obtain ⟨F95, rfl, rfl, hC96, hM97, -⟩ := hq
          have hM98 : Fq 0 [(3, 5), (3, 6), (3, 7), (3, 8), (3, 9), (3, 10), (3, 11), (3, 16), (3, 17), (3, 19), (5, 5), (5, 6), (6, 4), (21, -5)] m tg F F95 := Fq_t (ln := ln) (ln1 := ln) hM14 Ex_r hM97 (by decide) (Or.inl rfl)
          refine Or.inl ⟨rfl, ?_⟩
          refine jx_go (tg := 128) rfl rfl ?_
          refine jx_rt (v := none) rfl rfl rfl rfl rfl rfl ?_
          exact ⟨F95, rfl, rfl, hC96, hM98, trivial⟩
        · have _q := h94
          refine jx_ld (pc_q := 88) (l_q := L18) (st_q := [rv (me)]) rfl (jl_rvn g19) ?_
          refine jx_ld (pc_q := 89) (l_q := L18) (st_q := [.int (i32 (F (me) (5 : Int))), rv (me)]) rfl (jl_iloadn g20) ?_
          refine cx_vi (c := 2) (a := me) (st := []) (as := [.int (i32 (F (me) (5 : Int)))]) rfl rfl rfl o_me t_me (by decide) rfl ⟨rfl, rfl, (Nat.le_of_ble_eq_true rfl)⟩ rfl (k_LCore_peek (dd := d) (R := R) (m := m) (tg := tg) (ln := ln) (F := F11) (me := me) (a0 := F (me) (5 : Int)) (hd := by omega) (hC := hC12) (o_me := o_me) (t_me := t_me) (h_a0 := by omega)) (fun o V_q hq => ?_)
          obtain ⟨r99, rfl, rfl, b100, -⟩ := hq
          refine Or.inr (Or.inl ⟨_, rfl, ?_⟩)
          refine jx_ar (pc_q := 93) (st_q := [.int (i32 (-1)), .int (i32 (r99))]) rfl rfl rfl rfl ?_
          refine jx_icmp_ne (pc_q := 96) (tg := 105) rfl rfl rfl (by omega) (by omega) (by decide) (by decide) (fun h101 => ?_) (fun h101 => ?_)
          · have _q := h101
            refine jx_ld (pc_q := 106) (l_q := L18) (st_q := [rv (me)]) rfl (jl_rvn g19) ?_
            refine jx_ld (pc_q := 107) (l_q := L18) (st_q := [.int (i32 (F (me) (6 : Int))), rv (me)]) rfl (jl_iloadn g21) ?_
            refine jx_ld (pc_q := 108) (l_q := L18) (st_q := [rv (me), .int (i32 (F (me) (6 : Int))), rv (me)]) rfl (jl_rvn g19) ?_
            refine jx_ld (pc_q := 109) (l_q := L18) (st_q := [rv (me), rv (me), .int (i32 (F (me) (6 : Int))), rv (me)]) rfl (jl_rvn g19) ?_
            refine jx_ld (pc_q := 110) (l_q := L18) (st_q := [.int (i32 (F (me) (5 : Int))), rv (me), rv (me), .int (i32 (F (me) (6 : Int))), rv (me)]) rfl (jl_iloadn g20) ?_
            refine cx_vi (c := 2) (a := me) (st := [rv (me), .int (i32 (F (me) (6 : Int))), rv (me)]) (as := [.int (i32 (F (me) (5 : Int)))]) rfl rfl rfl o_me t_me (by decide) rfl ⟨rfl, rfl, (by rw [jS_r, jS_i, jS_r, jS_0]; exact Nat.le_of_ble_eq_true rfl)⟩ rfl (k_LCore_peek (dd := d) (R := R) (m := m) (tg := tg) (ln := ln) (F := F11) (me := me) (a0 := F (me) (5 : Int)) (hd := by omega) (hC := hC12) (o_me := o_me) (t_me := t_me) (h_a0 := by omega)) (fun o V_q hq => ?_)
            obtain ⟨r102, rfl, rfl, b103, -⟩ := hq
            refine Or.inr (Or.inl ⟨_, rfl, ?_⟩)
            refine jx_ar (pc_q := 114) (st_q := [.int (i32 (1)), .int (i32 (r102)), rv (me), .int (i32 (F (me) (6 : Int))), rv (me)]) rfl rfl rfl rfl ?_
            refine jx_shr (pc_q := 115) rfl rfl ?_
            obtain ⟨z104, ez104⟩ : ∃ q, q = (i32 (r102) >>> (i32 (1) &&& 31)).toInt := ⟨_, rfl⟩
            rw [← ez104]
            have bz104 : (-2147483648 : Int) ≤ z104 ∧ z104 ≤ 2147483647 := ez104 ▸ i32_rg _
            clear ez104
            refine jx_ar (pc_q := 116) (st_q := [.int (i32 (2)), .int (i32 (z104)), rv (me), .int (i32 (F (me) (6 : Int))), rv (me)]) rfl rfl rfl rfl ?_
            refine jx_sub (pc_q := 117) rfl rfl ?_
            obtain ⟨z105, ez105⟩ : ∃ q, q = (i32 ((z104 - 2))).toInt := ⟨_, rfl⟩
            have bz105 : (-2147483648 : Int) ≤ z105 ∧ z105 ≤ 2147483647 := ez105 ▸ i32_rg _
            rw [show i32 ((z104 - 2)) = i32 z105 by rw [ez105, i32_of]]
            clear ez105
            refine cx_vi (c := 2) (a := me) (st := [.int (i32 (F (me) (6 : Int))), rv (me)]) (as := [.int (i32 (z105))]) rfl rfl rfl o_me t_me (by decide) rfl ⟨rfl, rfl, (by rw [jS_i, jS_r, jS_0]; exact Nat.le_of_ble_eq_true rfl)⟩ rfl (k_LCore_peek (dd := d) (R := R) (m := m) (tg := tg) (ln := ln) (F := F11) (me := me) (a0 := z105) (hd := by omega) (hC := hC12) (o_me := o_me) (t_me := t_me) (h_a0 := by omega)) (fun o V_q hq => ?_)
            obtain ⟨r106, rfl, rfl, b107, -⟩ := hq
            refine Or.inr (Or.inl ⟨_, rfl, ?_⟩)
            refine cx_vi (c := 2) (a := me) (st := []) (as := [.int (i32 (F (me) (6 : Int))), .int (i32 (r106))]) rfl rfl rfl o_me t_me (by decide) rfl ⟨rfl, rfl, (Nat.le_of_ble_eq_true rfl)⟩ rfl (k_LCore_poke (dd := d) (R := R) (m := m) (tg := tg) (ln := ln) (F := F11) (me := me) (a0 := F (me) (6 : Int)) (a1 := r106) (hd := by omega) (hC := hC12) (o_me := o_me) (t_me := t_me) (h_a0 := by omega) (h_a1 := by omega)) (fun o V_q hq => ?_)
            obtain ⟨F108, rfl, rfl, hC109, hM110, -⟩ := hq
            have hM111 : Fq 0 [(3, 5), (3, 6), (3, 7), (3, 8), (3, 9), (3, 10), (3, 11), (3, 16), (3, 17), (3, 19), (5, 5), (5, 6), (6, 4), (21, -5)] m tg F F108 := Fq_t (ln := ln) (ln1 := ln) hM14 Ex_r hM110 (by decide) (Or.inl rfl)
            refine Or.inl ⟨rfl, ?_⟩
            refine jx_ld (pc_q := 124) (l_q := L18) (st_q := [rv (me)]) rfl (jl_rvn g19) ?_
            refine jx_ld (pc_q := 125) (l_q := L18) (st_q := [.int (i32 (F (me) (5 : Int))), rv (me)]) rfl (jl_iloadn g20) ?_
            refine cx_vi (c := 2) (a := me) (st := []) (as := [.int (i32 (F (me) (5 : Int)))]) rfl rfl rfl o_me t_me (by decide) rfl ⟨rfl, rfl, (Nat.le_of_ble_eq_true rfl)⟩ rfl (k_LCore_release (dd := d) (R := R) (m := m) (tg := tg) (ln := ln) (F := F108) (me := me) (a0 := F (me) (5 : Int)) (hd := by omega) (hC := hC109) (o_me := o_me) (t_me := t_me) (h_a0 := by omega)) (fun o V_q hq => ?_)
            obtain ⟨F112, rfl, rfl, hC113, hM114, -⟩ := hq
            have hM115 : Fq 0 [(3, 5), (3, 6), (3, 7), (3, 8), (3, 9), (3, 10), (3, 11), (3, 16), (3, 17), (3, 19), (5, 5), (5, 6), (6, 4), (21, -5)] m tg F F112 := Fq_t (ln := ln) (ln1 := ln) hM111 Ex_r hM114 (by decide) (Or.inl rfl)
            refine Or.inl ⟨rfl, ?_⟩
            refine jx_rt (v := none) rfl rfl rfl rfl rfl rfl ?_
            exact ⟨F112, rfl, rfl, hC113, hM115, trivial⟩
          · have _q := h101
            refine jx_ld (pc_q := 97) (l_q := L18) (st_q := [rv (me)]) rfl (jl_rvn g19) ?_
            refine jx_ld (pc_q := 98) (l_q := L18) (st_q := [.int (i32 (F (me) (5 : Int))), rv (me)]) rfl (jl_iloadn g20) ?_
            refine jx_ld (pc_q := 99) (l_q := L18) (st_q := [.int (i32 (F (me) (6 : Int))), .int (i32 (F (me) (5 : Int))), rv (me)]) rfl (jl_iloadn g21) ?_
            refine cx_vi (c := 2) (a := me) (st := []) (as := [.int (i32 (F (me) (5 : Int))), .int (i32 (F (me) (6 : Int)))]) rfl rfl rfl o_me t_me (by decide) rfl ⟨rfl, rfl, (Nat.le_of_ble_eq_true rfl)⟩ rfl (k_LCore_waitAt (dd := d) (R := R) (m := m) (tg := tg) (ln := ln) (F := F11) (me := me) (a0 := F (me) (5 : Int)) (a1 := F (me) (6 : Int)) (hd := by omega) (hC := hC12) (o_me := o_me) (t_me := t_me) (h_a0 := by omega) (h_a1 := by omega)) (fun o V_q hq => ?_)
            obtain ⟨F116, rfl, rfl, hC117, hM118, -⟩ := hq
            have hM119 : Fq 0 [(3, 5), (3, 6), (3, 7), (3, 8), (3, 9), (3, 10), (3, 11), (3, 16), (3, 17), (3, 19), (5, 5), (5, 6), (6, 4), (21, -5)] m tg F F116 := Fq_t (ln := ln) (ln1 := ln) hM14 Ex_r hM118 (by decide) (Or.inl rfl)
            refine Or.inl ⟨rfl, ?_⟩
            refine jx_go (tg := 128) rfl rfl ?_
            refine jx_rt (v := none) rfl rfl rfl rfl rfl rfl ?_
            exact ⟨F116, rfl, rfl, hC117, hM119, trivial⟩
      · have _q := h93
        have ho120 : own m (r16) ∧ tg (r16) = 5 := b17.resolve_left h93
        refine jx_ld (pc_q := 59) (l_q := L18) (st_q := [rv (r16)]) rfl (jl_rvn g22) ?_
        refine cx_vi (c := 4) (a := r16) (st := []) (as := []) rfl rfl rfl ho120.1 ho120.2 (by decide) rfl ⟨rfl, rfl, (Nat.le_of_ble_eq_true rfl)⟩ rfl (k_LLink_isWhole (dd := d) (R := R) (m := m) (tg := tg) (ln := ln) (F := F11) (me := r16) (hd := by omega) (hC := hC12) (o_me := ho120.1) (t_me := ho120.2)) (fun o V_q hq => ?_)
        obtain ⟨r121, rfl, rfl, b122, -⟩ := hq
        refine Or.inr (Or.inl ⟨_, rfl, ?_⟩)
        refine jx_if_eq (pc_q := 65) (tg := 81) rfl rfl rfl (by omega) (by omega) (fun h123 => ?_) (fun h123 => ?_)
        · have _q := h123
          refine jx_ld (pc_q := 82) (l_q := L18) (st_q := [.int (i32 (F (me) (5 : Int)))]) rfl (jl_iloadn g20) ?_
          refine jx_ar (pc_q := 84) (st_q := [.int (i32 (16)), .int (i32 (F (me) (5 : Int)))]) rfl rfl rfl rfl ?_
          refine jx_icmp_lt (pc_q := 87) (tg := 96) rfl rfl rfl (by omega) (by omega) (by decide) (by decide) (fun h124 => ?_) (fun h124 => ?_)
          · have _q := h124
            refine jx_ld (pc_q := 97) (l_q := L18) (st_q := [rv (me)]) rfl (jl_rvn g19) ?_
            refine jx_ld (pc_q := 98) (l_q := L18) (st_q := [.int (i32 (F (me) (5 : Int))), rv (me)]) rfl (jl_iloadn g20) ?_
            refine jx_ld (pc_q := 99) (l_q := L18) (st_q := [.int (i32 (F (me) (6 : Int))), .int (i32 (F (me) (5 : Int))), rv (me)]) rfl (jl_iloadn g21) ?_
            refine cx_vi (c := 2) (a := me) (st := []) (as := [.int (i32 (F (me) (5 : Int))), .int (i32 (F (me) (6 : Int)))]) rfl rfl rfl o_me t_me (by decide) rfl ⟨rfl, rfl, (Nat.le_of_ble_eq_true rfl)⟩ rfl (k_LCore_waitAt (dd := d) (R := R) (m := m) (tg := tg) (ln := ln) (F := F11) (me := me) (a0 := F (me) (5 : Int)) (a1 := F (me) (6 : Int)) (hd := by omega) (hC := hC12) (o_me := o_me) (t_me := t_me) (h_a0 := by omega) (h_a1 := by omega)) (fun o V_q hq => ?_)
            obtain ⟨F125, rfl, rfl, hC126, hM127, -⟩ := hq
            have hM128 : Fq 0 [(3, 5), (3, 6), (3, 7), (3, 8), (3, 9), (3, 10), (3, 11), (3, 16), (3, 17), (3, 19), (5, 5), (5, 6), (6, 4), (21, -5)] m tg F F125 := Fq_t (ln := ln) (ln1 := ln) hM14 Ex_r hM127 (by decide) (Or.inl rfl)
            refine Or.inl ⟨rfl, ?_⟩
            refine jx_go (tg := 128) rfl rfl ?_
            refine jx_rt (v := none) rfl rfl rfl rfl rfl rfl ?_
            exact ⟨F125, rfl, rfl, hC126, hM128, trivial⟩
          · have _q := h124
            refine jx_ld (pc_q := 88) (l_q := L18) (st_q := [rv (me)]) rfl (jl_rvn g19) ?_
            refine jx_ld (pc_q := 89) (l_q := L18) (st_q := [.int (i32 (F (me) (5 : Int))), rv (me)]) rfl (jl_iloadn g20) ?_
            refine cx_vi (c := 2) (a := me) (st := []) (as := [.int (i32 (F (me) (5 : Int)))]) rfl rfl rfl o_me t_me (by decide) rfl ⟨rfl, rfl, (Nat.le_of_ble_eq_true rfl)⟩ rfl (k_LCore_peek (dd := d) (R := R) (m := m) (tg := tg) (ln := ln) (F := F11) (me := me) (a0 := F (me) (5 : Int)) (hd := by omega) (hC := hC12) (o_me := o_me) (t_me := t_me) (h_a0 := by omega)) (fun o V_q hq => ?_)
            obtain ⟨r129, rfl, rfl, b130, -⟩ := hq
            refine Or.inr (Or.inl ⟨_, rfl, ?_⟩)
            refine jx_ar (pc_q := 93) (st_q := [.int (i32 (-1)), .int (i32 (r129))]) rfl rfl rfl rfl ?_
            refine jx_icmp_ne (pc_q := 96) (tg := 105) rfl rfl rfl (by omega) (by omega) (by decide) (by decide) (fun h131 => ?_) (fun h131 => ?_)
            · have _q := h131
              refine jx_ld (pc_q := 106) (l_q := L18) (st_q := [rv (me)]) rfl (jl_rvn g19) ?_
              refine jx_ld (pc_q := 107) (l_q := L18) (st_q := [.int (i32 (F (me) (6 : Int))), rv (me)]) rfl (jl_iloadn g21) ?_
              refine jx_ld (pc_q := 108) (l_q := L18) (st_q := [rv (me), .int (i32 (F (me) (6 : Int))), rv (me)]) rfl (jl_rvn g19) ?_
              refine jx_ld (pc_q := 109) (l_q := L18) (st_q := [rv (me), rv (me), .int (i32 (F (me) (6 : Int))), rv (me)]) rfl (jl_rvn g19) ?_
              refine jx_ld (pc_q := 110) (l_q := L18) (st_q := [.int (i32 (F (me) (5 : Int))), rv (me), rv (me), .int (i32 (F (me) (6 : Int))), rv (me)]) rfl (jl_iloadn g20) ?_
              refine cx_vi (c := 2) (a := me) (st := [rv (me), .int (i32 (F (me) (6 : Int))), rv (me)]) (as := [.int (i32 (F (me) (5 : Int)))]) rfl rfl rfl o_me t_me (by decide) rfl ⟨rfl, rfl, (by rw [jS_r, jS_i, jS_r, jS_0]; exact Nat.le_of_ble_eq_true rfl)⟩ rfl (k_LCore_peek (dd := d) (R := R) (m := m) (tg := tg) (ln := ln) (F := F11) (me := me) (a0 := F (me) (5 : Int)) (hd := by omega) (hC := hC12) (o_me := o_me) (t_me := t_me) (h_a0 := by omega)) (fun o V_q hq => ?_)
              obtain ⟨r132, rfl, rfl, b133, -⟩ := hq
              refine Or.inr (Or.inl ⟨_, rfl, ?_⟩)
              refine jx_ar (pc_q := 114) (st_q := [.int (i32 (1)), .int (i32 (r132)), rv (me), .int (i32 (F (me) (6 : Int))), rv (me)]) rfl rfl rfl rfl ?_
              refine jx_shr (pc_q := 115) rfl rfl ?_
              obtain ⟨z134, ez134⟩ : ∃ q, q = (i32 (r132) >>> (i32 (1) &&& 31)).toInt := ⟨_, rfl⟩
              rw [← ez134]
              have bz134 : (-2147483648 : Int) ≤ z134 ∧ z134 ≤ 2147483647 := ez134 ▸ i32_rg _
              clear ez134
              refine jx_ar (pc_q := 116) (st_q := [.int (i32 (2)), .int (i32 (z134)), rv (me), .int (i32 (F (me) (6 : Int))), rv (me)]) rfl rfl rfl rfl ?_
              refine jx_sub (pc_q := 117) rfl rfl ?_
              obtain ⟨z135, ez135⟩ : ∃ q, q = (i32 ((z134 - 2))).toInt := ⟨_, rfl⟩
              have bz135 : (-2147483648 : Int) ≤ z135 ∧ z135 ≤ 2147483647 := ez135 ▸ i32_rg _
              rw [show i32 ((z134 - 2)) = i32 z135 by rw [ez135, i32_of]]
              clear ez135
              refine cx_vi (c := 2) (a := me) (st := [.int (i32 (F (me) (6 : Int))), rv (me)]) (as := [.int (i32 (z135))]) rfl rfl rfl o_me t_me (by decide) rfl ⟨rfl, rfl, (by rw [jS_i, jS_r, jS_0]; exact Nat.le_of_ble_eq_true rfl)⟩ rfl (k_LCore_peek (dd := d) (R := R) (m := m) (tg := tg) (ln := ln) (F := F11) (me := me) (a0 := z135) (hd := by omega) (hC := hC12) (o_me := o_me) (t_me := t_me) (h_a0 := by omega)) (fun o V_q hq => ?_)
              obtain ⟨r136, rfl, rfl, b137, -⟩ := hq
              refine Or.inr (Or.inl ⟨_, rfl, ?_⟩)
              refine cx_vi (c := 2) (a := me) (st := []) (as := [.int (i32 (F (me) (6 : Int))), .int (i32 (r136))]) rfl rfl rfl o_me t_me (by decide) rfl ⟨rfl, rfl, (Nat.le_of_ble_eq_true rfl)⟩ rfl (k_LCore_poke (dd := d) (R := R) (m := m) (tg := tg) (ln := ln) (F := F11) (me := me) (a0 := F (me) (6 : Int)) (a1 := r136) (hd := by omega) (hC := hC12) (o_me := o_me) (t_me := t_me) (h_a0 := by omega) (h_a1 := by omega)) (fun o V_q hq => ?_)
              obtain ⟨F138, rfl, rfl, hC139, hM140, -⟩ := hq
              have hM141 : Fq 0 [(3, 5), (3, 6), (3, 7), (3, 8), (3, 9), (3, 10), (3, 11), (3, 16), (3, 17), (3, 19), (5, 5), (5, 6), (6, 4), (21, -5)] m tg F F138 := Fq_t (ln := ln) (ln1 := ln) hM14 Ex_r hM140 (by decide) (Or.inl rfl)
              refine Or.inl ⟨rfl, ?_⟩
              refine jx_ld (pc_q := 124) (l_q := L18) (st_q := [rv (me)]) rfl (jl_rvn g19) ?_
              refine jx_ld (pc_q := 125) (l_q := L18) (st_q := [.int (i32 (F (me) (5 : Int))), rv (me)]) rfl (jl_iloadn g20) ?_
              refine cx_vi (c := 2) (a := me) (st := []) (as := [.int (i32 (F (me) (5 : Int)))]) rfl rfl rfl o_me t_me (by decide) rfl ⟨rfl, rfl, (Nat.le_of_ble_eq_true rfl)⟩ rfl (k_LCore_release (dd := d) (R := R) (m := m) (tg := tg) (ln := ln) (F := F138) (me := me) (a0 := F (me) (5 : Int)) (hd := by omega) (hC := hC139) (o_me := o_me) (t_me := t_me) (h_a0 := by omega)) (fun o V_q hq => ?_)
              obtain ⟨F142, rfl, rfl, hC143, hM144, -⟩ := hq
              have hM145 : Fq 0 [(3, 5), (3, 6), (3, 7), (3, 8), (3, 9), (3, 10), (3, 11), (3, 16), (3, 17), (3, 19), (5, 5), (5, 6), (6, 4), (21, -5)] m tg F F142 := Fq_t (ln := ln) (ln1 := ln) hM141 Ex_r hM144 (by decide) (Or.inl rfl)
              refine Or.inl ⟨rfl, ?_⟩
              refine jx_rt (v := none) rfl rfl rfl rfl rfl rfl ?_
              exact ⟨F142, rfl, rfl, hC143, hM145, trivial⟩
            · have _q := h131
              refine jx_ld (pc_q := 97) (l_q := L18) (st_q := [rv (me)]) rfl (jl_rvn g19) ?_
              refine jx_ld (pc_q := 98) (l_q := L18) (st_q := [.int (i32 (F (me) (5 : Int))), rv (me)]) rfl (jl_iloadn g20) ?_
              refine jx_ld (pc_q := 99) (l_q := L18) (st_q := [.int (i32 (F (me) (6 : Int))), .int (i32 (F (me) (5 : Int))), rv (me)]) rfl (jl_iloadn g21) ?_
              refine cx_vi (c := 2) (a := me) (st := []) (as := [.int (i32 (F (me) (5 : Int))), .int (i32 (F (me) (6 : Int)))]) rfl rfl rfl o_me t_me (by decide) rfl ⟨rfl, rfl, (Nat.le_of_ble_eq_true rfl)⟩ rfl (k_LCore_waitAt (dd := d) (R := R) (m := m) (tg := tg) (ln := ln) (F := F11) (me := me) (a0 := F (me) (5 : Int)) (a1 := F (me) (6 : Int)) (hd := by omega) (hC := hC12) (o_me := o_me) (t_me := t_me) (h_a0 := by omega) (h_a1 := by omega)) (fun o V_q hq => ?_)
              obtain ⟨F146, rfl, rfl, hC147, hM148, -⟩ := hq
              have hM149 : Fq 0 [(3, 5), (3, 6), (3, 7), (3, 8), (3, 9), (3, 10), (3, 11), (3, 16), (3, 17), (3, 19), (5, 5), (5, 6), (6, 4), (21, -5)] m tg F F146 := Fq_t (ln := ln) (ln1 := ln) hM14 Ex_r hM148 (by decide) (Or.inl rfl)
              refine Or.inl ⟨rfl, ?_⟩
              refine jx_go (tg := 128) rfl rfl ?_
              refine jx_rt (v := none) rfl rfl rfl rfl rfl rfl ?_
              exact ⟨F146, rfl, rfl, hC147, hM149, trivial⟩
        · have _q := h123
          refine jx_ld (pc_q := 66) (l_q := L18) (st_q := [rv (me)]) rfl (jl_rvn g19) ?_
          refine jx_ld (pc_q := 67) (l_q := L18) (st_q := [.int (i32 (F (me) (6 : Int))), rv (me)]) rfl (jl_iloadn g21) ?_
          refine jx_ld (pc_q := 68) (l_q := L18) (st_q := [rv (r16), .int (i32 (F (me) (6 : Int))), rv (me)]) rfl (jl_rvn g22) ?_
          refine cx_gi (pc_q := 71) (c := 4) (q := 2) (v := F11 (r16) (2 : Int)) rfl rfl (by decide) (by decide) (Or.inl rfl) rfl ho120.1 ho120.2 rfl ?_
          have b150 : (-2147483648 : Int) ≤ F11 (r16) (2 : Int) ∧ F11 (r16) (2 : Int) ≤ 2147483647 := by have z := HC_i (c := 4) (q := 2) hC12 ho120.1 ho120.2 (by decide) rfl; rw [show F11 (r16) ((2 : Nat) : Int) = F11 (r16) (2 : Int) from rfl] at z; exact z
          refine cx_vi (c := 2) (a := me) (st := []) (as := [.int (i32 (F (me) (6 : Int))), .int (i32 (F11 (r16) (2 : Int)))]) rfl rfl rfl o_me t_me (by decide) rfl ⟨rfl, rfl, (Nat.le_of_ble_eq_true rfl)⟩ rfl (k_LCore_poke (dd := d) (R := R) (m := m) (tg := tg) (ln := ln) (F := F11) (me := me) (a0 := F (me) (6 : Int)) (a1 := F11 (r16) (2 : Int)) (hd := by omega) (hC := hC12) (o_me := o_me) (t_me := t_me) (h_a0 := by omega) (h_a1 := by omega)) (fun o V_q hq => ?_)
          obtain ⟨F151, rfl, rfl, hC152, hM153, -⟩ := hq
          have hM154 : Fq 0 [(3, 5), (3, 6), (3, 7), (3, 8), (3, 9), (3, 10), (3, 11), (3, 16), (3, 17), (3, 19), (5, 5), (5, 6), (6, 4), (21, -5)] m tg F F151 := Fq_t (ln := ln) (ln1 := ln) hM14 Ex_r hM153 (by decide) (Or.inl rfl)
          refine Or.inl ⟨rfl, ?_⟩
          refine jx_ld (pc_q := 75) (l_q := L18) (st_q := [rv (r16)]) rfl (jl_rvn g22) ?_
          refine cx_vi (c := 4) (a := r16) (st := []) (as := []) rfl rfl rfl ho120.1 ho120.2 (by decide) rfl ⟨rfl, rfl, (Nat.le_of_ble_eq_true rfl)⟩ rfl (k_LLink_take (dd := d) (R := R) (m := m) (tg := tg) (ln := ln) (F := F151) (me := r16) (hd := by omega) (hC := hC152) (o_me := ho120.1) (t_me := ho120.2)) (fun o V_q hq => ?_)
          obtain ⟨F155, rfl, rfl, hC156, hM157, -⟩ := hq
          have hM158 : Fq 0 [(3, 5), (3, 6), (3, 7), (3, 8), (3, 9), (3, 10), (3, 11), (3, 16), (3, 17), (3, 19), (5, 5), (5, 6), (6, 4), (21, -5)] m tg F F155 := Fq_t (ln := ln) (ln1 := ln) hM154 Ex_r hM157 (by decide) (Or.inl rfl)
          refine Or.inl ⟨rfl, ?_⟩
          refine jx_go (tg := 128) rfl rfl ?_
          refine jx_rt (v := none) rfl rfl rfl rfl rfl rfl ?_
          exact ⟨F155, rfl, rfl, hC156, hM158, trivial⟩
    · have _q := h92
      refine jx_ld (pc_q := 40) (l_q := L18) (st_q := [rv (me)]) rfl (jl_rvn g19) ?_
      refine jx_ld (pc_q := 41) (l_q := L18) (st_q := [.int (i32 (F (me) (6 : Int))), rv (me)]) rfl (jl_iloadn g21) ?_
      refine jx_ld (pc_q := 42) (l_q := L18) (st_q := [rv (me), .int (i32 (F (me) (6 : Int))), rv (me)]) rfl (jl_rvn g19) ?_
      refine cx_gr (pc_q := 45) (c := 2) (q := 0) (v := F (me) (0 : Int)) rfl rfl (by decide) (by decide) rfl rfl o_me t_me (show F11 (me) (0 : Int) = F (me) (0 : Int) from hM13 _ _ o_me (own_z o_me) (by rw [t_me]; rfl)) ?_
      refine cx_vi (c := 5) (a := F (me) (0 : Int)) (st := [.int (i32 (F (me) (6 : Int))), rv (me)]) (as := []) rfl rfl rfl y15.1 y15.2.1 (by decide) rfl ⟨rfl, rfl, (by rw [jS_i, jS_r, jS_0]; exact Nat.le_of_ble_eq_true rfl)⟩ rfl (k_LMachine_takeInput (dd := d) (R := R) (m := m) (tg := tg) (ln := ln) (F := F11) (me := F (me) (0 : Int)) (hd := by omega) (hC := hC12) (o_me := y15.1) (t_me := y15.2.1)) (fun o V_q hq => ?_)
      obtain ⟨F159, r160, rfl, rfl, hC161, hM162, b163, -⟩ := hq
      have hM164 : Fq 0 [(3, 5), (3, 6), (3, 7), (3, 8), (3, 9), (3, 10), (3, 11), (3, 16), (3, 17), (3, 19), (5, 5), (5, 6), (6, 4), (21, -5)] m tg F F159 := Fq_t (ln := ln) (ln1 := ln) hM14 Ex_r hM162 (by decide) (Or.inl rfl)
      refine Or.inr (Or.inl ⟨_, rfl, ?_⟩)
      refine cx_vi (c := 2) (a := me) (st := []) (as := [.int (i32 (F (me) (6 : Int))), .int (i32 (r160))]) rfl rfl rfl o_me t_me (by decide) rfl ⟨rfl, rfl, (Nat.le_of_ble_eq_true rfl)⟩ rfl (k_LCore_poke (dd := d) (R := R) (m := m) (tg := tg) (ln := ln) (F := F159) (me := me) (a0 := F (me) (6 : Int)) (a1 := r160) (hd := by omega) (hC := hC161) (o_me := o_me) (t_me := t_me) (h_a0 := by omega) (h_a1 := by omega)) (fun o V_q hq => ?_)
      obtain ⟨F165, rfl, rfl, hC166, hM167, -⟩ := hq
      have hM168 : Fq 0 [(3, 5), (3, 6), (3, 7), (3, 8), (3, 9), (3, 10), (3, 11), (3, 16), (3, 17), (3, 19), (5, 5), (5, 6), (6, 4), (21, -5)] m tg F F165 := Fq_t (ln := ln) (ln1 := ln) hM164 Ex_r hM167 (by decide) (Or.inl rfl)
      refine Or.inl ⟨rfl, ?_⟩
      refine jx_go (tg := 128) rfl rfl ?_
      refine jx_rt (v := none) rfl rfl rfl rfl rfl rfl ?_
      exact ⟨F165, rfl, rfl, hC166, hM168, trivial⟩
set_option maxRecDepth 20000 in
set_option maxHeartbeats 4000000 in
theorem k_LCore_sendOn {X : jX} {dd : Nat} {R : Nat → jC} {m : Nat} {tg ln : Int → Int} {F : Int → Int → Int} {kk : Int} {me : Int} (hd : 4 ≤ dd) (hC : HC 0 m tg ln F) (o_me : own m me) (t_me : tg me = 3) (p_0 : kk ≤ 2147483646) (c_SB : SB m tg F (kk)) : wk X dd 116 [rv me] (cV R m tg ln F) (fun o V_q => ∃ (F_q : Int → Int → Int), V_q = cV R m tg ln F_q ∧ o = .inl none ∧ HC 0 m tg ln F_q ∧ Fq 0 [(3, 5), (3, 6), (3, 7), (3, 8), (3, 9), (3, 10), (3, 11), (3, 16), (3, 17), (3, 19), (5, 2), (5, 3), (5, 4), (5, 5), (5, 6), (5, 7), (6, 6), (21, -5)] m tg F F_q ∧ (SB m tg F_q (kk + 1)) ∧ True) := by
  obtain ⟨d, rfl⟩ : ∃ d, dd = d + 1 := ⟨dd - 1, by omega⟩
  refine wk_of (e := jm116) rfl (by rw [jS_r, jS_0]; exact Nat.le_of_ble_eq_true rfl) ?_
  rw [la_r, la_0]
  show wj X d jm116 (0, [(0, rv (me))], [], cV R m tg ln F) _
  have hM0 : Fq 0 [(3, 5), (3, 6), (3, 7), (3, 8), (3, 9), (3, 10), (3, 11), (3, 16), (3, 17), (3, 19), (5, 2), (5, 3), (5, 4), (5, 5), (5, 6), (5, 7), (6, 6), (21, -5)] m tg F F := Fq_r
  obtain ⟨L0, eL0⟩ : ∃ q : jL, q = [(0, rv (me))] := ⟨_, rfl⟩
  rw [← eL0]
  have g1 : jGet L0 0 = some (rv (me)) := eL0 ▸ (rfl : jGet [(0, rv (me))] 0 = some (rv (me)))
  clear eL0
  refine jx_ld (pc_q := 1) (l_q := L0) (st_q := [rv (me)]) rfl (jl_rvn g1) ?_
  refine cx_gi (pc_q := 4) (c := 2) (q := 5) (v := F (me) (5 : Int)) rfl rfl (by decide) (by decide) (Or.inl rfl) rfl o_me t_me rfl ?_
  have b2 : (-2147483648 : Int) ≤ F (me) (5 : Int) ∧ F (me) (5 : Int) ≤ 2147483647 := by have z := HC_i (c := 2) (q := 5) hC o_me t_me (by decide) rfl; rw [show F (me) ((5 : Nat) : Int) = F (me) (5 : Int) from rfl] at z; exact z
  refine jx_ld (pc_q := 5) (l_q := jSto1 L0 1 (.int (i32 (F (me) (5 : Int))))) (st_q := []) rfl rfl ?_
  obtain ⟨L3, eL3⟩ : ∃ q : jL, q = jSto1 L0 1 (.int (i32 (F (me) (5 : Int)))) := ⟨_, rfl⟩
  rw [← eL3]
  have g4 : jGet L3 0 = some (rv (me)) := eL3 ▸ jg_nr (by decide) g1
  have g5 : jGet L3 1 = some (.int (i32 (F (me) (5 : Int)))) := eL3 ▸ jg_eq
  clear eL3
  refine jx_ld (pc_q := 6) (l_q := L3) (st_q := [rv (me)]) rfl (jl_rvn g4) ?_
  refine cx_gi (pc_q := 9) (c := 2) (q := 6) (v := F (me) (6 : Int)) rfl rfl (by decide) (by decide) (Or.inl rfl) rfl o_me t_me rfl ?_
  have b6 : (-2147483648 : Int) ≤ F (me) (6 : Int) ∧ F (me) (6 : Int) ≤ 2147483647 := by have z := HC_i (c := 2) (q := 6) hC o_me t_me (by decide) rfl; rw [show F (me) ((6 : Nat) : Int) = F (me) (6 : Int) from rfl] at z; exact z
  refine jx_ld (pc_q := 10) (l_q := jSto1 L3 2 (.int (i32 (F (me) (6 : Int))))) (st_q := []) rfl rfl ?_
  obtain ⟨L7, eL7⟩ : ∃ q : jL, q = jSto1 L3 2 (.int (i32 (F (me) (6 : Int)))) := ⟨_, rfl⟩
  rw [← eL7]
  have g8 : jGet L7 0 = some (rv (me)) := eL7 ▸ jg_nr (by decide) g4
  have g9 : jGet L7 1 = some (.int (i32 (F (me) (5 : Int)))) := eL7 ▸ jg_ne (by decide) g5 rfl
  have g10 : jGet L7 2 = some (.int (i32 (F (me) (6 : Int)))) := eL7 ▸ jg_eq
  clear eL7
  refine jx_ld (pc_q := 11) (l_q := L7) (st_q := [rv (me)]) rfl (jl_rvn g8) ?_
  refine cx_vi (c := 2) (a := me) (st := []) (as := []) rfl rfl rfl o_me t_me (by decide) rfl ⟨rfl, rfl, (Nat.le_of_ble_eq_true rfl)⟩ rfl (k_LCore_dropTwo (dd := d) (R := R) (m := m) (tg := tg) (ln := ln) (F := F) (me := me) (hd := by omega) (hC := hC) (o_me := o_me) (t_me := t_me)) (fun o V_q hq => ?_)
  obtain ⟨F11, rfl, rfl, hC12, hM13, -⟩ := hq
  have hM14 : Fq 0 [(3, 5), (3, 6), (3, 7), (3, 8), (3, 9), (3, 10), (3, 11), (3, 16), (3, 17), (3, 19), (5, 2), (5, 3), (5, 4), (5, 5), (5, 6), (5, 7), (6, 6), (21, -5)] m tg F F11 := Fq_t (ln := ln) (ln1 := ln) hM0 Ex_r hM13 (by decide) (Or.inl rfl)
  have c15 : SB m tg F11 (kk) := SB_q c_SB hM13 rfl
  refine Or.inl ⟨rfl, ?_⟩
  refine jx_ld (pc_q := 15) (l_q := L7) (st_q := [rv (me)]) rfl (jl_rvn g8) ?_
  refine cx_gr (pc_q := 18) (c := 2) (q := 0) (v := F (me) (0 : Int)) rfl rfl (by decide) (by decide) rfl rfl o_me t_me (show F11 (me) (0 : Int) = F (me) (0 : Int) from hM13 _ _ o_me (own_z o_me) (by rw [t_me]; rfl)) ?_
  have y16 : own m (F (me) (0 : Int)) ∧ tg (F (me) (0 : Int)) = 6 ∧ ((0 : Int) ≠ 0 → ln (F (me) (0 : Int)) = 0) := by have z := HC_n (c := 2) (q := 0) hC12 o_me t_me (own_z o_me) (by decide) rfl; rw [show F11 (me) ((0 : Nat) : Int) = F (me) (0 : Int) from (show F11 (me) (0 : Int) = F (me) (0 : Int) from hM13 _ _ o_me (own_z o_me) (by rw [t_me]; rfl))] at z; exact ⟨z.1, z.2.1, z.2.2.1⟩
  refine jx_ld (pc_q := 19) (l_q := L7) (st_q := [.int (i32 (F (me) (5 : Int))), rv (F (me) (0 : Int))]) rfl (jl_iloadn g9) ?_
  refine cx_vi (c := 5) (a := F (me) (0 : Int)) (st := []) (as := [.int (i32 (F (me) (5 : Int)))]) rfl rfl rfl y16.1 y16.2.1 (by decide) rfl ⟨rfl, rfl, (Nat.le_of_ble_eq_true rfl)⟩ rfl (k_LMachine_linkAt (dd := d) (R := R) (m := m) (tg := tg) (ln := ln) (F := F11) (me := F (me) (0 : Int)) (a0 := F (me) (5 : Int)) (hd := by omega) (hC := hC12) (o_me := y16.1) (t_me := y16.2.1) (h_a0 := by omega)) (fun o V_q hq => ?_)
  obtain ⟨r17, rfl, rfl, b18, -⟩ := hq
  refine Or.inr (Or.inl ⟨_, rfl, ?_⟩)
  refine jx_ld (pc_q := 23) (l_q := jSto1 L7 3 (rv (r17))) (st_q := []) rfl (js_rvn (by decide)) ?_
  obtain ⟨L19, eL19⟩ : ∃ q : jL, q = jSto1 L7 3 (rv (r17)) := ⟨_, rfl⟩
  rw [← eL19]
  have g20 : jGet L19 0 = some (rv (me)) := eL19 ▸ jg_nr (by decide) g8
  have g21 : jGet L19 1 = some (.int (i32 (F (me) (5 : Int)))) := eL19 ▸ jg_ne (by decide) g9 rfl
  have g22 : jGet L19 2 = some (.int (i32 (F (me) (6 : Int)))) := eL19 ▸ jg_ne (by decide) g10 rfl
  have g23 : jGet L19 3 = some (rv (r17)) := eL19 ▸ jg_eq
  clear eL19
  refine jx_ld (pc_q := 24) (l_q := L19) (st_q := [rv (me)]) rfl (jl_rvn g20) ?_
  refine jx_ld (pc_q := 25) (l_q := L19) (st_q := [.int (i32 (F (me) (5 : Int))), rv (me)]) rfl (jl_iloadn g21) ?_
  refine cx_vi (c := 2) (a := me) (st := []) (as := [.int (i32 (F (me) (5 : Int)))]) rfl rfl rfl o_me t_me (by decide) rfl ⟨rfl, rfl, (Nat.le_of_ble_eq_true rfl)⟩ rfl (k_LCore_peek (dd := d) (R := R) (m := m) (tg := tg) (ln := ln) (F := F11) (me := me) (a0 := F (me) (5 : Int)) (hd := by omega) (hC := hC12) (o_me := o_me) (t_me := t_me) (h_a0 := by omega)) (fun o V_q hq => ?_)
  obtain ⟨r24, rfl, rfl, b25, -⟩ := hq
  refine Or.inr (Or.inl ⟨_, rfl, ?_⟩)
  refine jx_ld (pc_q := 30) (l_q := jSto1 L19 4 (.int (i32 (r24)))) (st_q := []) rfl rfl ?_
  obtain ⟨L26, eL26⟩ : ∃ q : jL, q = jSto1 L19 4 (.int (i32 (r24))) := ⟨_, rfl⟩
  rw [← eL26]
  have g27 : jGet L26 0 = some (rv (me)) := eL26 ▸ jg_nr (by decide) g20
  have g28 : jGet L26 1 = some (.int (i32 (F (me) (5 : Int)))) := eL26 ▸ jg_ne (by decide) g21 rfl
  have g29 : jGet L26 2 = some (.int (i32 (F (me) (6 : Int)))) := eL26 ▸ jg_ne (by decide) g22 rfl
  have g30 : jGet L26 3 = some (rv (r17)) := eL26 ▸ jg_nr (by decide) g23
  have g31 : jGet L26 4 = some (.int (i32 (r24))) := eL26 ▸ jg_eq
  clear eL26
  refine jx_ld (pc_q := 31) (l_q := L26) (st_q := [.int (i32 (F (me) (5 : Int)))]) rfl (jl_iloadn g28) ?_
  refine jx_ar (pc_q := 33) (st_q := [.int (i32 (12)), .int (i32 (F (me) (5 : Int)))]) rfl rfl rfl rfl ?_
  refine jx_icmp_ne (pc_q := 36) (tg := 47) rfl rfl rfl (by omega) (by omega) (by decide) (by decide) (fun h32 => ?_) (fun h32 => ?_)
  · have _q := h32
    refine jx_ld (pc_q := 48) (l_q := L26) (st_q := [rv (r17)]) rfl (jl_rvn g30) ?_
    refine cx_nul (pc_q := 51) (tg_q := 65) rfl rfl rfl (fun h33 => ?_) (fun h33 => ?_)
    · have _q := h33
      refine jx_ld (pc_q := 67) (l_q := L26) (st_q := [.int (i32 (r24))]) rfl (jl_iload g31) ?_
      refine jx_ar (pc_q := 68) (st_q := [.int (i32 (-1)), .int (i32 (r24))]) rfl rfl rfl rfl ?_
      refine jx_icmp_ne (pc_q := 71) (tg := 80) rfl rfl rfl (by omega) (by omega) (by decide) (by decide) (fun h34 => ?_) (fun h34 => ?_)
      · have _q := h34
        refine jx_ld (pc_q := 81) (l_q := L26) (st_q := [rv (me)]) rfl (jl_rvn g27) ?_
        refine jx_ld (pc_q := 83) (l_q := L26) (st_q := [.int (i32 (r24)), rv (me)]) rfl (jl_iload g31) ?_
        refine jx_ar (pc_q := 84) (st_q := [.int (i32 (1)), .int (i32 (r24)), rv (me)]) rfl rfl rfl rfl ?_
        refine jx_shr (pc_q := 85) rfl rfl ?_
        obtain ⟨z35, ez35⟩ : ∃ q, q = (i32 (r24) >>> (i32 (1) &&& 31)).toInt := ⟨_, rfl⟩
        rw [← ez35]
        have bz35 : (-2147483648 : Int) ≤ z35 ∧ z35 ≤ 2147483647 := ez35 ▸ i32_rg _
        clear ez35
        refine jx_ar (pc_q := 86) (st_q := [.int (i32 (3)), .int (i32 (z35)), rv (me)]) rfl rfl rfl rfl ?_
        refine jx_sub (pc_q := 87) rfl rfl ?_
        obtain ⟨z36, ez36⟩ : ∃ q, q = (i32 ((z35 - 3))).toInt := ⟨_, rfl⟩
        have bz36 : (-2147483648 : Int) ≤ z36 ∧ z36 ≤ 2147483647 := ez36 ▸ i32_rg _
        rw [show i32 ((z35 - 3)) = i32 z36 by rw [ez36, i32_of]]
        clear ez36
        refine cx_vi (c := 2) (a := me) (st := []) (as := [.int (i32 (z36))]) rfl rfl rfl o_me t_me (by decide) rfl ⟨rfl, rfl, (Nat.le_of_ble_eq_true rfl)⟩ rfl (k_LCore_peek (dd := d) (R := R) (m := m) (tg := tg) (ln := ln) (F := F11) (me := me) (a0 := z36) (hd := by omega) (hC := hC12) (o_me := o_me) (t_me := t_me) (h_a0 := by omega)) (fun o V_q hq => ?_)
        obtain ⟨r37, rfl, rfl, b38, -⟩ := hq
        refine Or.inr (Or.inl ⟨_, rfl, ?_⟩)
        refine cx_st (st := []) (as := [.int (i32 (r37))]) rfl rfl rfl ⟨rfl, (Nat.le_of_ble_eq_true rfl)⟩ rfl (k_LCore_isAlt (dd := d) (R := R) (m := m) (tg := tg) (ln := ln) (F := F11) (a0 := r37) (hd := by omega) (hC := hC12) (h_a0 := by omega)) (fun o V_q hq => ?_)
        obtain ⟨r39, rfl, rfl, b40, -⟩ := hq
        refine Or.inr (Or.inl ⟨_, rfl, ?_⟩)
        refine jx_if_eq (pc_q := 96) (tg := 111) rfl rfl rfl (by omega) (by omega) (fun h41 => ?_) (fun h41 => ?_)
        · have _q := h41
          refine jx_ld (pc_q := 112) (l_q := L26) (st_q := [rv (me)]) rfl (jl_rvn g27) ?_
          refine jx_ld (pc_q := 113) (l_q := L26) (st_q := [rv (me), rv (me)]) rfl (jl_rvn g27) ?_
          refine jx_ld (pc_q := 115) (l_q := L26) (st_q := [.int (i32 (r24)), rv (me), rv (me)]) rfl (jl_iload g31) ?_
          refine jx_ar (pc_q := 116) (st_q := [.int (i32 (1)), .int (i32 (r24)), rv (me), rv (me)]) rfl rfl rfl rfl ?_
          refine jx_shr (pc_q := 117) rfl rfl ?_
          obtain ⟨z42, ez42⟩ : ∃ q, q = (i32 (r24) >>> (i32 (1) &&& 31)).toInt := ⟨_, rfl⟩
          rw [← ez42]
          have bz42 : (-2147483648 : Int) ≤ z42 ∧ z42 ≤ 2147483647 := ez42 ▸ i32_rg _
          clear ez42
          refine jx_ar (pc_q := 118) (st_q := [.int (i32 (2)), .int (i32 (z42)), rv (me), rv (me)]) rfl rfl rfl rfl ?_
          refine jx_sub (pc_q := 119) rfl rfl ?_
          obtain ⟨z43, ez43⟩ : ∃ q, q = (i32 ((z42 - 2))).toInt := ⟨_, rfl⟩
          have bz43 : (-2147483648 : Int) ≤ z43 ∧ z43 ≤ 2147483647 := ez43 ▸ i32_rg _
          rw [show i32 ((z42 - 2)) = i32 z43 by rw [ez43, i32_of]]
          clear ez43
          refine cx_vi (c := 2) (a := me) (st := [rv (me)]) (as := [.int (i32 (z43))]) rfl rfl rfl o_me t_me (by decide) rfl ⟨rfl, rfl, (by rw [jS_r, jS_0]; exact Nat.le_of_ble_eq_true rfl)⟩ rfl (k_LCore_peek (dd := d) (R := R) (m := m) (tg := tg) (ln := ln) (F := F11) (me := me) (a0 := z43) (hd := by omega) (hC := hC12) (o_me := o_me) (t_me := t_me) (h_a0 := by omega)) (fun o V_q hq => ?_)
          obtain ⟨r44, rfl, rfl, b45, -⟩ := hq
          refine Or.inr (Or.inl ⟨_, rfl, ?_⟩)
          refine jx_ld (pc_q := 123) (l_q := L26) (st_q := [.int (i32 (F (me) (6 : Int))), .int (i32 (r44)), rv (me)]) rfl (jl_iloadn g29) ?_
          refine cx_vi (c := 2) (a := me) (st := []) (as := [.int (i32 (r44)), .int (i32 (F (me) (6 : Int)))]) rfl rfl rfl o_me t_me (by decide) rfl ⟨rfl, rfl, (Nat.le_of_ble_eq_true rfl)⟩ rfl (k_LCore_poke (dd := d) (R := R) (m := m) (tg := tg) (ln := ln) (F := F11) (me := me) (a0 := r44) (a1 := F (me) (6 : Int)) (hd := by omega) (hC := hC12) (o_me := o_me) (t_me := t_me) (h_a0 := by omega) (h_a1 := by omega)) (fun o V_q hq => ?_)
          obtain ⟨F46, rfl, rfl, hC47, hM48, -⟩ := hq
          have hM49 : Fq 0 [(3, 5), (3, 6), (3, 7), (3, 8), (3, 9), (3, 10), (3, 11), (3, 16), (3, 17), (3, 19), (5, 2), (5, 3), (5, 4), (5, 5), (5, 6), (5, 7), (6, 6), (21, -5)] m tg F F46 := Fq_t (ln := ln) (ln1 := ln) hM14 Ex_r hM48 (by decide) (Or.inl rfl)
          have c50 : SB m tg F46 (kk) := SB_q c15 hM48 rfl
          refine Or.inl ⟨rfl, ?_⟩
          refine jx_ld (pc_q := 127) (l_q := L26) (st_q := [rv (me)]) rfl (jl_rvn g27) ?_
          refine jx_ld (pc_q := 128) (l_q := L26) (st_q := [.int (i32 (F (me) (5 : Int))), rv (me)]) rfl (jl_iloadn g28) ?_
          refine cx_vi (c := 2) (a := me) (st := []) (as := [.int (i32 (F (me) (5 : Int)))]) rfl rfl rfl o_me t_me (by decide) rfl ⟨rfl, rfl, (Nat.le_of_ble_eq_true rfl)⟩ rfl (k_LCore_release (dd := d) (R := R) (m := m) (tg := tg) (ln := ln) (F := F46) (me := me) (a0 := F (me) (5 : Int)) (hd := by omega) (hC := hC47) (o_me := o_me) (t_me := t_me) (h_a0 := by omega)) (fun o V_q hq => ?_)
          obtain ⟨F51, rfl, rfl, hC52, hM53, -⟩ := hq
          have hM54 : Fq 0 [(3, 5), (3, 6), (3, 7), (3, 8), (3, 9), (3, 10), (3, 11), (3, 16), (3, 17), (3, 19), (5, 2), (5, 3), (5, 4), (5, 5), (5, 6), (5, 7), (6, 6), (21, -5)] m tg F F51 := Fq_t (ln := ln) (ln1 := ln) hM49 Ex_r hM53 (by decide) (Or.inl rfl)
          have c55 : SB m tg F51 (kk) := SB_q c50 hM53 rfl
          refine Or.inl ⟨rfl, ?_⟩
          refine jx_rt (v := none) rfl rfl rfl rfl rfl rfl ?_
          exact ⟨F51, rfl, rfl, hC52, hM54, SB_m c55 (by omega), trivial⟩
        · have _q := h41
          refine jx_ld (pc_q := 97) (l_q := L26) (st_q := [rv (me)]) rfl (jl_rvn g27) ?_
          refine jx_ld (pc_q := 99) (l_q := L26) (st_q := [.int (i32 (r24)), rv (me)]) rfl (jl_iload g31) ?_
          refine cx_vi (c := 2) (a := me) (st := []) (as := [.int (i32 (r24))]) rfl rfl rfl o_me t_me (by decide) rfl ⟨rfl, rfl, (Nat.le_of_ble_eq_true rfl)⟩ rfl (k_LCore_alert (dd := d) (R := R) (m := m) (tg := tg) (ln := ln) (F := F11) (me := me) (a0 := r24) (hd := by omega) (hC := hC12) (o_me := o_me) (t_me := t_me) (h_a0 := by omega)) (fun o V_q hq => ?_)
          obtain ⟨F56, rfl, rfl, hC57, hM58, -⟩ := hq
          have hM59 : Fq 0 [(3, 5), (3, 6), (3, 7), (3, 8), (3, 9), (3, 10), (3, 11), (3, 16), (3, 17), (3, 19), (5, 2), (5, 3), (5, 4), (5, 5), (5, 6), (5, 7), (6, 6), (21, -5)] m tg F F56 := Fq_t (ln := ln) (ln1 := ln) hM14 Ex_r hM58 (by decide) (Or.inl rfl)
          have c60 : SB m tg F56 (kk) := SB_q c15 hM58 rfl
          refine Or.inl ⟨rfl, ?_⟩
          refine jx_ld (pc_q := 103) (l_q := L26) (st_q := [rv (me)]) rfl (jl_rvn g27) ?_
          refine jx_ld (pc_q := 104) (l_q := L26) (st_q := [.int (i32 (F (me) (5 : Int))), rv (me)]) rfl (jl_iloadn g28) ?_
          refine jx_ld (pc_q := 105) (l_q := L26) (st_q := [.int (i32 (F (me) (6 : Int))), .int (i32 (F (me) (5 : Int))), rv (me)]) rfl (jl_iloadn g29) ?_
          refine cx_vi (c := 2) (a := me) (st := []) (as := [.int (i32 (F (me) (5 : Int))), .int (i32 (F (me) (6 : Int)))]) rfl rfl rfl o_me t_me (by decide) rfl ⟨rfl, rfl, (Nat.le_of_ble_eq_true rfl)⟩ rfl (k_LCore_waitAt (dd := d) (R := R) (m := m) (tg := tg) (ln := ln) (F := F56) (me := me) (a0 := F (me) (5 : Int)) (a1 := F (me) (6 : Int)) (hd := by omega) (hC := hC57) (o_me := o_me) (t_me := t_me) (h_a0 := by omega) (h_a1 := by omega)) (fun o V_q hq => ?_)
          obtain ⟨F61, rfl, rfl, hC62, hM63, -⟩ := hq
          have hM64 : Fq 0 [(3, 5), (3, 6), (3, 7), (3, 8), (3, 9), (3, 10), (3, 11), (3, 16), (3, 17), (3, 19), (5, 2), (5, 3), (5, 4), (5, 5), (5, 6), (5, 7), (6, 6), (21, -5)] m tg F F61 := Fq_t (ln := ln) (ln1 := ln) hM59 Ex_r hM63 (by decide) (Or.inl rfl)
          have c65 : SB m tg F61 (kk) := SB_q c60 hM63 rfl
          refine Or.inl ⟨rfl, ?_⟩
          refine jx_go (tg := 131) rfl rfl ?_
          refine jx_rt (v := none) rfl rfl rfl rfl rfl rfl ?_
          exact ⟨F61, rfl, rfl, hC62, hM64, SB_m c65 (by omega), trivial⟩
      · have _q := h34
        refine jx_ld (pc_q := 72) (l_q := L26) (st_q := [rv (me)]) rfl (jl_rvn g27) ?_
        refine jx_ld (pc_q := 73) (l_q := L26) (st_q := [.int (i32 (F (me) (5 : Int))), rv (me)]) rfl (jl_iloadn g28) ?_
        refine jx_ld (pc_q := 74) (l_q := L26) (st_q := [.int (i32 (F (me) (6 : Int))), .int (i32 (F (me) (5 : Int))), rv (me)]) rfl (jl_iloadn g29) ?_
        refine cx_vi (c := 2) (a := me) (st := []) (as := [.int (i32 (F (me) (5 : Int))), .int (i32 (F (me) (6 : Int)))]) rfl rfl rfl o_me t_me (by decide) rfl ⟨rfl, rfl, (Nat.le_of_ble_eq_true rfl)⟩ rfl (k_LCore_waitAt (dd := d) (R := R) (m := m) (tg := tg) (ln := ln) (F := F11) (me := me) (a0 := F (me) (5 : Int)) (a1 := F (me) (6 : Int)) (hd := by omega) (hC := hC12) (o_me := o_me) (t_me := t_me) (h_a0 := by omega) (h_a1 := by omega)) (fun o V_q hq => ?_)
        obtain ⟨F66, rfl, rfl, hC67, hM68, -⟩ := hq
        have hM69 : Fq 0 [(3, 5), (3, 6), (3, 7), (3, 8), (3, 9), (3, 10), (3, 11), (3, 16), (3, 17), (3, 19), (5, 2), (5, 3), (5, 4), (5, 5), (5, 6), (5, 7), (6, 6), (21, -5)] m tg F F66 := Fq_t (ln := ln) (ln1 := ln) hM14 Ex_r hM68 (by decide) (Or.inl rfl)
        have c70 : SB m tg F66 (kk) := SB_q c15 hM68 rfl
        refine Or.inl ⟨rfl, ?_⟩
        refine jx_go (tg := 131) rfl rfl ?_
        refine jx_rt (v := none) rfl rfl rfl rfl rfl rfl ?_
        exact ⟨F66, rfl, rfl, hC67, hM69, SB_m c70 (by omega), trivial⟩
    · have _q := h33
      have ho71 : own m (r17) ∧ tg (r17) = 5 := b18.resolve_left h33
      refine jx_ld (pc_q := 52) (l_q := L26) (st_q := [rv (r17)]) rfl (jl_rvn g30) ?_
      refine jx_ld (pc_q := 53) (l_q := L26) (st_q := [.int (i32 (F (me) (6 : Int))), rv (r17)]) rfl (jl_iloadn g29) ?_
      refine cx_vi (c := 4) (a := r17) (st := []) (as := [.int (i32 (F (me) (6 : Int)))]) rfl rfl rfl ho71.1 ho71.2 (by decide) rfl ⟨rfl, rfl, (Nat.le_of_ble_eq_true rfl)⟩ rfl (k_LLink_load (dd := d) (R := R) (m := m) (tg := tg) (ln := ln) (F := F11) (me := r17) (v := F (me) (6 : Int)) (hd := by omega) (hC := hC12) (o_me := ho71.1) (t_me := ho71.2) (h_v := by omega)) (fun o V_q hq => ?_)
      obtain ⟨F72, rfl, rfl, hC73, hM74, -⟩ := hq
      have hM75 : Fq 0 [(3, 5), (3, 6), (3, 7), (3, 8), (3, 9), (3, 10), (3, 11), (3, 16), (3, 17), (3, 19), (5, 2), (5, 3), (5, 4), (5, 5), (5, 6), (5, 7), (6, 6), (21, -5)] m tg F F72 := Fq_t (ln := ln) (ln1 := ln) hM14 Ex_r hM74 (by decide) (Or.inl rfl)
      have c76 : SB m tg F72 (kk) := SB_q c15 hM74 rfl
      refine Or.inl ⟨rfl, ?_⟩
      refine jx_ld (pc_q := 57) (l_q := L26) (st_q := [rv (me)]) rfl (jl_rvn g27) ?_
      refine jx_ld (pc_q := 58) (l_q := L26) (st_q := [.int (i32 (F (me) (5 : Int))), rv (me)]) rfl (jl_iloadn g28) ?_
      refine jx_ld (pc_q := 59) (l_q := L26) (st_q := [.int (i32 (F (me) (6 : Int))), .int (i32 (F (me) (5 : Int))), rv (me)]) rfl (jl_iloadn g29) ?_
      refine cx_vi (c := 2) (a := me) (st := []) (as := [.int (i32 (F (me) (5 : Int))), .int (i32 (F (me) (6 : Int)))]) rfl rfl rfl o_me t_me (by decide) rfl ⟨rfl, rfl, (Nat.le_of_ble_eq_true rfl)⟩ rfl (k_LCore_waitAt (dd := d) (R := R) (m := m) (tg := tg) (ln := ln) (F := F72) (me := me) (a0 := F (me) (5 : Int)) (a1 := F (me) (6 : Int)) (hd := by omega) (hC := hC73) (o_me := o_me) (t_me := t_me) (h_a0 := by omega) (h_a1 := by omega)) (fun o V_q hq => ?_)
      obtain ⟨F77, rfl, rfl, hC78, hM79, -⟩ := hq
      have hM80 : Fq 0 [(3, 5), (3, 6), (3, 7), (3, 8), (3, 9), (3, 10), (3, 11), (3, 16), (3, 17), (3, 19), (5, 2), (5, 3), (5, 4), (5, 5), (5, 6), (5, 7), (6, 6), (21, -5)] m tg F F77 := Fq_t (ln := ln) (ln1 := ln) hM75 Ex_r hM79 (by decide) (Or.inl rfl)
      have c81 : SB m tg F77 (kk) := SB_q c76 hM79 rfl
      refine Or.inl ⟨rfl, ?_⟩
      refine jx_go (tg := 131) rfl rfl ?_
      refine jx_rt (v := none) rfl rfl rfl rfl rfl rfl ?_
      exact ⟨F77, rfl, rfl, hC78, hM80, SB_m c81 (by omega), trivial⟩
  · have _q := h32
    refine jx_ld (pc_q := 37) (l_q := L26) (st_q := [rv (me)]) rfl (jl_rvn g27) ?_
    refine cx_gr (pc_q := 40) (c := 2) (q := 0) (v := F (me) (0 : Int)) rfl rfl (by decide) (by decide) rfl rfl o_me t_me (show F11 (me) (0 : Int) = F (me) (0 : Int) from hM13 _ _ o_me (own_z o_me) (by rw [t_me]; rfl)) ?_
    refine jx_ld (pc_q := 41) (l_q := L26) (st_q := [.int (i32 (F (me) (6 : Int))), rv (F (me) (0 : Int))]) rfl (jl_iloadn g29) ?_
    refine cx_vi (c := 5) (a := F (me) (0 : Int)) (st := []) (as := [.int (i32 (F (me) (6 : Int)))]) rfl rfl rfl y16.1 y16.2.1 (by decide) rfl ⟨rfl, rfl, (Nat.le_of_ble_eq_true rfl)⟩ rfl (k_LMachine_show (dd := d) (R := R) (m := m) (tg := tg) (ln := ln) (F := F11) (me := F (me) (0 : Int)) (v := F (me) (6 : Int)) (hd := by omega) (hC := hC12) (o_me := y16.1) (t_me := y16.2.1) (h_v := by omega) (p_0 := by omega) (kk := kk) (c_SB := c15)) (fun o V_q hq => ?_)
    obtain ⟨F82, rfl, rfl, hC83, hM84, c85, -⟩ := hq
    have hM86 : Fq 0 [(3, 5), (3, 6), (3, 7), (3, 8), (3, 9), (3, 10), (3, 11), (3, 16), (3, 17), (3, 19), (5, 2), (5, 3), (5, 4), (5, 5), (5, 6), (5, 7), (6, 6), (21, -5)] m tg F F82 := Fq_t (ln := ln) (ln1 := ln) hM14 Ex_r hM84 (by decide) (Or.inl rfl)
    refine Or.inl ⟨rfl, ?_⟩
    refine jx_go (tg := 131) rfl rfl ?_
    refine jx_rt (v := none) rfl rfl rfl rfl rfl rfl ?_
    exact ⟨F82, rfl, rfl, hC83, hM86, SB_m c85 (by omega), trivial⟩
set_option maxRecDepth 20000 in
set_option maxHeartbeats 4000000 in
theorem k_LCore_offers {X : jX} {dd : Nat} {R : Nat → jC} {m : Nat} {tg ln : Int → Int} {F : Int → Int → Int} {me a0 : Int} (hd : 2 ≤ dd) (hC : HC 0 m tg ln F) (o_me : own m me) (t_me : tg me = 3) (h_a0 : (-2147483648 : Int) ≤ a0 ∧ a0 ≤ 2147483647) : wk X dd 117 [rv me, .int (i32 a0)] (cV R m tg ln F) (fun o V_q => ∃ (r : Int), V_q = cV R m tg ln F ∧ o = .inl (some (.int (i32 r))) ∧ (0 ≤ r ∧ r ≤ 1) ∧ True) := by
  obtain ⟨d, rfl⟩ : ∃ d, dd = d + 1 := ⟨dd - 1, by omega⟩
  refine wk_of (e := jm117) rfl (by rw [jS_r, jS_i, jS_0]; exact Nat.le_of_ble_eq_true rfl) ?_
  rw [la_r, la_i, la_0]
  show wj X d jm117 (0, [(0, rv (me)), (1, .int (i32 (a0)))], [], cV R m tg ln F) _
  obtain ⟨L0, eL0⟩ : ∃ q : jL, q = [(0, rv (me)), (1, .int (i32 (a0)))] := ⟨_, rfl⟩
  rw [← eL0]
  have g1 : jGet L0 0 = some (rv (me)) := eL0 ▸ (rfl : jGet [(0, rv (me)), (1, .int (i32 (a0)))] 0 = some (rv (me)))
  have g2 : jGet L0 1 = some (.int (i32 (a0))) := eL0 ▸ (rfl : jGet [(0, rv (me)), (1, .int (i32 (a0)))] 1 = some (.int (i32 (a0))))
  clear eL0
  refine jx_ld (pc_q := 1) (l_q := L0) (st_q := [rv (me)]) rfl (jl_rvn g1) ?_
  refine cx_gr (pc_q := 4) (c := 2) (q := 0) (v := F (me) (0 : Int)) rfl rfl (by decide) (by decide) rfl rfl o_me t_me rfl ?_
  have y3 : own m (F (me) (0 : Int)) ∧ tg (F (me) (0 : Int)) = 6 ∧ ((0 : Int) ≠ 0 → ln (F (me) (0 : Int)) = 0) := by have z := HC_n (c := 2) (q := 0) hC o_me t_me (own_z o_me) (by decide) rfl; rw [show F (me) ((0 : Nat) : Int) = F (me) (0 : Int) from rfl] at z; exact ⟨z.1, z.2.1, z.2.2.1⟩
  refine jx_ld (pc_q := 5) (l_q := L0) (st_q := [.int (i32 (a0)), rv (F (me) (0 : Int))]) rfl (jl_iloadn g2) ?_
  refine cx_vi (c := 5) (a := F (me) (0 : Int)) (st := []) (as := [.int (i32 (a0))]) rfl rfl rfl y3.1 y3.2.1 (by decide) rfl ⟨rfl, rfl, (Nat.le_of_ble_eq_true rfl)⟩ rfl (k_LMachine_linkAt (dd := d) (R := R) (m := m) (tg := tg) (ln := ln) (F := F) (me := F (me) (0 : Int)) (a0 := a0) (hd := by omega) (hC := hC) (o_me := y3.1) (t_me := y3.2.1) (h_a0 := by omega)) (fun o V_q hq => ?_)
  obtain ⟨r4, rfl, rfl, b5, -⟩ := hq
  refine Or.inr (Or.inl ⟨_, rfl, ?_⟩)
  refine jx_ld (pc_q := 9) (l_q := jSto1 L0 2 (rv (r4))) (st_q := []) rfl (js_rvn (by decide)) ?_
  obtain ⟨L6, eL6⟩ : ∃ q : jL, q = jSto1 L0 2 (rv (r4)) := ⟨_, rfl⟩
  rw [← eL6]
  have g7 : jGet L6 0 = some (rv (me)) := eL6 ▸ jg_nr (by decide) g1
  have g8 : jGet L6 1 = some (.int (i32 (a0))) := eL6 ▸ jg_ne (by decide) g2 rfl
  have g9 : jGet L6 2 = some (rv (r4)) := eL6 ▸ jg_eq
  clear eL6
  refine jx_ld (pc_q := 10) (l_q := L6) (st_q := [.int (i32 (a0))]) rfl (jl_iloadn g8) ?_
  refine jx_ar (pc_q := 12) (st_q := [.int (i32 (13)), .int (i32 (a0))]) rfl rfl rfl rfl ?_
  refine jx_icmp_ne (pc_q := 15) (tg := 23) rfl rfl rfl (by omega) (by omega) (by decide) (by decide) (fun h10 => ?_) (fun h10 => ?_)
  · have _q := h10
    refine jx_ld (pc_q := 24) (l_q := L6) (st_q := [rv (r4)]) rfl (jl_rvn g9) ?_
    refine cx_nul (pc_q := 27) (tg_q := 32) rfl rfl rfl (fun h11 => ?_) (fun h11 => ?_)
    · have _q := h11
      refine jx_ld (pc_q := 33) (l_q := L6) (st_q := [rv (me)]) rfl (jl_rvn g7) ?_
      refine jx_ld (pc_q := 34) (l_q := L6) (st_q := [.int (i32 (a0)), rv (me)]) rfl (jl_iloadn g8) ?_
      refine cx_vi (c := 2) (a := me) (st := []) (as := [.int (i32 (a0))]) rfl rfl rfl o_me t_me (by decide) rfl ⟨rfl, rfl, (Nat.le_of_ble_eq_true rfl)⟩ rfl (k_LCore_peek (dd := d) (R := R) (m := m) (tg := tg) (ln := ln) (F := F) (me := me) (a0 := a0) (hd := by omega) (hC := hC) (o_me := o_me) (t_me := t_me) (h_a0 := by omega)) (fun o V_q hq => ?_)
      obtain ⟨r12, rfl, rfl, b13, -⟩ := hq
      refine Or.inr (Or.inl ⟨_, rfl, ?_⟩)
      refine jx_ar (pc_q := 38) (st_q := [.int (i32 (-1)), .int (i32 (r12))]) rfl rfl rfl rfl ?_
      refine jx_icmp_eq (pc_q := 41) (tg := 57) rfl rfl rfl (by omega) (by omega) (by decide) (by decide) (fun h14 => ?_) (fun h14 => ?_)
      · have _q := h14
        refine jx_ar (pc_q := 58) (st_q := [.int (i32 (0))]) rfl rfl rfl rfl ?_
        refine jx_rt (v := some (.int (i32 (0)))) rfl rfl rfl rfl rfl (by first | rfl | exact jRet_b (by omega)) ?_
        exact ⟨(0), rfl, rfl, by omega, trivial⟩
      · have _q := h14
        refine jx_ld (pc_q := 42) (l_q := L6) (st_q := [rv (me)]) rfl (jl_rvn g7) ?_
        refine jx_ld (pc_q := 43) (l_q := L6) (st_q := [.int (i32 (a0)), rv (me)]) rfl (jl_iloadn g8) ?_
        refine cx_vi (c := 2) (a := me) (st := []) (as := [.int (i32 (a0))]) rfl rfl rfl o_me t_me (by decide) rfl ⟨rfl, rfl, (Nat.le_of_ble_eq_true rfl)⟩ rfl (k_LCore_peek (dd := d) (R := R) (m := m) (tg := tg) (ln := ln) (F := F) (me := me) (a0 := a0) (hd := by omega) (hC := hC) (o_me := o_me) (t_me := t_me) (h_a0 := by omega)) (fun o V_q hq => ?_)
        obtain ⟨r15, rfl, rfl, b16, -⟩ := hq
        refine Or.inr (Or.inl ⟨_, rfl, ?_⟩)
        refine jx_ld (pc_q := 47) (l_q := L6) (st_q := [rv (me), .int (i32 (r15))]) rfl (jl_rvn g7) ?_
        refine cx_vi (c := 2) (a := me) (st := [.int (i32 (r15))]) (as := []) rfl rfl rfl o_me t_me (by decide) rfl ⟨rfl, rfl, (by rw [jS_i, jS_0]; exact Nat.le_of_ble_eq_true rfl)⟩ rfl (k_LCore_self (dd := d) (R := R) (m := m) (tg := tg) (ln := ln) (F := F) (me := me) (hd := by omega) (hC := hC) (o_me := o_me) (t_me := t_me)) (fun o V_q hq => ?_)
        obtain ⟨r17, rfl, rfl, b18, -⟩ := hq
        refine Or.inr (Or.inl ⟨_, rfl, ?_⟩)
        refine jx_icmp_eq (pc_q := 53) (tg := 57) rfl rfl rfl (by omega) (by omega) (by omega) (by omega) (fun h19 => ?_) (fun h19 => ?_)
        · have _q := h19
          refine jx_ar (pc_q := 58) (st_q := [.int (i32 (0))]) rfl rfl rfl rfl ?_
          refine jx_rt (v := some (.int (i32 (0)))) rfl rfl rfl rfl rfl (by first | rfl | exact jRet_b (by omega)) ?_
          exact ⟨(0), rfl, rfl, by omega, trivial⟩
        · have _q := h19
          refine jx_ar (pc_q := 54) (st_q := [.int (i32 (1))]) rfl rfl rfl rfl ?_
          refine jx_go (tg := 58) rfl rfl ?_
          refine jx_rt (v := some (.int (i32 (1)))) rfl rfl rfl rfl rfl (by first | rfl | exact jRet_b (by omega)) ?_
          exact ⟨(1), rfl, rfl, by omega, trivial⟩
    · have _q := h11
      have ho20 : own m (r4) ∧ tg (r4) = 5 := b5.resolve_left h11
      refine jx_ld (pc_q := 28) (l_q := L6) (st_q := [rv (r4)]) rfl (jl_rvn g9) ?_
      refine cx_vi (c := 4) (a := r4) (st := []) (as := []) rfl rfl rfl ho20.1 ho20.2 (by decide) rfl ⟨rfl, rfl, (Nat.le_of_ble_eq_true rfl)⟩ rfl (k_LLink_isWhole (dd := d) (R := R) (m := m) (tg := tg) (ln := ln) (F := F) (me := r4) (hd := by omega) (hC := hC) (o_me := ho20.1) (t_me := ho20.2)) (fun o V_q hq => ?_)
      obtain ⟨r21, rfl, rfl, b22, -⟩ := hq
      refine Or.inr (Or.inl ⟨_, rfl, ?_⟩)
      refine jx_rt (v := some (.int (i32 (r21)))) rfl rfl rfl rfl rfl (by first | rfl | exact jRet_b (by omega)) ?_
      exact ⟨(r21), rfl, rfl, by omega, trivial⟩
  · have _q := h10
    refine jx_ld (pc_q := 16) (l_q := L6) (st_q := [rv (me)]) rfl (jl_rvn g7) ?_
    refine cx_gr (pc_q := 19) (c := 2) (q := 0) (v := F (me) (0 : Int)) rfl rfl (by decide) (by decide) rfl rfl o_me t_me rfl ?_
    refine cx_vi (c := 5) (a := F (me) (0 : Int)) (st := []) (as := []) rfl rfl rfl y3.1 y3.2.1 (by decide) rfl ⟨rfl, rfl, (Nat.le_of_ble_eq_true rfl)⟩ rfl (k_LMachine_hasInput (dd := d) (R := R) (m := m) (tg := tg) (ln := ln) (F := F) (me := F (me) (0 : Int)) (hd := by omega) (hC := hC) (o_me := y3.1) (t_me := y3.2.1)) (fun o V_q hq => ?_)
    obtain ⟨r23, rfl, rfl, b24, -⟩ := hq
    refine Or.inr (Or.inl ⟨_, rfl, ?_⟩)
    refine jx_rt (v := some (.int (i32 (r23)))) rfl rfl rfl rfl rfl (by first | rfl | exact jRet_b (by omega)) ?_
    exact ⟨(r23), rfl, rfl, by omega, trivial⟩
set_option maxRecDepth 20000 in
set_option maxHeartbeats 4000000 in
theorem k_LCore_choose {X : jX} {dd : Nat} {R : Nat → jC} {m : Nat} {tg ln : Int → Int} {F : Int → Int → Int} {me a0 a1 : Int} (hd : 2 ≤ dd) (hC : HC 0 m tg ln F) (o_me : own m me) (t_me : tg me = 3) (h_a0 : (-2147483648 : Int) ≤ a0 ∧ a0 ≤ 2147483647) (h_a1 : (-2147483648 : Int) ≤ a1 ∧ a1 ≤ 2147483647) : wk X dd 121 [rv me, .int (i32 a0), .int (i32 a1)] (cV R m tg ln F) (fun o V_q => ∃ (F_q : Int → Int → Int), V_q = cV R m tg ln F_q ∧ o = .inl none ∧ HC 0 m tg ln F_q ∧ Fq 0 [(21, -5)] m tg F F_q ∧ True) := by
  obtain ⟨d, rfl⟩ : ∃ d, dd = d + 1 := ⟨dd - 1, by omega⟩
  refine wk_of (e := jm121) rfl (by rw [jS_r, jS_i, jS_i, jS_0]; exact Nat.le_of_ble_eq_true rfl) ?_
  rw [la_r, la_i, la_i, la_0]
  show wj X d jm121 (0, [(0, rv (me)), (1, .int (i32 (a0))), (2, .int (i32 (a1)))], [], cV R m tg ln F) _
  have hM0 : Fq 0 [(21, -5)] m tg F F := Fq_r
  obtain ⟨L0, eL0⟩ : ∃ q : jL, q = [(0, rv (me)), (1, .int (i32 (a0))), (2, .int (i32 (a1)))] := ⟨_, rfl⟩
  rw [← eL0]
  have g1 : jGet L0 0 = some (rv (me)) := eL0 ▸ (rfl : jGet [(0, rv (me)), (1, .int (i32 (a0))), (2, .int (i32 (a1)))] 0 = some (rv (me)))
  have g2 : jGet L0 1 = some (.int (i32 (a0))) := eL0 ▸ (rfl : jGet [(0, rv (me)), (1, .int (i32 (a0))), (2, .int (i32 (a1)))] 1 = some (.int (i32 (a0))))
  have g3 : jGet L0 2 = some (.int (i32 (a1))) := eL0 ▸ (rfl : jGet [(0, rv (me)), (1, .int (i32 (a0))), (2, .int (i32 (a1)))] 2 = some (.int (i32 (a1))))
  clear eL0
  refine jx_ld (pc_q := 1) (l_q := L0) (st_q := [.int (i32 (a0))]) rfl (jl_iloadn g2) ?_
  refine jx_if_eq (pc_q := 4) (tg := 25) rfl rfl rfl (by omega) (by omega) (fun h4 => ?_) (fun h4 => ?_)
  · have _q := h4
    refine jx_rt (v := none) rfl rfl rfl rfl rfl rfl ?_
    exact ⟨F, rfl, rfl, hC, hM0, trivial⟩
  · have _q := h4
    refine jx_ld (pc_q := 5) (l_q := L0) (st_q := [rv (me)]) rfl (jl_rvn g1) ?_
    refine jx_ld (pc_q := 6) (l_q := L0) (st_q := [rv (me), rv (me)]) rfl (jl_rvn g1) ?_
    refine cx_gi (pc_q := 9) (c := 2) (q := 9) (v := F (me) (9 : Int)) rfl rfl (by decide) (by decide) (Or.inl rfl) rfl o_me t_me rfl ?_
    have b5 : (-2147483648 : Int) ≤ F (me) (9 : Int) ∧ F (me) (9 : Int) ≤ 2147483647 := by have z := HC_i (c := 2) (q := 9) hC o_me t_me (by decide) rfl; rw [show F (me) ((9 : Nat) : Int) = F (me) (9 : Int) from rfl] at z; exact z
    refine cx_vi (c := 2) (a := me) (st := []) (as := [.int (i32 (F (me) (9 : Int)))]) rfl rfl rfl o_me t_me (by decide) rfl ⟨rfl, rfl, (Nat.le_of_ble_eq_true rfl)⟩ rfl (k_LCore_peek (dd := d) (R := R) (m := m) (tg := tg) (ln := ln) (F := F) (me := me) (a0 := F (me) (9 : Int)) (hd := by omega) (hC := hC) (o_me := o_me) (t_me := t_me) (h_a0 := by omega)) (fun o V_q hq => ?_)
    obtain ⟨r6, rfl, rfl, b7, -⟩ := hq
    refine Or.inr (Or.inl ⟨_, rfl, ?_⟩)
    refine jx_ar (pc_q := 13) (st_q := [.int (i32 (-1)), .int (i32 (r6))]) rfl rfl rfl rfl ?_
    refine jx_icmp_ne (pc_q := 16) (tg := 25) rfl rfl rfl (by omega) (by omega) (by decide) (by decide) (fun h8 => ?_) (fun h8 => ?_)
    · have _q := h8
      refine jx_rt (v := none) rfl rfl rfl rfl rfl rfl ?_
      exact ⟨F, rfl, rfl, hC, hM0, trivial⟩
    · have _q := h8
      refine jx_ld (pc_q := 17) (l_q := L0) (st_q := [rv (me)]) rfl (jl_rvn g1) ?_
      refine jx_ld (pc_q := 18) (l_q := L0) (st_q := [rv (me), rv (me)]) rfl (jl_rvn g1) ?_
      refine cx_gi (pc_q := 21) (c := 2) (q := 9) (v := F (me) (9 : Int)) rfl rfl (by decide) (by decide) (Or.inl rfl) rfl o_me t_me rfl ?_
      refine jx_ld (pc_q := 22) (l_q := L0) (st_q := [.int (i32 (a1)), .int (i32 (F (me) (9 : Int))), rv (me)]) rfl (jl_iloadn g3) ?_
      refine cx_vi (c := 2) (a := me) (st := []) (as := [.int (i32 (F (me) (9 : Int))), .int (i32 (a1))]) rfl rfl rfl o_me t_me (by decide) rfl ⟨rfl, rfl, (Nat.le_of_ble_eq_true rfl)⟩ rfl (k_LCore_poke (dd := d) (R := R) (m := m) (tg := tg) (ln := ln) (F := F) (me := me) (a0 := F (me) (9 : Int)) (a1 := a1) (hd := by omega) (hC := hC) (o_me := o_me) (t_me := t_me) (h_a0 := by omega) (h_a1 := by omega)) (fun o V_q hq => ?_)
      obtain ⟨F9, rfl, rfl, hC10, hM11, -⟩ := hq
      have hM12 : Fq 0 [(21, -5)] m tg F F9 := Fq_t (ln := ln) (ln1 := ln) hM0 Ex_r hM11 (by decide) (Or.inl rfl)
      refine Or.inl ⟨rfl, ?_⟩
      refine jx_rt (v := none) rfl rfl rfl rfl rfl rfl ?_
      exact ⟨F9, rfl, rfl, hC10, hM12, trivial⟩
set_option maxRecDepth 20000 in
set_option maxHeartbeats 4000000 in
theorem k_LCore_enable {X : jX} {dd : Nat} {R : Nat → jC} {m : Nat} {tg ln : Int → Int} {F : Int → Int → Int} {me : Int} (hd : 3 ≤ dd) (hC : HC 0 m tg ln F) (o_me : own m me) (t_me : tg me = 3) : wk X dd 119 [rv me] (cV R m tg ln F) (fun o V_q => ∃ (F_q : Int → Int → Int), V_q = cV R m tg ln F_q ∧ o = .inl none ∧ HC 0 m tg ln F_q ∧ Fq 0 [(3, 5), (3, 6), (21, -5)] m tg F F_q ∧ True) := by
  obtain ⟨d, rfl⟩ : ∃ d, dd = d + 1 := ⟨dd - 1, by omega⟩
  refine wk_of (e := jm119) rfl (by rw [jS_r, jS_0]; exact Nat.le_of_ble_eq_true rfl) ?_
  rw [la_r, la_0]
  show wj X d jm119 (0, [(0, rv (me))], [], cV R m tg ln F) _
  have hM0 : Fq 0 [(3, 5), (3, 6), (21, -5)] m tg F F := Fq_r
  obtain ⟨L0, eL0⟩ : ∃ q : jL, q = [(0, rv (me))] := ⟨_, rfl⟩
  rw [← eL0]
  have g1 : jGet L0 0 = some (rv (me)) := eL0 ▸ (rfl : jGet [(0, rv (me))] 0 = some (rv (me)))
  clear eL0
  refine jx_ld (pc_q := 1) (l_q := L0) (st_q := [rv (me)]) rfl (jl_rvn g1) ?_
  refine cx_gi (pc_q := 4) (c := 2) (q := 5) (v := F (me) (5 : Int)) rfl rfl (by decide) (by decide) (Or.inl rfl) rfl o_me t_me rfl ?_
  have b2 : (-2147483648 : Int) ≤ F (me) (5 : Int) ∧ F (me) (5 : Int) ≤ 2147483647 := by have z := HC_i (c := 2) (q := 5) hC o_me t_me (by decide) rfl; rw [show F (me) ((5 : Nat) : Int) = F (me) (5 : Int) from rfl] at z; exact z
  refine jx_ld (pc_q := 5) (l_q := jSto1 L0 1 (.int (i32 (F (me) (5 : Int))))) (st_q := []) rfl rfl ?_
  obtain ⟨L3, eL3⟩ : ∃ q : jL, q = jSto1 L0 1 (.int (i32 (F (me) (5 : Int)))) := ⟨_, rfl⟩
  rw [← eL3]
  have g4 : jGet L3 0 = some (rv (me)) := eL3 ▸ jg_nr (by decide) g1
  have g5 : jGet L3 1 = some (.int (i32 (F (me) (5 : Int)))) := eL3 ▸ jg_eq
  clear eL3
  refine jx_ld (pc_q := 6) (l_q := L3) (st_q := [rv (me)]) rfl (jl_rvn g4) ?_
  refine cx_vi (c := 2) (a := me) (st := []) (as := []) rfl rfl rfl o_me t_me (by decide) rfl ⟨rfl, rfl, (Nat.le_of_ble_eq_true rfl)⟩ rfl (k_LCore_drop (dd := d) (R := R) (m := m) (tg := tg) (ln := ln) (F := F) (me := me) (hd := by omega) (hC := hC) (o_me := o_me) (t_me := t_me)) (fun o V_q hq => ?_)
  obtain ⟨F6, rfl, rfl, hC7, hM8, -⟩ := hq
  have hM9 : Fq 0 [(3, 5), (3, 6), (21, -5)] m tg F F6 := Fq_t (ln := ln) (ln1 := ln) hM0 Ex_r hM8 (by decide) (Or.inl rfl)
  refine Or.inl ⟨rfl, ?_⟩
  refine jx_ld (pc_q := 10) (l_q := L3) (st_q := [rv (me)]) rfl (jl_rvn g4) ?_
  refine cx_gi (pc_q := 13) (c := 2) (q := 5) (v := F6 (me) (5 : Int)) rfl rfl (by decide) (by decide) (Or.inl rfl) rfl o_me t_me rfl ?_
  have b10 : (-2147483648 : Int) ≤ F6 (me) (5 : Int) ∧ F6 (me) (5 : Int) ≤ 2147483647 := by have z := HC_i (c := 2) (q := 5) hC7 o_me t_me (by decide) rfl; rw [show F6 (me) ((5 : Nat) : Int) = F6 (me) (5 : Int) from rfl] at z; exact z
  refine jx_if_ne (pc_q := 16) (tg := 17) rfl rfl rfl (by omega) (by omega) (fun h11 => ?_) (fun h11 => ?_)
  · have _q := h11
    refine jx_ld (pc_q := 18) (l_q := L3) (st_q := [rv (me)]) rfl (jl_rvn g4) ?_
    refine jx_ld (pc_q := 19) (l_q := L3) (st_q := [.int (i32 (F (me) (5 : Int))), rv (me)]) rfl (jl_iloadn g5) ?_
    refine cx_vi (c := 2) (a := me) (st := []) (as := [.int (i32 (F (me) (5 : Int)))]) rfl rfl rfl o_me t_me (by decide) rfl ⟨rfl, rfl, (Nat.le_of_ble_eq_true rfl)⟩ rfl (k_LCore_offers (dd := d) (R := R) (m := m) (tg := tg) (ln := ln) (F := F6) (me := me) (a0 := F (me) (5 : Int)) (hd := by omega) (hC := hC7) (o_me := o_me) (t_me := t_me) (h_a0 := by omega)) (fun o V_q hq => ?_)
    obtain ⟨r12, rfl, rfl, b13, -⟩ := hq
    refine Or.inr (Or.inl ⟨_, rfl, ?_⟩)
    refine jx_if_eq (pc_q := 25) (tg := 39) rfl rfl rfl (by omega) (by omega) (fun h14 => ?_) (fun h14 => ?_)
    · have _q := h14
      refine jx_ld (pc_q := 40) (l_q := L3) (st_q := [rv (me)]) rfl (jl_rvn g4) ?_
      refine jx_ld (pc_q := 41) (l_q := L3) (st_q := [.int (i32 (F (me) (5 : Int))), rv (me)]) rfl (jl_iloadn g5) ?_
      refine cx_vi (c := 2) (a := me) (st := []) (as := [.int (i32 (F (me) (5 : Int)))]) rfl rfl rfl o_me t_me (by decide) rfl ⟨rfl, rfl, (Nat.le_of_ble_eq_true rfl)⟩ rfl (k_LCore_peek (dd := d) (R := R) (m := m) (tg := tg) (ln := ln) (F := F6) (me := me) (a0 := F (me) (5 : Int)) (hd := by omega) (hC := hC7) (o_me := o_me) (t_me := t_me) (h_a0 := by omega)) (fun o V_q hq => ?_)
      obtain ⟨r15, rfl, rfl, b16, -⟩ := hq
      refine Or.inr (Or.inl ⟨_, rfl, ?_⟩)
      refine jx_ar (pc_q := 45) (st_q := [.int (i32 (-1)), .int (i32 (r15))]) rfl rfl rfl rfl ?_
      refine jx_icmp_ne (pc_q := 48) (tg := 57) rfl rfl rfl (by omega) (by omega) (by decide) (by decide) (fun h17 => ?_) (fun h17 => ?_)
      · have _q := h17
        refine jx_rt (v := none) rfl rfl rfl rfl rfl rfl ?_
        exact ⟨F6, rfl, rfl, hC7, hM9, trivial⟩
      · have _q := h17
        refine jx_ld (pc_q := 49) (l_q := L3) (st_q := [rv (me)]) rfl (jl_rvn g4) ?_
        refine jx_ld (pc_q := 50) (l_q := L3) (st_q := [.int (i32 (F (me) (5 : Int))), rv (me)]) rfl (jl_iloadn g5) ?_
        refine jx_ld (pc_q := 51) (l_q := L3) (st_q := [rv (me), .int (i32 (F (me) (5 : Int))), rv (me)]) rfl (jl_rvn g4) ?_
        refine cx_vi (c := 2) (a := me) (st := [.int (i32 (F (me) (5 : Int))), rv (me)]) (as := []) rfl rfl rfl o_me t_me (by decide) rfl ⟨rfl, rfl, (by rw [jS_i, jS_r, jS_0]; exact Nat.le_of_ble_eq_true rfl)⟩ rfl (k_LCore_self (dd := d) (R := R) (m := m) (tg := tg) (ln := ln) (F := F6) (me := me) (hd := by omega) (hC := hC7) (o_me := o_me) (t_me := t_me)) (fun o V_q hq => ?_)
        obtain ⟨r18, rfl, rfl, b19, -⟩ := hq
        refine Or.inr (Or.inl ⟨_, rfl, ?_⟩)
        refine cx_vi (c := 2) (a := me) (st := []) (as := [.int (i32 (F (me) (5 : Int))), .int (i32 (r18))]) rfl rfl rfl o_me t_me (by decide) rfl ⟨rfl, rfl, (Nat.le_of_ble_eq_true rfl)⟩ rfl (k_LCore_poke (dd := d) (R := R) (m := m) (tg := tg) (ln := ln) (F := F6) (me := me) (a0 := F (me) (5 : Int)) (a1 := r18) (hd := by omega) (hC := hC7) (o_me := o_me) (t_me := t_me) (h_a0 := by omega) (h_a1 := by omega)) (fun o V_q hq => ?_)
        obtain ⟨F20, rfl, rfl, hC21, hM22, -⟩ := hq
        have hM23 : Fq 0 [(3, 5), (3, 6), (21, -5)] m tg F F20 := Fq_t (ln := ln) (ln1 := ln) hM9 Ex_r hM22 (by decide) (Or.inl rfl)
        refine Or.inl ⟨rfl, ?_⟩
        refine jx_rt (v := none) rfl rfl rfl rfl rfl rfl ?_
        exact ⟨F20, rfl, rfl, hC21, hM23, trivial⟩
    · have _q := h14
      refine jx_ld (pc_q := 26) (l_q := L3) (st_q := [rv (me)]) rfl (jl_rvn g4) ?_
      refine jx_ld (pc_q := 27) (l_q := L3) (st_q := [rv (me), rv (me)]) rfl (jl_rvn g4) ?_
      refine cx_gi (pc_q := 30) (c := 2) (q := 9) (v := F (me) (9 : Int)) rfl rfl (by decide) (by decide) (Or.inl rfl) rfl o_me t_me (show F6 (me) (9 : Int) = F (me) (9 : Int) from hM8 _ _ o_me (own_z o_me) (by rw [t_me]; rfl)) ?_
      have b24 : (-2147483648 : Int) ≤ F (me) (9 : Int) ∧ F (me) (9 : Int) ≤ 2147483647 := by have z := HC_i (c := 2) (q := 9) hC7 o_me t_me (by decide) rfl; rw [show F6 (me) ((9 : Nat) : Int) = F (me) (9 : Int) from (show F6 (me) (9 : Int) = F (me) (9 : Int) from hM8 _ _ o_me (own_z o_me) (by rw [t_me]; rfl))] at z; exact z
      refine jx_ar (pc_q := 31) (st_q := [.int (i32 (3)), .int (i32 (F (me) (9 : Int))), rv (me)]) rfl rfl rfl rfl ?_
      refine jx_sub (pc_q := 32) rfl rfl ?_
      obtain ⟨z25, ez25⟩ : ∃ q, q = (i32 ((F (me) (9 : Int) - 3))).toInt := ⟨_, rfl⟩
      have bz25 : (-2147483648 : Int) ≤ z25 ∧ z25 ≤ 2147483647 := ez25 ▸ i32_rg _
      rw [show i32 ((F (me) (9 : Int) - 3)) = i32 z25 by rw [ez25, i32_of]]
      clear ez25
      refine jx_ar (pc_q := 33) (st_q := [.int (i32 (3)), .int (i32 (z25)), rv (me)]) rfl rfl rfl rfl ?_
      refine cx_vi (c := 2) (a := me) (st := []) (as := [.int (i32 (z25)), .int (i32 (3))]) rfl rfl rfl o_me t_me (by decide) rfl ⟨rfl, rfl, (Nat.le_of_ble_eq_true rfl)⟩ rfl (k_LCore_poke (dd := d) (R := R) (m := m) (tg := tg) (ln := ln) (F := F6) (me := me) (a0 := z25) (a1 := 3) (hd := by omega) (hC := hC7) (o_me := o_me) (t_me := t_me) (h_a0 := by omega) (h_a1 := by omega)) (fun o V_q hq => ?_)
      obtain ⟨F26, rfl, rfl, hC27, hM28, -⟩ := hq
      have hM29 : Fq 0 [(3, 5), (3, 6), (21, -5)] m tg F F26 := Fq_t (ln := ln) (ln1 := ln) hM9 Ex_r hM28 (by decide) (Or.inl rfl)
      refine Or.inl ⟨rfl, ?_⟩
      refine jx_go (tg := 57) rfl rfl ?_
      refine jx_rt (v := none) rfl rfl rfl rfl rfl rfl ?_
      exact ⟨F26, rfl, rfl, hC27, hM29, trivial⟩
  · have _q := h11
    refine jx_rt (v := none) rfl rfl rfl rfl rfl rfl ?_
    exact ⟨F6, rfl, rfl, hC7, hM9, trivial⟩
set_option maxRecDepth 20000 in
set_option maxHeartbeats 4000000 in
theorem k_LCore_disable {X : jX} {dd : Nat} {R : Nat → jC} {m : Nat} {tg ln : Int → Int} {F : Int → Int → Int} {me : Int} (hd : 3 ≤ dd) (hC : HC 0 m tg ln F) (o_me : own m me) (t_me : tg me = 3) : wk X dd 120 [rv me] (cV R m tg ln F) (fun o V_q => ∃ (F_q : Int → Int → Int), V_q = cV R m tg ln F_q ∧ o = .inl none ∧ HC 0 m tg ln F_q ∧ Fq 0 [(3, 5), (3, 6), (21, -5)] m tg F F_q ∧ True) := by
  obtain ⟨d, rfl⟩ : ∃ d, dd = d + 1 := ⟨dd - 1, by omega⟩
  refine wk_of (e := jm120) rfl (by rw [jS_r, jS_0]; exact Nat.le_of_ble_eq_true rfl) ?_
  rw [la_r, la_0]
  show wj X d jm120 (0, [(0, rv (me))], [], cV R m tg ln F) _
  have hM0 : Fq 0 [(3, 5), (3, 6), (21, -5)] m tg F F := Fq_r
  obtain ⟨L0, eL0⟩ : ∃ q : jL, q = [(0, rv (me))] := ⟨_, rfl⟩
  rw [← eL0]
  have g1 : jGet L0 0 = some (rv (me)) := eL0 ▸ (rfl : jGet [(0, rv (me))] 0 = some (rv (me)))
  clear eL0
  refine jx_ld (pc_q := 1) (l_q := L0) (st_q := [rv (me)]) rfl (jl_rvn g1) ?_
  refine cx_gi (pc_q := 4) (c := 2) (q := 5) (v := F (me) (5 : Int)) rfl rfl (by decide) (by decide) (Or.inl rfl) rfl o_me t_me rfl ?_
  have b2 : (-2147483648 : Int) ≤ F (me) (5 : Int) ∧ F (me) (5 : Int) ≤ 2147483647 := by have z := HC_i (c := 2) (q := 5) hC o_me t_me (by decide) rfl; rw [show F (me) ((5 : Nat) : Int) = F (me) (5 : Int) from rfl] at z; exact z
  refine jx_ld (pc_q := 5) (l_q := jSto1 L0 1 (.int (i32 (F (me) (5 : Int))))) (st_q := []) rfl rfl ?_
  obtain ⟨L3, eL3⟩ : ∃ q : jL, q = jSto1 L0 1 (.int (i32 (F (me) (5 : Int)))) := ⟨_, rfl⟩
  rw [← eL3]
  have g4 : jGet L3 0 = some (rv (me)) := eL3 ▸ jg_nr (by decide) g1
  have g5 : jGet L3 1 = some (.int (i32 (F (me) (5 : Int)))) := eL3 ▸ jg_eq
  clear eL3
  refine jx_ld (pc_q := 6) (l_q := L3) (st_q := [rv (me)]) rfl (jl_rvn g4) ?_
  refine cx_gi (pc_q := 9) (c := 2) (q := 6) (v := F (me) (6 : Int)) rfl rfl (by decide) (by decide) (Or.inl rfl) rfl o_me t_me rfl ?_
  have b6 : (-2147483648 : Int) ≤ F (me) (6 : Int) ∧ F (me) (6 : Int) ≤ 2147483647 := by have z := HC_i (c := 2) (q := 6) hC o_me t_me (by decide) rfl; rw [show F (me) ((6 : Nat) : Int) = F (me) (6 : Int) from rfl] at z; exact z
  refine jx_ld (pc_q := 10) (l_q := jSto1 L3 2 (.int (i32 (F (me) (6 : Int))))) (st_q := []) rfl rfl ?_
  obtain ⟨L7, eL7⟩ : ∃ q : jL, q = jSto1 L3 2 (.int (i32 (F (me) (6 : Int)))) := ⟨_, rfl⟩
  rw [← eL7]
  have g8 : jGet L7 0 = some (rv (me)) := eL7 ▸ jg_nr (by decide) g4
  have g9 : jGet L7 1 = some (.int (i32 (F (me) (5 : Int)))) := eL7 ▸ jg_ne (by decide) g5 rfl
  have g10 : jGet L7 2 = some (.int (i32 (F (me) (6 : Int)))) := eL7 ▸ jg_eq
  clear eL7
  refine jx_ld (pc_q := 11) (l_q := L7) (st_q := [rv (me)]) rfl (jl_rvn g8) ?_
  refine cx_gi (pc_q := 14) (c := 2) (q := 7) (v := F (me) (7 : Int)) rfl rfl (by decide) (by decide) (Or.inl rfl) rfl o_me t_me rfl ?_
  have b11 : (-2147483648 : Int) ≤ F (me) (7 : Int) ∧ F (me) (7 : Int) ≤ 2147483647 := by have z := HC_i (c := 2) (q := 7) hC o_me t_me (by decide) rfl; rw [show F (me) ((7 : Nat) : Int) = F (me) (7 : Int) from rfl] at z; exact z
  refine jx_ld (pc_q := 15) (l_q := jSto1 L7 3 (.int (i32 (F (me) (7 : Int))))) (st_q := []) rfl rfl ?_
  obtain ⟨L12, eL12⟩ : ∃ q : jL, q = jSto1 L7 3 (.int (i32 (F (me) (7 : Int)))) := ⟨_, rfl⟩
  rw [← eL12]
  have g13 : jGet L12 0 = some (rv (me)) := eL12 ▸ jg_nr (by decide) g8
  have g14 : jGet L12 1 = some (.int (i32 (F (me) (5 : Int)))) := eL12 ▸ jg_ne (by decide) g9 rfl
  have g15 : jGet L12 2 = some (.int (i32 (F (me) (6 : Int)))) := eL12 ▸ jg_ne (by decide) g10 rfl
  have g16 : jGet L12 3 = some (.int (i32 (F (me) (7 : Int)))) := eL12 ▸ jg_eq
  clear eL12
  refine jx_ld (pc_q := 16) (l_q := L12) (st_q := [rv (me)]) rfl (jl_rvn g13) ?_
  refine cx_vi (c := 2) (a := me) (st := []) (as := []) rfl rfl rfl o_me t_me (by decide) rfl ⟨rfl, rfl, (Nat.le_of_ble_eq_true rfl)⟩ rfl (k_LCore_dropTwo (dd := d) (R := R) (m := m) (tg := tg) (ln := ln) (F := F) (me := me) (hd := by omega) (hC := hC) (o_me := o_me) (t_me := t_me)) (fun o V_q hq => ?_)
  obtain ⟨F17, rfl, rfl, hC18, hM19, -⟩ := hq
  have hM20 : Fq 0 [(3, 5), (3, 6), (21, -5)] m tg F F17 := Fq_t (ln := ln) (ln1 := ln) hM0 Ex_r hM19 (by decide) (Or.inl rfl)
  refine Or.inl ⟨rfl, ?_⟩
  refine jx_ld (pc_q := 20) (l_q := L12) (st_q := [rv (me)]) rfl (jl_rvn g13) ?_
  refine cx_vi (c := 2) (a := me) (st := []) (as := []) rfl rfl rfl o_me t_me (by decide) rfl ⟨rfl, rfl, (Nat.le_of_ble_eq_true rfl)⟩ rfl (k_LCore_drop (dd := d) (R := R) (m := m) (tg := tg) (ln := ln) (F := F17) (me := me) (hd := by omega) (hC := hC18) (o_me := o_me) (t_me := t_me)) (fun o V_q hq => ?_)
  obtain ⟨F21, rfl, rfl, hC22, hM23, -⟩ := hq
  have hM24 : Fq 0 [(3, 5), (3, 6), (21, -5)] m tg F F21 := Fq_t (ln := ln) (ln1 := ln) hM20 Ex_r hM23 (by decide) (Or.inl rfl)
  refine Or.inl ⟨rfl, ?_⟩
  refine jx_ld (pc_q := 24) (l_q := L12) (st_q := [.int (i32 (F (me) (6 : Int)))]) rfl (jl_iloadn g15) ?_
  refine jx_if_ne (pc_q := 27) (tg := 28) rfl rfl rfl (by omega) (by omega) (fun h25 => ?_) (fun h25 => ?_)
  · have _q := h25
    refine jx_ld (pc_q := 29) (l_q := L12) (st_q := [rv (me)]) rfl (jl_rvn g13) ?_
    refine jx_ld (pc_q := 30) (l_q := L12) (st_q := [.int (i32 (F (me) (5 : Int))), rv (me)]) rfl (jl_iloadn g14) ?_
    refine cx_vi (c := 2) (a := me) (st := []) (as := [.int (i32 (F (me) (5 : Int)))]) rfl rfl rfl o_me t_me (by decide) rfl ⟨rfl, rfl, (Nat.le_of_ble_eq_true rfl)⟩ rfl (k_LCore_offers (dd := d) (R := R) (m := m) (tg := tg) (ln := ln) (F := F21) (me := me) (a0 := F (me) (5 : Int)) (hd := by omega) (hC := hC22) (o_me := o_me) (t_me := t_me) (h_a0 := by omega)) (fun o V_q hq => ?_)
    obtain ⟨r26, rfl, rfl, b27, -⟩ := hq
    refine Or.inr (Or.inl ⟨_, rfl, ?_⟩)
    refine jx_ld (pc_q := 35) (l_q := jSto1 L12 4 (.int (i32 (r26)))) (st_q := []) rfl rfl ?_
    obtain ⟨L28, eL28⟩ : ∃ q : jL, q = jSto1 L12 4 (.int (i32 (r26))) := ⟨_, rfl⟩
    rw [← eL28]
    have g29 : jGet L28 0 = some (rv (me)) := eL28 ▸ jg_nr (by decide) g13
    have g30 : jGet L28 1 = some (.int (i32 (F (me) (5 : Int)))) := eL28 ▸ jg_ne (by decide) g14 rfl
    have g31 : jGet L28 2 = some (.int (i32 (F (me) (6 : Int)))) := eL28 ▸ jg_ne (by decide) g15 rfl
    have g32 : jGet L28 3 = some (.int (i32 (F (me) (7 : Int)))) := eL28 ▸ jg_ne (by decide) g16 rfl
    have g33 : jGet L28 4 = some (.int (i32 (r26))) := eL28 ▸ jg_eq
    clear eL28
    refine jx_ld (pc_q := 36) (l_q := L28) (st_q := [rv (me)]) rfl (jl_rvn g29) ?_
    refine jx_ld (pc_q := 37) (l_q := L28) (st_q := [.int (i32 (F (me) (5 : Int))), rv (me)]) rfl (jl_iloadn g30) ?_
    refine cx_vi (c := 2) (a := me) (st := []) (as := [.int (i32 (F (me) (5 : Int)))]) rfl rfl rfl o_me t_me (by decide) rfl ⟨rfl, rfl, (Nat.le_of_ble_eq_true rfl)⟩ rfl (k_LCore_peek (dd := d) (R := R) (m := m) (tg := tg) (ln := ln) (F := F21) (me := me) (a0 := F (me) (5 : Int)) (hd := by omega) (hC := hC22) (o_me := o_me) (t_me := t_me) (h_a0 := by omega)) (fun o V_q hq => ?_)
    obtain ⟨r34, rfl, rfl, b35, -⟩ := hq
    refine Or.inr (Or.inl ⟨_, rfl, ?_⟩)
    refine jx_ld (pc_q := 41) (l_q := L28) (st_q := [rv (me), .int (i32 (r34))]) rfl (jl_rvn g29) ?_
    refine cx_vi (c := 2) (a := me) (st := [.int (i32 (r34))]) (as := []) rfl rfl rfl o_me t_me (by decide) rfl ⟨rfl, rfl, (by rw [jS_i, jS_0]; exact Nat.le_of_ble_eq_true rfl)⟩ rfl (k_LCore_self (dd := d) (R := R) (m := m) (tg := tg) (ln := ln) (F := F21) (me := me) (hd := by omega) (hC := hC22) (o_me := o_me) (t_me := t_me)) (fun o V_q hq => ?_)
    obtain ⟨r36, rfl, rfl, b37, -⟩ := hq
    refine Or.inr (Or.inl ⟨_, rfl, ?_⟩)
    refine jx_icmp_ne (pc_q := 47) (tg := 53) rfl rfl rfl (by omega) (by omega) (by omega) (by omega) (fun h38 => ?_) (fun h38 => ?_)
    · have _q := h38
      refine jx_ld (pc_q := 54) (l_q := L28) (st_q := [rv (me)]) rfl (jl_rvn g29) ?_
      refine jx_ld (pc_q := 56) (l_q := L28) (st_q := [.int (i32 (r26)), rv (me)]) rfl (jl_iload g33) ?_
      refine jx_if_eq (pc_q := 59) (tg := 63) rfl rfl rfl (by omega) (by omega) (fun h39 => ?_) (fun h39 => ?_)
      · have _q := h39
        refine jx_ar (pc_q := 64) (st_q := [.int (i32 (0)), rv (me)]) rfl rfl rfl rfl ?_
        refine jx_ld (pc_q := 65) (l_q := L28) (st_q := [.int (i32 (F (me) (7 : Int))), .int (i32 (0)), rv (me)]) rfl (jl_iloadn g32) ?_
        refine cx_vi (c := 2) (a := me) (st := []) (as := [.int (i32 (0)), .int (i32 (F (me) (7 : Int)))]) rfl rfl rfl o_me t_me (by decide) rfl ⟨rfl, rfl, (Nat.le_of_ble_eq_true rfl)⟩ rfl (k_LCore_choose (dd := d) (R := R) (m := m) (tg := tg) (ln := ln) (F := F21) (me := me) (a0 := 0) (a1 := F (me) (7 : Int)) (hd := by omega) (hC := hC22) (o_me := o_me) (t_me := t_me) (h_a0 := by omega) (h_a1 := by omega)) (fun o V_q hq => ?_)
        obtain ⟨F40, rfl, rfl, hC41, hM42, -⟩ := hq
        have hM43 : Fq 0 [(3, 5), (3, 6), (21, -5)] m tg F F40 := Fq_t (ln := ln) (ln1 := ln) hM24 Ex_r hM42 (by decide) (Or.inl rfl)
        refine Or.inl ⟨rfl, ?_⟩
        refine jx_rt (v := none) rfl rfl rfl rfl rfl rfl ?_
        exact ⟨F40, rfl, rfl, hC41, hM43, trivial⟩
      · have _q := h39
        refine jx_ar (pc_q := 60) (st_q := [.int (i32 (1)), rv (me)]) rfl rfl rfl rfl ?_
        refine jx_go (tg := 64) rfl rfl ?_
        refine jx_ld (pc_q := 65) (l_q := L28) (st_q := [.int (i32 (F (me) (7 : Int))), .int (i32 (1)), rv (me)]) rfl (jl_iloadn g32) ?_
        refine cx_vi (c := 2) (a := me) (st := []) (as := [.int (i32 (1)), .int (i32 (F (me) (7 : Int)))]) rfl rfl rfl o_me t_me (by decide) rfl ⟨rfl, rfl, (Nat.le_of_ble_eq_true rfl)⟩ rfl (k_LCore_choose (dd := d) (R := R) (m := m) (tg := tg) (ln := ln) (F := F21) (me := me) (a0 := 1) (a1 := F (me) (7 : Int)) (hd := by omega) (hC := hC22) (o_me := o_me) (t_me := t_me) (h_a0 := by omega) (h_a1 := by omega)) (fun o V_q hq => ?_)
        obtain ⟨F44, rfl, rfl, hC45, hM46, -⟩ := hq
        have hM47 : Fq 0 [(3, 5), (3, 6), (21, -5)] m tg F F44 := Fq_t (ln := ln) (ln1 := ln) hM24 Ex_r hM46 (by decide) (Or.inl rfl)
        refine Or.inl ⟨rfl, ?_⟩
        refine jx_rt (v := none) rfl rfl rfl rfl rfl rfl ?_
        exact ⟨F44, rfl, rfl, hC45, hM47, trivial⟩
    · have _q := h38
      refine jx_ld (pc_q := 48) (l_q := L28) (st_q := [rv (me)]) rfl (jl_rvn g29) ?_
      refine jx_ld (pc_q := 49) (l_q := L28) (st_q := [.int (i32 (F (me) (5 : Int))), rv (me)]) rfl (jl_iloadn g30) ?_
      refine jx_ar (pc_q := 50) (st_q := [.int (i32 (-1)), .int (i32 (F (me) (5 : Int))), rv (me)]) rfl rfl rfl rfl ?_
      refine cx_vi (c := 2) (a := me) (st := []) (as := [.int (i32 (F (me) (5 : Int))), .int (i32 (-1))]) rfl rfl rfl o_me t_me (by decide) rfl ⟨rfl, rfl, (Nat.le_of_ble_eq_true rfl)⟩ rfl (k_LCore_poke (dd := d) (R := R) (m := m) (tg := tg) (ln := ln) (F := F21) (me := me) (a0 := F (me) (5 : Int)) (a1 := -1) (hd := by omega) (hC := hC22) (o_me := o_me) (t_me := t_me) (h_a0 := by omega) (h_a1 := by omega)) (fun o V_q hq => ?_)
      obtain ⟨F48, rfl, rfl, hC49, hM50, -⟩ := hq
      have hM51 : Fq 0 [(3, 5), (3, 6), (21, -5)] m tg F F48 := Fq_t (ln := ln) (ln1 := ln) hM24 Ex_r hM50 (by decide) (Or.inl rfl)
      refine Or.inl ⟨rfl, ?_⟩
      refine jx_ld (pc_q := 54) (l_q := L28) (st_q := [rv (me)]) rfl (jl_rvn g29) ?_
      refine jx_ld (pc_q := 56) (l_q := L28) (st_q := [.int (i32 (r26)), rv (me)]) rfl (jl_iload g33) ?_
      refine jx_if_eq (pc_q := 59) (tg := 63) rfl rfl rfl (by omega) (by omega) (fun h52 => ?_) (fun h52 => ?_)
      · have _q := h52
        refine jx_ar (pc_q := 64) (st_q := [.int (i32 (0)), rv (me)]) rfl rfl rfl rfl ?_
        refine jx_ld (pc_q := 65) (l_q := L28) (st_q := [.int (i32 (F (me) (7 : Int))), .int (i32 (0)), rv (me)]) rfl (jl_iloadn g32) ?_
        refine cx_vi (c := 2) (a := me) (st := []) (as := [.int (i32 (0)), .int (i32 (F (me) (7 : Int)))]) rfl rfl rfl o_me t_me (by decide) rfl ⟨rfl, rfl, (Nat.le_of_ble_eq_true rfl)⟩ rfl (k_LCore_choose (dd := d) (R := R) (m := m) (tg := tg) (ln := ln) (F := F48) (me := me) (a0 := 0) (a1 := F (me) (7 : Int)) (hd := by omega) (hC := hC49) (o_me := o_me) (t_me := t_me) (h_a0 := by omega) (h_a1 := by omega)) (fun o V_q hq => ?_)
        obtain ⟨F53, rfl, rfl, hC54, hM55, -⟩ := hq
        have hM56 : Fq 0 [(3, 5), (3, 6), (21, -5)] m tg F F53 := Fq_t (ln := ln) (ln1 := ln) hM51 Ex_r hM55 (by decide) (Or.inl rfl)
        refine Or.inl ⟨rfl, ?_⟩
        refine jx_rt (v := none) rfl rfl rfl rfl rfl rfl ?_
        exact ⟨F53, rfl, rfl, hC54, hM56, trivial⟩
      · have _q := h52
        refine jx_ar (pc_q := 60) (st_q := [.int (i32 (1)), rv (me)]) rfl rfl rfl rfl ?_
        refine jx_go (tg := 64) rfl rfl ?_
        refine jx_ld (pc_q := 65) (l_q := L28) (st_q := [.int (i32 (F (me) (7 : Int))), .int (i32 (1)), rv (me)]) rfl (jl_iloadn g32) ?_
        refine cx_vi (c := 2) (a := me) (st := []) (as := [.int (i32 (1)), .int (i32 (F (me) (7 : Int)))]) rfl rfl rfl o_me t_me (by decide) rfl ⟨rfl, rfl, (Nat.le_of_ble_eq_true rfl)⟩ rfl (k_LCore_choose (dd := d) (R := R) (m := m) (tg := tg) (ln := ln) (F := F48) (me := me) (a0 := 1) (a1 := F (me) (7 : Int)) (hd := by omega) (hC := hC49) (o_me := o_me) (t_me := t_me) (h_a0 := by omega) (h_a1 := by omega)) (fun o V_q hq => ?_)
        obtain ⟨F57, rfl, rfl, hC58, hM59, -⟩ := hq
        have hM60 : Fq 0 [(3, 5), (3, 6), (21, -5)] m tg F F57 := Fq_t (ln := ln) (ln1 := ln) hM51 Ex_r hM59 (by decide) (Or.inl rfl)
        refine Or.inl ⟨rfl, ?_⟩
        refine jx_rt (v := none) rfl rfl rfl rfl rfl rfl ?_
        exact ⟨F57, rfl, rfl, hC58, hM60, trivial⟩
  · have _q := h25
    refine jx_rt (v := none) rfl rfl rfl rfl rfl rfl ?_
    exact ⟨F21, rfl, rfl, hC22, hM24, trivial⟩
set_option maxRecDepth 20000 in
set_option maxHeartbeats 4000000 in
theorem k_LCore_alternate {X : jX} {dd : Nat} {R : Nat → jC} {m : Nat} {tg ln : Int → Int} {F : Int → Int → Int} {me a0 : Int} (hd : 4 ≤ dd) (hC : HC 0 m tg ln F) (o_me : own m me) (t_me : tg me = 3) (h_a0 : (-2147483648 : Int) ≤ a0 ∧ a0 ≤ 2147483647) : wk X dd 118 [rv me, .int (i32 a0)] (cV R m tg ln F) (fun o V_q => ∃ (F_q : Int → Int → Int), V_q = cV R m tg ln F_q ∧ o = .inl none ∧ HC 0 m tg ln F_q ∧ Fq 0 [(3, 5), (3, 6), (3, 7), (3, 8), (3, 9), (3, 10), (3, 11), (3, 19), (21, -5)] m tg F F_q ∧ True) := by
  obtain ⟨d, rfl⟩ : ∃ d, dd = d + 1 := ⟨dd - 1, by omega⟩
  refine wk_of (e := jm118) rfl (by rw [jS_r, jS_i, jS_0]; exact Nat.le_of_ble_eq_true rfl) ?_
  rw [la_r, la_i, la_0]
  show wj X d jm118 (0, [(0, rv (me)), (1, .int (i32 (a0)))], [], cV R m tg ln F) _
  have hM0 : Fq 0 [(3, 5), (3, 6), (3, 7), (3, 8), (3, 9), (3, 10), (3, 11), (3, 19), (21, -5)] m tg F F := Fq_r
  obtain ⟨L0, eL0⟩ : ∃ q : jL, q = [(0, rv (me)), (1, .int (i32 (a0)))] := ⟨_, rfl⟩
  rw [← eL0]
  have g1 : jGet L0 0 = some (rv (me)) := eL0 ▸ (rfl : jGet [(0, rv (me)), (1, .int (i32 (a0)))] 0 = some (rv (me)))
  have g2 : jGet L0 1 = some (.int (i32 (a0))) := eL0 ▸ (rfl : jGet [(0, rv (me)), (1, .int (i32 (a0)))] 1 = some (.int (i32 (a0))))
  clear eL0
  refine jx_ld (pc_q := 1) (l_q := L0) (st_q := [.int (i32 (a0))]) rfl (jl_iloadn g2) ?_
  by_cases h3 : a0 = 22
  · refine jx_swe (tg := 40) h3 rfl rfl rfl rfl ?_
    refine jx_ld (pc_q := 41) (l_q := L0) (st_q := [rv (me)]) rfl (jl_rvn g1) ?_
    refine jx_ld (pc_q := 42) (l_q := L0) (st_q := [rv (me), rv (me)]) rfl (jl_rvn g1) ?_
    refine cx_gi (pc_q := 45) (c := 2) (q := 9) (v := F (me) (9 : Int)) rfl rfl (by decide) (by decide) (Or.inl rfl) rfl o_me t_me rfl ?_
    have b4 : (-2147483648 : Int) ≤ F (me) (9 : Int) ∧ F (me) (9 : Int) ≤ 2147483647 := by have z := HC_i (c := 2) (q := 9) hC o_me t_me (by decide) rfl; rw [show F (me) ((9 : Nat) : Int) = F (me) (9 : Int) from rfl] at z; exact z
    refine jx_ar (pc_q := 46) (st_q := [.int (i32 (3)), .int (i32 (F (me) (9 : Int))), rv (me)]) rfl rfl rfl rfl ?_
    refine jx_sub (pc_q := 47) rfl rfl ?_
    obtain ⟨z5, ez5⟩ : ∃ q, q = (i32 ((F (me) (9 : Int) - 3))).toInt := ⟨_, rfl⟩
    have bz5 : (-2147483648 : Int) ≤ z5 ∧ z5 ≤ 2147483647 := ez5 ▸ i32_rg _
    rw [show i32 ((F (me) (9 : Int) - 3)) = i32 z5 by rw [ez5, i32_of]]
    clear ez5
    refine jx_ar (pc_q := 48) (st_q := [.int (i32 (1)), .int (i32 (z5)), rv (me)]) rfl rfl rfl rfl ?_
    refine cx_vi (c := 2) (a := me) (st := []) (as := [.int (i32 (z5)), .int (i32 (1))]) rfl rfl rfl o_me t_me (by decide) rfl ⟨rfl, rfl, (Nat.le_of_ble_eq_true rfl)⟩ rfl (k_LCore_poke (dd := d) (R := R) (m := m) (tg := tg) (ln := ln) (F := F) (me := me) (a0 := z5) (a1 := 1) (hd := by omega) (hC := hC) (o_me := o_me) (t_me := t_me) (h_a0 := by omega) (h_a1 := by omega)) (fun o V_q hq => ?_)
    obtain ⟨F6, rfl, rfl, hC7, hM8, -⟩ := hq
    have hM9 : Fq 0 [(3, 5), (3, 6), (3, 7), (3, 8), (3, 9), (3, 10), (3, 11), (3, 19), (21, -5)] m tg F F6 := Fq_t (ln := ln) (ln1 := ln) hM0 Ex_r hM8 (by decide) (Or.inl rfl)
    refine Or.inl ⟨rfl, ?_⟩
    refine jx_ld (pc_q := 52) (l_q := L0) (st_q := [rv (me)]) rfl (jl_rvn g1) ?_
    refine jx_ld (pc_q := 53) (l_q := L0) (st_q := [rv (me), rv (me)]) rfl (jl_rvn g1) ?_
    refine cx_gi (pc_q := 56) (c := 2) (q := 9) (v := F (me) (9 : Int)) rfl rfl (by decide) (by decide) (Or.inl rfl) rfl o_me t_me (show F6 (me) (9 : Int) = F (me) (9 : Int) from hM8 _ _ o_me (own_z o_me) (by rw [t_me]; rfl)) ?_
    refine jx_ar (pc_q := 57) (st_q := [.int (i32 (-1)), .int (i32 (F (me) (9 : Int))), rv (me)]) rfl rfl rfl rfl ?_
    refine cx_vi (c := 2) (a := me) (st := []) (as := [.int (i32 (F (me) (9 : Int))), .int (i32 (-1))]) rfl rfl rfl o_me t_me (by decide) rfl ⟨rfl, rfl, (Nat.le_of_ble_eq_true rfl)⟩ rfl (k_LCore_poke (dd := d) (R := R) (m := m) (tg := tg) (ln := ln) (F := F6) (me := me) (a0 := F (me) (9 : Int)) (a1 := -1) (hd := by omega) (hC := hC7) (o_me := o_me) (t_me := t_me) (h_a0 := by omega) (h_a1 := by omega)) (fun o V_q hq => ?_)
    obtain ⟨F10, rfl, rfl, hC11, hM12, -⟩ := hq
    have hM13 : Fq 0 [(3, 5), (3, 6), (3, 7), (3, 8), (3, 9), (3, 10), (3, 11), (3, 19), (21, -5)] m tg F F10 := Fq_t (ln := ln) (ln1 := ln) hM9 Ex_r hM12 (by decide) (Or.inl rfl)
    refine Or.inl ⟨rfl, ?_⟩
    refine jx_go (tg := 177) rfl rfl ?_
    refine jx_rt (v := none) rfl rfl rfl rfl rfl rfl ?_
    exact ⟨F10, rfl, rfl, hC11, hM13, trivial⟩
  by_cases h14 : a0 = 23
  · refine jx_swe (tg := 63) h14 rfl rfl rfl rfl ?_
    refine jx_ld (pc_q := 64) (l_q := L0) (st_q := [rv (me)]) rfl (jl_rvn g1) ?_
    refine cx_vi (c := 2) (a := me) (st := []) (as := []) rfl rfl rfl o_me t_me (by decide) rfl ⟨rfl, rfl, (Nat.le_of_ble_eq_true rfl)⟩ rfl (k_LCore_enable (dd := d) (R := R) (m := m) (tg := tg) (ln := ln) (F := F) (me := me) (hd := by omega) (hC := hC) (o_me := o_me) (t_me := t_me)) (fun o V_q hq => ?_)
    obtain ⟨F15, rfl, rfl, hC16, hM17, -⟩ := hq
    have hM18 : Fq 0 [(3, 5), (3, 6), (3, 7), (3, 8), (3, 9), (3, 10), (3, 11), (3, 19), (21, -5)] m tg F F15 := Fq_t (ln := ln) (ln1 := ln) hM0 Ex_r hM17 (by decide) (Or.inl rfl)
    refine Or.inl ⟨rfl, ?_⟩
    refine jx_go (tg := 177) rfl rfl ?_
    refine jx_rt (v := none) rfl rfl rfl rfl rfl rfl ?_
    exact ⟨F15, rfl, rfl, hC16, hM18, trivial⟩
  by_cases h19 : a0 = 24
  · refine jx_swe (tg := 70) h19 rfl rfl rfl rfl ?_
    refine jx_ld (pc_q := 71) (l_q := L0) (st_q := [rv (me)]) rfl (jl_rvn g1) ?_
    refine cx_gi (pc_q := 74) (c := 2) (q := 5) (v := F (me) (5 : Int)) rfl rfl (by decide) (by decide) (Or.inl rfl) rfl o_me t_me rfl ?_
    have b20 : (-2147483648 : Int) ≤ F (me) (5 : Int) ∧ F (me) (5 : Int) ≤ 2147483647 := by have z := HC_i (c := 2) (q := 5) hC o_me t_me (by decide) rfl; rw [show F (me) ((5 : Nat) : Int) = F (me) (5 : Int) from rfl] at z; exact z
    refine jx_if_eq (pc_q := 77) (tg := 177) rfl rfl rfl (by omega) (by omega) (fun h21 => ?_) (fun h21 => ?_)
    · have _q := h21
      refine jx_rt (v := none) rfl rfl rfl rfl rfl rfl ?_
      exact ⟨F, rfl, rfl, hC, hM0, trivial⟩
    · have _q := h21
      refine jx_ld (pc_q := 78) (l_q := L0) (st_q := [rv (me)]) rfl (jl_rvn g1) ?_
      refine jx_ld (pc_q := 79) (l_q := L0) (st_q := [rv (me), rv (me)]) rfl (jl_rvn g1) ?_
      refine cx_gi (pc_q := 82) (c := 2) (q := 9) (v := F (me) (9 : Int)) rfl rfl (by decide) (by decide) (Or.inl rfl) rfl o_me t_me rfl ?_
      have b22 : (-2147483648 : Int) ≤ F (me) (9 : Int) ∧ F (me) (9 : Int) ≤ 2147483647 := by have z := HC_i (c := 2) (q := 9) hC o_me t_me (by decide) rfl; rw [show F (me) ((9 : Nat) : Int) = F (me) (9 : Int) from rfl] at z; exact z
      refine jx_ar (pc_q := 83) (st_q := [.int (i32 (3)), .int (i32 (F (me) (9 : Int))), rv (me)]) rfl rfl rfl rfl ?_
      refine jx_sub (pc_q := 84) rfl rfl ?_
      obtain ⟨z23, ez23⟩ : ∃ q, q = (i32 ((F (me) (9 : Int) - 3))).toInt := ⟨_, rfl⟩
      have bz23 : (-2147483648 : Int) ≤ z23 ∧ z23 ≤ 2147483647 := ez23 ▸ i32_rg _
      rw [show i32 ((F (me) (9 : Int) - 3)) = i32 z23 by rw [ez23, i32_of]]
      clear ez23
      refine jx_ar (pc_q := 85) (st_q := [.int (i32 (3)), .int (i32 (z23)), rv (me)]) rfl rfl rfl rfl ?_
      refine cx_vi (c := 2) (a := me) (st := []) (as := [.int (i32 (z23)), .int (i32 (3))]) rfl rfl rfl o_me t_me (by decide) rfl ⟨rfl, rfl, (Nat.le_of_ble_eq_true rfl)⟩ rfl (k_LCore_poke (dd := d) (R := R) (m := m) (tg := tg) (ln := ln) (F := F) (me := me) (a0 := z23) (a1 := 3) (hd := by omega) (hC := hC) (o_me := o_me) (t_me := t_me) (h_a0 := by omega) (h_a1 := by omega)) (fun o V_q hq => ?_)
      obtain ⟨F24, rfl, rfl, hC25, hM26, -⟩ := hq
      have hM27 : Fq 0 [(3, 5), (3, 6), (3, 7), (3, 8), (3, 9), (3, 10), (3, 11), (3, 19), (21, -5)] m tg F F24 := Fq_t (ln := ln) (ln1 := ln) hM0 Ex_r hM26 (by decide) (Or.inl rfl)
      refine Or.inl ⟨rfl, ?_⟩
      refine jx_go (tg := 177) rfl rfl ?_
      refine jx_rt (v := none) rfl rfl rfl rfl rfl rfl ?_
      exact ⟨F24, rfl, rfl, hC25, hM27, trivial⟩
  by_cases h28 : a0 = 25
  · refine jx_swe (tg := 91) h28 rfl rfl rfl rfl ?_
    refine jx_ld (pc_q := 92) (l_q := L0) (st_q := [rv (me)]) rfl (jl_rvn g1) ?_
    refine jx_ld (pc_q := 93) (l_q := L0) (st_q := [rv (me), rv (me)]) rfl (jl_rvn g1) ?_
    refine cx_gi (pc_q := 96) (c := 2) (q := 9) (v := F (me) (9 : Int)) rfl rfl (by decide) (by decide) (Or.inl rfl) rfl o_me t_me rfl ?_
    have b29 : (-2147483648 : Int) ≤ F (me) (9 : Int) ∧ F (me) (9 : Int) ≤ 2147483647 := by have z := HC_i (c := 2) (q := 9) hC o_me t_me (by decide) rfl; rw [show F (me) ((9 : Nat) : Int) = F (me) (9 : Int) from rfl] at z; exact z
    refine jx_ar (pc_q := 97) (st_q := [.int (i32 (3)), .int (i32 (F (me) (9 : Int))), rv (me)]) rfl rfl rfl rfl ?_
    refine jx_sub (pc_q := 98) rfl rfl ?_
    obtain ⟨z30, ez30⟩ : ∃ q, q = (i32 ((F (me) (9 : Int) - 3))).toInt := ⟨_, rfl⟩
    have bz30 : (-2147483648 : Int) ≤ z30 ∧ z30 ≤ 2147483647 := ez30 ▸ i32_rg _
    rw [show i32 ((F (me) (9 : Int) - 3)) = i32 z30 by rw [ez30, i32_of]]
    clear ez30
    refine cx_vi (c := 2) (a := me) (st := []) (as := [.int (i32 (z30))]) rfl rfl rfl o_me t_me (by decide) rfl ⟨rfl, rfl, (Nat.le_of_ble_eq_true rfl)⟩ rfl (k_LCore_peek (dd := d) (R := R) (m := m) (tg := tg) (ln := ln) (F := F) (me := me) (a0 := z30) (hd := by omega) (hC := hC) (o_me := o_me) (t_me := t_me) (h_a0 := by omega)) (fun o V_q hq => ?_)
    obtain ⟨r31, rfl, rfl, b32, -⟩ := hq
    refine Or.inr (Or.inl ⟨_, rfl, ?_⟩)
    refine jx_ar (pc_q := 102) (st_q := [.int (i32 (3)), .int (i32 (r31))]) rfl rfl rfl rfl ?_
    refine jx_icmp_eq (pc_q := 105) (tg := 177) rfl rfl rfl (by omega) (by omega) (by decide) (by decide) (fun h33 => ?_) (fun h33 => ?_)
    · have _q := h33
      refine jx_rt (v := none) rfl rfl rfl rfl rfl rfl ?_
      exact ⟨F, rfl, rfl, hC, hM0, trivial⟩
    · have _q := h33
      refine jx_ld (pc_q := 106) (l_q := L0) (st_q := [rv (me)]) rfl (jl_rvn g1) ?_
      refine jx_ld (pc_q := 107) (l_q := L0) (st_q := [rv (me), rv (me)]) rfl (jl_rvn g1) ?_
      refine cx_gi (pc_q := 110) (c := 2) (q := 9) (v := F (me) (9 : Int)) rfl rfl (by decide) (by decide) (Or.inl rfl) rfl o_me t_me rfl ?_
      refine jx_ar (pc_q := 111) (st_q := [.int (i32 (3)), .int (i32 (F (me) (9 : Int))), rv (me)]) rfl rfl rfl rfl ?_
      refine jx_sub (pc_q := 112) rfl rfl ?_
      obtain ⟨z34, ez34⟩ : ∃ q, q = (i32 ((F (me) (9 : Int) - 3))).toInt := ⟨_, rfl⟩
      have bz34 : (-2147483648 : Int) ≤ z34 ∧ z34 ≤ 2147483647 := ez34 ▸ i32_rg _
      rw [show i32 ((F (me) (9 : Int) - 3)) = i32 z34 by rw [ez34, i32_of]]
      clear ez34
      refine jx_ar (pc_q := 113) (st_q := [.int (i32 (2)), .int (i32 (z34)), rv (me)]) rfl rfl rfl rfl ?_
      refine cx_vi (c := 2) (a := me) (st := []) (as := [.int (i32 (z34)), .int (i32 (2))]) rfl rfl rfl o_me t_me (by decide) rfl ⟨rfl, rfl, (Nat.le_of_ble_eq_true rfl)⟩ rfl (k_LCore_poke (dd := d) (R := R) (m := m) (tg := tg) (ln := ln) (F := F) (me := me) (a0 := z34) (a1 := 2) (hd := by omega) (hC := hC) (o_me := o_me) (t_me := t_me) (h_a0 := by omega) (h_a1 := by omega)) (fun o V_q hq => ?_)
      obtain ⟨F35, rfl, rfl, hC36, hM37, -⟩ := hq
      have hM38 : Fq 0 [(3, 5), (3, 6), (3, 7), (3, 8), (3, 9), (3, 10), (3, 11), (3, 19), (21, -5)] m tg F F35 := Fq_t (ln := ln) (ln1 := ln) hM0 Ex_r hM37 (by decide) (Or.inl rfl)
      refine Or.inl ⟨rfl, ?_⟩
      refine jx_ld (pc_q := 117) (l_q := L0) (st_q := [rv (me)]) rfl (jl_rvn g1) ?_
      refine cx_vi (c := 2) (a := me) (st := []) (as := []) rfl rfl rfl o_me t_me (by decide) rfl ⟨rfl, rfl, (Nat.le_of_ble_eq_true rfl)⟩ rfl (k_LCore_waitHere (dd := d) (R := R) (m := m) (tg := tg) (ln := ln) (F := F35) (me := me) (hd := by omega) (hC := hC36) (o_me := o_me) (t_me := t_me)) (fun o V_q hq => ?_)
      obtain ⟨F39, rfl, rfl, hC40, hM41, -⟩ := hq
      have hM42 : Fq 0 [(3, 5), (3, 6), (3, 7), (3, 8), (3, 9), (3, 10), (3, 11), (3, 19), (21, -5)] m tg F F39 := Fq_t (ln := ln) (ln1 := ln) hM38 Ex_r hM41 (by decide) (Or.inl rfl)
      refine Or.inl ⟨rfl, ?_⟩
      refine jx_go (tg := 177) rfl rfl ?_
      refine jx_rt (v := none) rfl rfl rfl rfl rfl rfl ?_
      exact ⟨F39, rfl, rfl, hC40, hM42, trivial⟩
  by_cases h43 : a0 = 26
  · refine jx_swe (tg := 123) h43 rfl rfl rfl rfl ?_
    refine jx_ld (pc_q := 124) (l_q := L0) (st_q := [rv (me)]) rfl (jl_rvn g1) ?_
    refine cx_vi (c := 2) (a := me) (st := []) (as := []) rfl rfl rfl o_me t_me (by decide) rfl ⟨rfl, rfl, (Nat.le_of_ble_eq_true rfl)⟩ rfl (k_LCore_disable (dd := d) (R := R) (m := m) (tg := tg) (ln := ln) (F := F) (me := me) (hd := by omega) (hC := hC) (o_me := o_me) (t_me := t_me)) (fun o V_q hq => ?_)
    obtain ⟨F44, rfl, rfl, hC45, hM46, -⟩ := hq
    have hM47 : Fq 0 [(3, 5), (3, 6), (3, 7), (3, 8), (3, 9), (3, 10), (3, 11), (3, 19), (21, -5)] m tg F F44 := Fq_t (ln := ln) (ln1 := ln) hM0 Ex_r hM46 (by decide) (Or.inl rfl)
    refine Or.inl ⟨rfl, ?_⟩
    refine jx_go (tg := 177) rfl rfl ?_
    refine jx_rt (v := none) rfl rfl rfl rfl rfl rfl ?_
    exact ⟨F44, rfl, rfl, hC45, hM47, trivial⟩
  by_cases h48 : a0 = 27
  · refine jx_swe (tg := 130) h48 rfl rfl rfl rfl ?_
    refine jx_ld (pc_q := 131) (l_q := L0) (st_q := [rv (me)]) rfl (jl_rvn g1) ?_
    refine jx_ld (pc_q := 132) (l_q := L0) (st_q := [rv (me), rv (me)]) rfl (jl_rvn g1) ?_
    refine cx_gi (pc_q := 135) (c := 2) (q := 5) (v := F (me) (5 : Int)) rfl rfl (by decide) (by decide) (Or.inl rfl) rfl o_me t_me rfl ?_
    have b49 : (-2147483648 : Int) ≤ F (me) (5 : Int) ∧ F (me) (5 : Int) ≤ 2147483647 := by have z := HC_i (c := 2) (q := 5) hC o_me t_me (by decide) rfl; rw [show F (me) ((5 : Nat) : Int) = F (me) (5 : Int) from rfl] at z; exact z
    refine jx_ld (pc_q := 136) (l_q := L0) (st_q := [rv (me), .int (i32 (F (me) (5 : Int))), rv (me)]) rfl (jl_rvn g1) ?_
    refine cx_gi (pc_q := 139) (c := 2) (q := 6) (v := F (me) (6 : Int)) rfl rfl (by decide) (by decide) (Or.inl rfl) rfl o_me t_me rfl ?_
    have b50 : (-2147483648 : Int) ≤ F (me) (6 : Int) ∧ F (me) (6 : Int) ≤ 2147483647 := by have z := HC_i (c := 2) (q := 6) hC o_me t_me (by decide) rfl; rw [show F (me) ((6 : Nat) : Int) = F (me) (6 : Int) from rfl] at z; exact z
    refine cx_vi (c := 2) (a := me) (st := []) (as := [.int (i32 (F (me) (5 : Int))), .int (i32 (F (me) (6 : Int)))]) rfl rfl rfl o_me t_me (by decide) rfl ⟨rfl, rfl, (Nat.le_of_ble_eq_true rfl)⟩ rfl (k_LCore_choose (dd := d) (R := R) (m := m) (tg := tg) (ln := ln) (F := F) (me := me) (a0 := F (me) (5 : Int)) (a1 := F (me) (6 : Int)) (hd := by omega) (hC := hC) (o_me := o_me) (t_me := t_me) (h_a0 := by omega) (h_a1 := by omega)) (fun o V_q hq => ?_)
    obtain ⟨F51, rfl, rfl, hC52, hM53, -⟩ := hq
    have hM54 : Fq 0 [(3, 5), (3, 6), (3, 7), (3, 8), (3, 9), (3, 10), (3, 11), (3, 19), (21, -5)] m tg F F51 := Fq_t (ln := ln) (ln1 := ln) hM0 Ex_r hM53 (by decide) (Or.inl rfl)
    refine Or.inl ⟨rfl, ?_⟩
    refine jx_ld (pc_q := 143) (l_q := L0) (st_q := [rv (me)]) rfl (jl_rvn g1) ?_
    refine cx_vi (c := 2) (a := me) (st := []) (as := []) rfl rfl rfl o_me t_me (by decide) rfl ⟨rfl, rfl, (Nat.le_of_ble_eq_true rfl)⟩ rfl (k_LCore_dropTwo (dd := d) (R := R) (m := m) (tg := tg) (ln := ln) (F := F51) (me := me) (hd := by omega) (hC := hC52) (o_me := o_me) (t_me := t_me)) (fun o V_q hq => ?_)
    obtain ⟨F55, rfl, rfl, hC56, hM57, -⟩ := hq
    have hM58 : Fq 0 [(3, 5), (3, 6), (3, 7), (3, 8), (3, 9), (3, 10), (3, 11), (3, 19), (21, -5)] m tg F F55 := Fq_t (ln := ln) (ln1 := ln) hM54 Ex_r hM57 (by decide) (Or.inl rfl)
    refine Or.inl ⟨rfl, ?_⟩
    refine jx_go (tg := 177) rfl rfl ?_
    refine jx_rt (v := none) rfl rfl rfl rfl rfl rfl ?_
    exact ⟨F55, rfl, rfl, hC56, hM58, trivial⟩
  refine jx_swt (tg := 149) (by omega) (by omega) rfl (by omega) rfl ?_
  refine jx_ld (pc_q := 150) (l_q := L0) (st_q := [rv (me)]) rfl (jl_rvn g1) ?_
  refine jx_ld (pc_q := 151) (l_q := L0) (st_q := [rv (me), rv (me)]) rfl (jl_rvn g1) ?_
  refine cx_gi (pc_q := 154) (c := 2) (q := 9) (v := F (me) (9 : Int)) rfl rfl (by decide) (by decide) (Or.inl rfl) rfl o_me t_me rfl ?_
  have b59 : (-2147483648 : Int) ≤ F (me) (9 : Int) ∧ F (me) (9 : Int) ≤ 2147483647 := by have z := HC_i (c := 2) (q := 9) hC o_me t_me (by decide) rfl; rw [show F (me) ((9 : Nat) : Int) = F (me) (9 : Int) from rfl] at z; exact z
  refine jx_ar (pc_q := 155) (st_q := [.int (i32 (3)), .int (i32 (F (me) (9 : Int))), rv (me)]) rfl rfl rfl rfl ?_
  refine jx_sub (pc_q := 156) rfl rfl ?_
  obtain ⟨z60, ez60⟩ : ∃ q, q = (i32 ((F (me) (9 : Int) - 3))).toInt := ⟨_, rfl⟩
  have bz60 : (-2147483648 : Int) ≤ z60 ∧ z60 ≤ 2147483647 := ez60 ▸ i32_rg _
  rw [show i32 ((F (me) (9 : Int) - 3)) = i32 z60 by rw [ez60, i32_of]]
  clear ez60
  refine jx_ar (pc_q := 157) (st_q := [.int (i32 (0)), .int (i32 (z60)), rv (me)]) rfl rfl rfl rfl ?_
  refine cx_vi (c := 2) (a := me) (st := []) (as := [.int (i32 (z60)), .int (i32 (0))]) rfl rfl rfl o_me t_me (by decide) rfl ⟨rfl, rfl, (Nat.le_of_ble_eq_true rfl)⟩ rfl (k_LCore_poke (dd := d) (R := R) (m := m) (tg := tg) (ln := ln) (F := F) (me := me) (a0 := z60) (a1 := 0) (hd := by omega) (hC := hC) (o_me := o_me) (t_me := t_me) (h_a0 := by omega) (h_a1 := by omega)) (fun o V_q hq => ?_)
  obtain ⟨F61, rfl, rfl, hC62, hM63, -⟩ := hq
  have hM64 : Fq 0 [(3, 5), (3, 6), (3, 7), (3, 8), (3, 9), (3, 10), (3, 11), (3, 19), (21, -5)] m tg F F61 := Fq_t (ln := ln) (ln1 := ln) hM0 Ex_r hM63 (by decide) (Or.inl rfl)
  refine Or.inl ⟨rfl, ?_⟩
  refine jx_ld (pc_q := 161) (l_q := L0) (st_q := [rv (me)]) rfl (jl_rvn g1) ?_
  refine jx_ar (pc_q := 162) (st_q := [rv (me), rv (me)]) rfl rfl ja_dup rfl ?_
  refine cx_gi (pc_q := 165) (c := 2) (q := 8) (v := F (me) (8 : Int)) rfl rfl (by decide) (by decide) (Or.inl rfl) rfl o_me t_me (show F61 (me) (8 : Int) = F (me) (8 : Int) from hM63 _ _ o_me (own_z o_me) (by rw [t_me]; rfl)) ?_
  have b65 : (-2147483648 : Int) ≤ F (me) (8 : Int) ∧ F (me) (8 : Int) ≤ 2147483647 := by have z := HC_i (c := 2) (q := 8) hC62 o_me t_me (by decide) rfl; rw [show F61 (me) ((8 : Nat) : Int) = F (me) (8 : Int) from (show F61 (me) (8 : Int) = F (me) (8 : Int) from hM63 _ _ o_me (own_z o_me) (by rw [t_me]; rfl))] at z; exact z
  refine jx_ld (pc_q := 166) (l_q := L0) (st_q := [rv (me), .int (i32 (F (me) (8 : Int))), rv (me)]) rfl (jl_rvn g1) ?_
  refine jx_ld (pc_q := 167) (l_q := L0) (st_q := [rv (me), rv (me), .int (i32 (F (me) (8 : Int))), rv (me)]) rfl (jl_rvn g1) ?_
  refine cx_gi (pc_q := 170) (c := 2) (q := 9) (v := F (me) (9 : Int)) rfl rfl (by decide) (by decide) (Or.inl rfl) rfl o_me t_me (show F61 (me) (9 : Int) = F (me) (9 : Int) from hM63 _ _ o_me (own_z o_me) (by rw [t_me]; rfl)) ?_
  refine cx_vi (c := 2) (a := me) (st := [.int (i32 (F (me) (8 : Int))), rv (me)]) (as := [.int (i32 (F (me) (9 : Int)))]) rfl rfl rfl o_me t_me (by decide) rfl ⟨rfl, rfl, (by rw [jS_i, jS_r, jS_0]; exact Nat.le_of_ble_eq_true rfl)⟩ rfl (k_LCore_peek (dd := d) (R := R) (m := m) (tg := tg) (ln := ln) (F := F61) (me := me) (a0 := F (me) (9 : Int)) (hd := by omega) (hC := hC62) (o_me := o_me) (t_me := t_me) (h_a0 := by omega)) (fun o V_q hq => ?_)
  obtain ⟨r66, rfl, rfl, b67, -⟩ := hq
  refine Or.inr (Or.inl ⟨_, rfl, ?_⟩)
  refine jx_add (pc_q := 174) rfl rfl ?_
  obtain ⟨z68, ez68⟩ : ∃ q, q = (i32 ((F (me) (8 : Int) + r66))).toInt := ⟨_, rfl⟩
  have bz68 : (-2147483648 : Int) ≤ z68 ∧ z68 ≤ 2147483647 := ez68 ▸ i32_rg _
  rw [show i32 ((F (me) (8 : Int) + r66)) = i32 z68 by rw [ez68, i32_of]]
  clear ez68
  refine cx_pi (pc_q := 177) (c := 2) (q := 8) (qi := (8 : Int)) (z := z68) rfl rfl (by decide) (by decide) rfl rfl rfl (by decide) rfl o_me t_me rfl ?_
  obtain ⟨F69, eF69⟩ : ∃ q, q = uF F61 (me) (8 : Int) (z68) := ⟨_, rfl⟩
  rw [← eF69]
  have hC70 : HC 0 m tg ln F69 := by rw [eF69]; exact HC_fi (c := 2) (q := 8) hC62 t_me (by decide) rfl (by omega) (by omega) ⟨fun w => absurd w (by decide), fun _ => ⟨fun w => absurd w (by decide), fun w => absurd w (by decide)⟩⟩
  have hM71 : Fq 0 [(3, 5), (3, 6), (3, 7), (3, 8), (3, 9), (3, 10), (3, 11), (3, 19), (21, -5)] m tg F F69 := by rw [eF69]; exact Fq_p hM64 t_me (fun _ => rfl) rfl
  refine jx_rt (v := none) rfl rfl rfl rfl rfl rfl ?_
  exact ⟨F69, rfl, rfl, hC70, hM71, trivial⟩
set_option maxRecDepth 20000 in
set_option maxHeartbeats 4000000 in
theorem k_LCore_manage {X : jX} {dd : Nat} {R : Nat → jC} {m : Nat} {tg ln : Int → Int} {F : Int → Int → Int} {kk : Int} {me a0 : Int} (hd : 5 ≤ dd) (hC : HC 0 m tg ln F) (o_me : own m me) (t_me : tg me = 3) (h_a0 : (-2147483648 : Int) ≤ a0 ∧ a0 ≤ 2147483647) (p_0 : kk ≤ 2147483646) (c_SB : SB m tg F (kk)) : wk X dd 110 [rv me, .int (i32 a0)] (cV R m tg ln F) (fun o V_q => ∃ (F_q : Int → Int → Int), V_q = cV R m tg ln F_q ∧ o = .inl none ∧ HC 0 m tg ln F_q ∧ Fq 0 [(3, 5), (3, 6), (3, 7), (3, 8), (3, 9), (3, 10), (3, 11), (3, 13), (3, 14), (3, 16), (3, 17), (3, 19), (5, 2), (5, 3), (5, 4), (5, 5), (5, 6), (5, 7), (6, 4), (6, 6), (21, -5)] m tg F F_q ∧ (SB m tg F_q (kk + 1)) ∧ True) := by
  obtain ⟨d, rfl⟩ : ∃ d, dd = d + 1 := ⟨dd - 1, by omega⟩
  refine wk_of (e := jm110) rfl (by rw [jS_r, jS_i, jS_0]; exact Nat.le_of_ble_eq_true rfl) ?_
  rw [la_r, la_i, la_0]
  show wj X d jm110 (0, [(0, rv (me)), (1, .int (i32 (a0)))], [], cV R m tg ln F) _
  have hM0 : Fq 0 [(3, 5), (3, 6), (3, 7), (3, 8), (3, 9), (3, 10), (3, 11), (3, 13), (3, 14), (3, 16), (3, 17), (3, 19), (5, 2), (5, 3), (5, 4), (5, 5), (5, 6), (5, 7), (6, 4), (6, 6), (21, -5)] m tg F F := Fq_r
  obtain ⟨L0, eL0⟩ : ∃ q : jL, q = [(0, rv (me)), (1, .int (i32 (a0)))] := ⟨_, rfl⟩
  rw [← eL0]
  have g1 : jGet L0 0 = some (rv (me)) := eL0 ▸ (rfl : jGet [(0, rv (me)), (1, .int (i32 (a0)))] 0 = some (rv (me)))
  have g2 : jGet L0 1 = some (.int (i32 (a0))) := eL0 ▸ (rfl : jGet [(0, rv (me)), (1, .int (i32 (a0)))] 1 = some (.int (i32 (a0))))
  clear eL0
  refine jx_ld (pc_q := 1) (l_q := L0) (st_q := [.int (i32 (a0))]) rfl (jl_iloadn g2) ?_
  by_cases h3 : a0 = 12
  · refine jx_swe (tg := 96) h3 rfl rfl rfl rfl ?_
    refine jx_ld (pc_q := 97) (l_q := L0) (st_q := [rv (me)]) rfl (jl_rvn g1) ?_
    refine cx_vi (c := 2) (a := me) (st := []) (as := []) rfl rfl rfl o_me t_me (by decide) rfl ⟨rfl, rfl, (Nat.le_of_ble_eq_true rfl)⟩ rfl (k_LCore_check (dd := d) (R := R) (m := m) (tg := tg) (ln := ln) (F := F) (me := me) (hd := by omega) (hC := hC) (o_me := o_me) (t_me := t_me)) (fun o V_q hq => ?_)
    obtain ⟨F4, rfl, rfl, hC5, hM6, -⟩ := hq
    have hM7 : Fq 0 [(3, 5), (3, 6), (3, 7), (3, 8), (3, 9), (3, 10), (3, 11), (3, 13), (3, 14), (3, 16), (3, 17), (3, 19), (5, 2), (5, 3), (5, 4), (5, 5), (5, 6), (5, 7), (6, 4), (6, 6), (21, -5)] m tg F F4 := Fq_t (ln := ln) (ln1 := ln) hM0 Ex_r hM6 (by decide) (Or.inl rfl)
    have c8 : SB m tg F4 (kk) := SB_q c_SB hM6 rfl
    refine Or.inl ⟨rfl, ?_⟩
    refine jx_go (tg := 225) rfl rfl ?_
    refine jx_rt (v := none) rfl rfl rfl rfl rfl rfl ?_
    exact ⟨F4, rfl, rfl, hC5, hM7, SB_m c8 (by omega), trivial⟩
  by_cases h9 : a0 = 13
  · refine jx_swe (tg := 103) h9 rfl rfl rfl rfl ?_
    refine jx_ld (pc_q := 104) (l_q := L0) (st_q := [rv (me)]) rfl (jl_rvn g1) ?_
    refine jx_ld (pc_q := 105) (l_q := L0) (st_q := [rv (me), rv (me)]) rfl (jl_rvn g1) ?_
    refine cx_gi (pc_q := 108) (c := 2) (q := 8) (v := F (me) (8 : Int)) rfl rfl (by decide) (by decide) (Or.inl rfl) rfl o_me t_me rfl ?_
    have b10 : (-2147483648 : Int) ≤ F (me) (8 : Int) ∧ F (me) (8 : Int) ≤ 2147483647 := by have z := HC_i (c := 2) (q := 8) hC o_me t_me (by decide) rfl; rw [show F (me) ((8 : Nat) : Int) = F (me) (8 : Int) from rfl] at z; exact z
    refine jx_ld (pc_q := 109) (l_q := L0) (st_q := [rv (me), .int (i32 (F (me) (8 : Int))), rv (me)]) rfl (jl_rvn g1) ?_
    refine cx_gi (pc_q := 112) (c := 2) (q := 5) (v := F (me) (5 : Int)) rfl rfl (by decide) (by decide) (Or.inl rfl) rfl o_me t_me rfl ?_
    have b11 : (-2147483648 : Int) ≤ F (me) (5 : Int) ∧ F (me) (5 : Int) ≤ 2147483647 := by have z := HC_i (c := 2) (q := 5) hC o_me t_me (by decide) rfl; rw [show F (me) ((5 : Nat) : Int) = F (me) (5 : Int) from rfl] at z; exact z
    refine jx_add (pc_q := 113) rfl rfl ?_
    obtain ⟨z12, ez12⟩ : ∃ q, q = (i32 ((F (me) (8 : Int) + F (me) (5 : Int)))).toInt := ⟨_, rfl⟩
    have bz12 : (-2147483648 : Int) ≤ z12 ∧ z12 ≤ 2147483647 := ez12 ▸ i32_rg _
    rw [show i32 ((F (me) (8 : Int) + F (me) (5 : Int))) = i32 z12 by rw [ez12, i32_of]]
    clear ez12
    refine cx_pi (pc_q := 116) (c := 2) (q := 5) (qi := (5 : Int)) (z := z12) rfl rfl (by decide) (by decide) rfl rfl rfl (by decide) rfl o_me t_me rfl ?_
    obtain ⟨F13, eF13⟩ : ∃ q, q = uF F (me) (5 : Int) (z12) := ⟨_, rfl⟩
    rw [← eF13]
    have hC14 : HC 0 m tg ln F13 := by rw [eF13]; exact HC_fi (c := 2) (q := 5) hC t_me (by decide) rfl (by omega) (by omega) ⟨fun w => absurd w (by decide), fun _ => ⟨fun w => absurd w (by decide), fun w => absurd w (by decide)⟩⟩
    have hM15 : Fq 0 [(3, 5), (3, 6), (3, 7), (3, 8), (3, 9), (3, 10), (3, 11), (3, 13), (3, 14), (3, 16), (3, 17), (3, 19), (5, 2), (5, 3), (5, 4), (5, 5), (5, 6), (5, 7), (6, 4), (6, 6), (21, -5)] m tg F F13 := by rw [eF13]; exact Fq_p hM0 t_me (fun _ => rfl) rfl
    have c16 : SB m tg F13 (kk) := by rw [eF13]; exact SB_u c_SB t_me (by omega)
    refine jx_go (tg := 225) rfl rfl ?_
    refine jx_rt (v := none) rfl rfl rfl rfl rfl rfl ?_
    exact ⟨F13, rfl, rfl, hC14, hM15, SB_m c16 (by omega), trivial⟩
  by_cases h17 : a0 = 14
  · refine jx_swe (tg := 119) h17 rfl rfl rfl rfl ?_
    refine jx_ld (pc_q := 120) (l_q := L0) (st_q := [rv (me)]) rfl (jl_rvn g1) ?_
    refine cx_vi (c := 2) (a := me) (st := []) (as := []) rfl rfl rfl o_me t_me (by decide) rfl ⟨rfl, rfl, (Nat.le_of_ble_eq_true rfl)⟩ rfl (k_LCore_fill (dd := d) (R := R) (m := m) (tg := tg) (ln := ln) (F := F) (me := me) (hd := by omega) (hC := hC) (o_me := o_me) (t_me := t_me)) (fun o V_q hq => ?_)
    obtain ⟨F18, rfl, rfl, hC19, hM20, -⟩ := hq
    have hM21 : Fq 0 [(3, 5), (3, 6), (3, 7), (3, 8), (3, 9), (3, 10), (3, 11), (3, 13), (3, 14), (3, 16), (3, 17), (3, 19), (5, 2), (5, 3), (5, 4), (5, 5), (5, 6), (5, 7), (6, 4), (6, 6), (21, -5)] m tg F F18 := Fq_t (ln := ln) (ln1 := ln) hM0 Ex_r hM20 (by decide) (Or.inl rfl)
    have c22 : SB m tg F18 (kk) := SB_q c_SB hM20 rfl
    refine Or.inl ⟨rfl, ?_⟩
    refine jx_go (tg := 225) rfl rfl ?_
    refine jx_rt (v := none) rfl rfl rfl rfl rfl rfl ?_
    exact ⟨F18, rfl, rfl, hC19, hM21, SB_m c22 (by omega), trivial⟩
  by_cases h23 : a0 = 15
  · refine jx_swe (tg := 126) h23 rfl rfl rfl rfl ?_
    refine jx_ld (pc_q := 127) (l_q := L0) (st_q := [rv (me)]) rfl (jl_rvn g1) ?_
    refine jx_ld (pc_q := 128) (l_q := L0) (st_q := [rv (me), rv (me)]) rfl (jl_rvn g1) ?_
    refine cx_gi (pc_q := 131) (c := 2) (q := 12) (v := F (me) (12 : Int)) rfl rfl (by decide) (by decide) (Or.inl rfl) rfl o_me t_me rfl ?_
    have b24 : (-2147483648 : Int) ≤ F (me) (12 : Int) ∧ F (me) (12 : Int) ≤ 2147483647 := by have z := HC_i (c := 2) (q := 12) hC o_me t_me (by decide) rfl; rw [show F (me) ((12 : Nat) : Int) = F (me) (12 : Int) from rfl] at z; exact z
    refine cx_vi (c := 2) (a := me) (st := []) (as := [.int (i32 (F (me) (12 : Int)))]) rfl rfl rfl o_me t_me (by decide) rfl ⟨rfl, rfl, (Nat.le_of_ble_eq_true rfl)⟩ rfl (k_LCore_startProcess (dd := d) (R := R) (m := m) (tg := tg) (ln := ln) (F := F) (me := me) (a0 := F (me) (12 : Int)) (hd := by omega) (hC := hC) (o_me := o_me) (t_me := t_me) (h_a0 := by omega)) (fun o V_q hq => ?_)
    obtain ⟨F25, rfl, rfl, hC26, hM27, -⟩ := hq
    have hM28 : Fq 0 [(3, 5), (3, 6), (3, 7), (3, 8), (3, 9), (3, 10), (3, 11), (3, 13), (3, 14), (3, 16), (3, 17), (3, 19), (5, 2), (5, 3), (5, 4), (5, 5), (5, 6), (5, 7), (6, 4), (6, 6), (21, -5)] m tg F F25 := Fq_t (ln := ln) (ln1 := ln) hM0 Ex_r hM27 (by decide) (Or.inl rfl)
    have c29 : SB m tg F25 (kk) := SB_q c_SB hM27 rfl
    refine Or.inl ⟨rfl, ?_⟩
    refine jx_go (tg := 225) rfl rfl ?_
    refine jx_rt (v := none) rfl rfl rfl rfl rfl rfl ?_
    exact ⟨F25, rfl, rfl, hC26, hM28, SB_m c29 (by omega), trivial⟩
  by_cases h30 : a0 = 16
  · refine jx_swe (tg := 137) h30 rfl rfl rfl rfl ?_
    refine jx_ld (pc_q := 138) (l_q := L0) (st_q := [rv (me)]) rfl (jl_rvn g1) ?_
    refine jx_ar (pc_q := 139) (st_q := [.int (i32 (0)), rv (me)]) rfl rfl rfl rfl ?_
    refine cx_vi (c := 2) (a := me) (st := []) (as := [.int (i32 (0))]) rfl rfl rfl o_me t_me (by decide) rfl ⟨rfl, rfl, (Nat.le_of_ble_eq_true rfl)⟩ rfl (k_LCore_startProcess (dd := d) (R := R) (m := m) (tg := tg) (ln := ln) (F := F) (me := me) (a0 := 0) (hd := by omega) (hC := hC) (o_me := o_me) (t_me := t_me) (h_a0 := by omega)) (fun o V_q hq => ?_)
    obtain ⟨F31, rfl, rfl, hC32, hM33, -⟩ := hq
    have hM34 : Fq 0 [(3, 5), (3, 6), (3, 7), (3, 8), (3, 9), (3, 10), (3, 11), (3, 13), (3, 14), (3, 16), (3, 17), (3, 19), (5, 2), (5, 3), (5, 4), (5, 5), (5, 6), (5, 7), (6, 4), (6, 6), (21, -5)] m tg F F31 := Fq_t (ln := ln) (ln1 := ln) hM0 Ex_r hM33 (by decide) (Or.inl rfl)
    have c35 : SB m tg F31 (kk) := SB_q c_SB hM33 rfl
    refine Or.inl ⟨rfl, ?_⟩
    refine jx_go (tg := 225) rfl rfl ?_
    refine jx_rt (v := none) rfl rfl rfl rfl rfl rfl ?_
    exact ⟨F31, rfl, rfl, hC32, hM34, SB_m c35 (by omega), trivial⟩
  by_cases h36 : a0 = 17
  · refine jx_swe (tg := 145) h36 rfl rfl rfl rfl ?_
    refine jx_ld (pc_q := 146) (l_q := L0) (st_q := [rv (me)]) rfl (jl_rvn g1) ?_
    refine cx_vi (c := 2) (a := me) (st := []) (as := []) rfl rfl rfl o_me t_me (by decide) rfl ⟨rfl, rfl, (Nat.le_of_ble_eq_true rfl)⟩ rfl (k_LCore_endProcess (dd := d) (R := R) (m := m) (tg := tg) (ln := ln) (F := F) (me := me) (hd := by omega) (hC := hC) (o_me := o_me) (t_me := t_me)) (fun o V_q hq => ?_)
    obtain ⟨F37, rfl, rfl, hC38, hM39, -⟩ := hq
    have hM40 : Fq 0 [(3, 5), (3, 6), (3, 7), (3, 8), (3, 9), (3, 10), (3, 11), (3, 13), (3, 14), (3, 16), (3, 17), (3, 19), (5, 2), (5, 3), (5, 4), (5, 5), (5, 6), (5, 7), (6, 4), (6, 6), (21, -5)] m tg F F37 := Fq_t (ln := ln) (ln1 := ln) hM0 Ex_r hM39 (by decide) (Or.inl rfl)
    have c41 : SB m tg F37 (kk) := SB_q c_SB hM39 rfl
    refine Or.inl ⟨rfl, ?_⟩
    refine jx_go (tg := 225) rfl rfl ?_
    refine jx_rt (v := none) rfl rfl rfl rfl rfl rfl ?_
    exact ⟨F37, rfl, rfl, hC38, hM40, SB_m c41 (by omega), trivial⟩
  by_cases h42 : a0 = 18
  · refine jx_swe (tg := 152) h42 rfl rfl rfl rfl ?_
    refine jx_ld (pc_q := 153) (l_q := L0) (st_q := [rv (me)]) rfl (jl_rvn g1) ?_
    refine cx_vi (c := 2) (a := me) (st := []) (as := []) rfl rfl rfl o_me t_me (by decide) rfl ⟨rfl, rfl, (Nat.le_of_ble_eq_true rfl)⟩ rfl (k_LCore_leave (dd := d) (R := R) (m := m) (tg := tg) (ln := ln) (F := F) (me := me) (hd := by omega) (hC := hC) (o_me := o_me) (t_me := t_me)) (fun o V_q hq => ?_)
    obtain ⟨F43, rfl, rfl, hC44, hM45, -⟩ := hq
    have hM46 : Fq 0 [(3, 5), (3, 6), (3, 7), (3, 8), (3, 9), (3, 10), (3, 11), (3, 13), (3, 14), (3, 16), (3, 17), (3, 19), (5, 2), (5, 3), (5, 4), (5, 5), (5, 6), (5, 7), (6, 4), (6, 6), (21, -5)] m tg F F43 := Fq_t (ln := ln) (ln1 := ln) hM0 Ex_r hM45 (by decide) (Or.inl rfl)
    have c47 : SB m tg F43 (kk) := SB_q c_SB hM45 rfl
    refine Or.inl ⟨rfl, ?_⟩
    refine jx_go (tg := 225) rfl rfl ?_
    refine jx_rt (v := none) rfl rfl rfl rfl rfl rfl ?_
    exact ⟨F43, rfl, rfl, hC44, hM46, SB_m c47 (by omega), trivial⟩
  by_cases h48 : a0 = 19
  · refine jx_swe (tg := 159) h48 rfl rfl rfl rfl ?_
    refine jx_ld (pc_q := 160) (l_q := L0) (st_q := [rv (me)]) rfl (jl_rvn g1) ?_
    refine jx_ld (pc_q := 161) (l_q := L0) (st_q := [rv (me), rv (me)]) rfl (jl_rvn g1) ?_
    refine jx_ld (pc_q := 162) (l_q := L0) (st_q := [rv (me), rv (me), rv (me)]) rfl (jl_rvn g1) ?_
    refine cx_gi (pc_q := 165) (c := 2) (q := 9) (v := F (me) (9 : Int)) rfl rfl (by decide) (by decide) (Or.inl rfl) rfl o_me t_me rfl ?_
    have b49 : (-2147483648 : Int) ≤ F (me) (9 : Int) ∧ F (me) (9 : Int) ≤ 2147483647 := by have z := HC_i (c := 2) (q := 9) hC o_me t_me (by decide) rfl; rw [show F (me) ((9 : Nat) : Int) = F (me) (9 : Int) from rfl] at z; exact z
    refine cx_vi (c := 2) (a := me) (st := [rv (me)]) (as := [.int (i32 (F (me) (9 : Int)))]) rfl rfl rfl o_me t_me (by decide) rfl ⟨rfl, rfl, (by rw [jS_r, jS_0]; exact Nat.le_of_ble_eq_true rfl)⟩ rfl (k_LCore_peek (dd := d) (R := R) (m := m) (tg := tg) (ln := ln) (F := F) (me := me) (a0 := F (me) (9 : Int)) (hd := by omega) (hC := hC) (o_me := o_me) (t_me := t_me) (h_a0 := by omega)) (fun o V_q hq => ?_)
    obtain ⟨r50, rfl, rfl, b51, -⟩ := hq
    refine Or.inr (Or.inl ⟨_, rfl, ?_⟩)
    refine cx_pi (pc_q := 171) (c := 2) (q := 8) (qi := (8 : Int)) (z := r50) rfl rfl (by decide) (by decide) rfl rfl rfl (by decide) rfl o_me t_me rfl ?_
    obtain ⟨F52, eF52⟩ : ∃ q, q = uF F (me) (8 : Int) (r50) := ⟨_, rfl⟩
    rw [← eF52]
    have hC53 : HC 0 m tg ln F52 := by rw [eF52]; exact HC_fi (c := 2) (q := 8) hC t_me (by decide) rfl (by omega) (by omega) ⟨fun w => absurd w (by decide), fun _ => ⟨fun w => absurd w (by decide), fun w => absurd w (by decide)⟩⟩
    have hM54 : Fq 0 [(3, 5), (3, 6), (3, 7), (3, 8), (3, 9), (3, 10), (3, 11), (3, 13), (3, 14), (3, 16), (3, 17), (3, 19), (5, 2), (5, 3), (5, 4), (5, 5), (5, 6), (5, 7), (6, 4), (6, 6), (21, -5)] m tg F F52 := by rw [eF52]; exact Fq_p hM0 t_me (fun _ => rfl) rfl
    have c55 : SB m tg F52 (kk) := by rw [eF52]; exact SB_u c_SB t_me (by omega)
    refine jx_ld (pc_q := 172) (l_q := L0) (st_q := [rv (me)]) rfl (jl_rvn g1) ?_
    refine jx_ar (pc_q := 173) (st_q := [rv (me), rv (me)]) rfl rfl ja_dup rfl ?_
    refine cx_gi (pc_q := 176) (c := 2) (q := 9) (v := F (me) (9 : Int)) rfl rfl (by decide) (by decide) (Or.inl rfl) rfl o_me t_me (show F52 (me) (9 : Int) = F (me) (9 : Int) from by rw [eF52]; exact uF_j (by decide)) ?_
    refine jx_ar (pc_q := 177) (st_q := [.int (i32 (4)), .int (i32 (F (me) (9 : Int))), rv (me)]) rfl rfl rfl rfl ?_
    refine jx_add (pc_q := 178) rfl rfl ?_
    obtain ⟨z56, ez56⟩ : ∃ q, q = (i32 ((F (me) (9 : Int) + 4))).toInt := ⟨_, rfl⟩
    have bz56 : (-2147483648 : Int) ≤ z56 ∧ z56 ≤ 2147483647 := ez56 ▸ i32_rg _
    rw [show i32 ((F (me) (9 : Int) + 4)) = i32 z56 by rw [ez56, i32_of]]
    clear ez56
    refine cx_pi (pc_q := 181) (c := 2) (q := 9) (qi := (9 : Int)) (z := z56) rfl rfl (by decide) (by decide) rfl rfl rfl (by decide) rfl o_me t_me rfl ?_
    obtain ⟨F57, eF57⟩ : ∃ q, q = uF F52 (me) (9 : Int) (z56) := ⟨_, rfl⟩
    rw [← eF57]
    have hC58 : HC 0 m tg ln F57 := by rw [eF57]; exact HC_fi (c := 2) (q := 9) hC53 t_me (by decide) rfl (by omega) (by omega) ⟨fun w => absurd w (by decide), fun _ => ⟨fun w => absurd w (by decide), fun w => absurd w (by decide)⟩⟩
    have hM59 : Fq 0 [(3, 5), (3, 6), (3, 7), (3, 8), (3, 9), (3, 10), (3, 11), (3, 13), (3, 14), (3, 16), (3, 17), (3, 19), (5, 2), (5, 3), (5, 4), (5, 5), (5, 6), (5, 7), (6, 4), (6, 6), (21, -5)] m tg F F57 := by rw [eF57]; exact Fq_p hM54 t_me (fun _ => rfl) rfl
    have c60 : SB m tg F57 (kk) := by rw [eF57]; exact SB_u c55 t_me (by omega)
    refine jx_go (tg := 225) rfl rfl ?_
    refine jx_rt (v := none) rfl rfl rfl rfl rfl rfl ?_
    exact ⟨F57, rfl, rfl, hC58, hM59, SB_m c60 (by omega), trivial⟩
  by_cases h61 : a0 = 20
  · refine jx_swe (tg := 184) h61 rfl rfl rfl rfl ?_
    refine jx_ld (pc_q := 185) (l_q := L0) (st_q := [rv (me)]) rfl (jl_rvn g1) ?_
    refine cx_vi (c := 2) (a := me) (st := []) (as := []) rfl rfl rfl o_me t_me (by decide) rfl ⟨rfl, rfl, (Nat.le_of_ble_eq_true rfl)⟩ rfl (k_LCore_takeFrom (dd := d) (R := R) (m := m) (tg := tg) (ln := ln) (F := F) (me := me) (hd := by omega) (hC := hC) (o_me := o_me) (t_me := t_me)) (fun o V_q hq => ?_)
    obtain ⟨F62, rfl, rfl, hC63, hM64, -⟩ := hq
    have hM65 : Fq 0 [(3, 5), (3, 6), (3, 7), (3, 8), (3, 9), (3, 10), (3, 11), (3, 13), (3, 14), (3, 16), (3, 17), (3, 19), (5, 2), (5, 3), (5, 4), (5, 5), (5, 6), (5, 7), (6, 4), (6, 6), (21, -5)] m tg F F62 := Fq_t (ln := ln) (ln1 := ln) hM0 Ex_r hM64 (by decide) (Or.inl rfl)
    have c66 : SB m tg F62 (kk) := SB_q c_SB hM64 rfl
    refine Or.inl ⟨rfl, ?_⟩
    refine jx_go (tg := 225) rfl rfl ?_
    refine jx_rt (v := none) rfl rfl rfl rfl rfl rfl ?_
    exact ⟨F62, rfl, rfl, hC63, hM65, SB_m c66 (by omega), trivial⟩
  by_cases h67 : a0 = 21
  · refine jx_swe (tg := 191) h67 rfl rfl rfl rfl ?_
    refine jx_ld (pc_q := 192) (l_q := L0) (st_q := [rv (me)]) rfl (jl_rvn g1) ?_
    refine cx_vi (c := 2) (a := me) (st := []) (as := []) rfl rfl rfl o_me t_me (by decide) rfl ⟨rfl, rfl, (Nat.le_of_ble_eq_true rfl)⟩ rfl (k_LCore_sendOn (dd := d) (R := R) (m := m) (tg := tg) (ln := ln) (F := F) (me := me) (hd := by omega) (hC := hC) (o_me := o_me) (t_me := t_me) (p_0 := by omega) (kk := kk) (c_SB := c_SB)) (fun o V_q hq => ?_)
    obtain ⟨F68, rfl, rfl, hC69, hM70, c71, -⟩ := hq
    have hM72 : Fq 0 [(3, 5), (3, 6), (3, 7), (3, 8), (3, 9), (3, 10), (3, 11), (3, 13), (3, 14), (3, 16), (3, 17), (3, 19), (5, 2), (5, 3), (5, 4), (5, 5), (5, 6), (5, 7), (6, 4), (6, 6), (21, -5)] m tg F F68 := Fq_t (ln := ln) (ln1 := ln) hM0 Ex_r hM70 (by decide) (Or.inl rfl)
    refine Or.inl ⟨rfl, ?_⟩
    refine jx_go (tg := 225) rfl rfl ?_
    refine jx_rt (v := none) rfl rfl rfl rfl rfl rfl ?_
    exact ⟨F68, rfl, rfl, hC69, hM72, SB_m c71 (by omega), trivial⟩
  by_cases h73 : a0 = 22
  · refine jx_swe (tg := 221) h73 rfl rfl rfl rfl ?_
    refine jx_ld (pc_q := 222) (l_q := L0) (st_q := [rv (me)]) rfl (jl_rvn g1) ?_
    refine cx_vi (c := 2) (a := me) (st := []) (as := []) rfl rfl rfl o_me t_me (by decide) rfl ⟨rfl, rfl, (Nat.le_of_ble_eq_true rfl)⟩ rfl (k_LCore_fail (dd := d) (R := R) (m := m) (tg := tg) (ln := ln) (F := F) (me := me) (hd := by omega) (hC := hC) (o_me := o_me) (t_me := t_me)) (fun o V_q hq => ?_)
    obtain ⟨F74, rfl, rfl, hC75, hM76, -⟩ := hq
    have hM77 : Fq 0 [(3, 5), (3, 6), (3, 7), (3, 8), (3, 9), (3, 10), (3, 11), (3, 13), (3, 14), (3, 16), (3, 17), (3, 19), (5, 2), (5, 3), (5, 4), (5, 5), (5, 6), (5, 7), (6, 4), (6, 6), (21, -5)] m tg F F74 := Fq_t (ln := ln) (ln1 := ln) hM0 Ex_r hM76 (by decide) (Or.inl rfl)
    have c78 : SB m tg F74 (kk) := SB_q c_SB hM76 rfl
    refine Or.inl ⟨rfl, ?_⟩
    refine jx_rt (v := none) rfl rfl rfl rfl rfl rfl ?_
    exact ⟨F74, rfl, rfl, hC75, hM77, SB_m c78 (by omega), trivial⟩
  by_cases h79 : a0 = 23
  · refine jx_swe (tg := 221) h79 rfl rfl rfl rfl ?_
    refine jx_ld (pc_q := 222) (l_q := L0) (st_q := [rv (me)]) rfl (jl_rvn g1) ?_
    refine cx_vi (c := 2) (a := me) (st := []) (as := []) rfl rfl rfl o_me t_me (by decide) rfl ⟨rfl, rfl, (Nat.le_of_ble_eq_true rfl)⟩ rfl (k_LCore_fail (dd := d) (R := R) (m := m) (tg := tg) (ln := ln) (F := F) (me := me) (hd := by omega) (hC := hC) (o_me := o_me) (t_me := t_me)) (fun o V_q hq => ?_)
    obtain ⟨F80, rfl, rfl, hC81, hM82, -⟩ := hq
    have hM83 : Fq 0 [(3, 5), (3, 6), (3, 7), (3, 8), (3, 9), (3, 10), (3, 11), (3, 13), (3, 14), (3, 16), (3, 17), (3, 19), (5, 2), (5, 3), (5, 4), (5, 5), (5, 6), (5, 7), (6, 4), (6, 6), (21, -5)] m tg F F80 := Fq_t (ln := ln) (ln1 := ln) hM0 Ex_r hM82 (by decide) (Or.inl rfl)
    have c84 : SB m tg F80 (kk) := SB_q c_SB hM82 rfl
    refine Or.inl ⟨rfl, ?_⟩
    refine jx_rt (v := none) rfl rfl rfl rfl rfl rfl ?_
    exact ⟨F80, rfl, rfl, hC81, hM83, SB_m c84 (by omega), trivial⟩
  by_cases h85 : a0 = 24
  · refine jx_swe (tg := 221) h85 rfl rfl rfl rfl ?_
    refine jx_ld (pc_q := 222) (l_q := L0) (st_q := [rv (me)]) rfl (jl_rvn g1) ?_
    refine cx_vi (c := 2) (a := me) (st := []) (as := []) rfl rfl rfl o_me t_me (by decide) rfl ⟨rfl, rfl, (Nat.le_of_ble_eq_true rfl)⟩ rfl (k_LCore_fail (dd := d) (R := R) (m := m) (tg := tg) (ln := ln) (F := F) (me := me) (hd := by omega) (hC := hC) (o_me := o_me) (t_me := t_me)) (fun o V_q hq => ?_)
    obtain ⟨F86, rfl, rfl, hC87, hM88, -⟩ := hq
    have hM89 : Fq 0 [(3, 5), (3, 6), (3, 7), (3, 8), (3, 9), (3, 10), (3, 11), (3, 13), (3, 14), (3, 16), (3, 17), (3, 19), (5, 2), (5, 3), (5, 4), (5, 5), (5, 6), (5, 7), (6, 4), (6, 6), (21, -5)] m tg F F86 := Fq_t (ln := ln) (ln1 := ln) hM0 Ex_r hM88 (by decide) (Or.inl rfl)
    have c90 : SB m tg F86 (kk) := SB_q c_SB hM88 rfl
    refine Or.inl ⟨rfl, ?_⟩
    refine jx_rt (v := none) rfl rfl rfl rfl rfl rfl ?_
    exact ⟨F86, rfl, rfl, hC87, hM89, SB_m c90 (by omega), trivial⟩
  by_cases h91 : a0 = 25
  · refine jx_swe (tg := 221) h91 rfl rfl rfl rfl ?_
    refine jx_ld (pc_q := 222) (l_q := L0) (st_q := [rv (me)]) rfl (jl_rvn g1) ?_
    refine cx_vi (c := 2) (a := me) (st := []) (as := []) rfl rfl rfl o_me t_me (by decide) rfl ⟨rfl, rfl, (Nat.le_of_ble_eq_true rfl)⟩ rfl (k_LCore_fail (dd := d) (R := R) (m := m) (tg := tg) (ln := ln) (F := F) (me := me) (hd := by omega) (hC := hC) (o_me := o_me) (t_me := t_me)) (fun o V_q hq => ?_)
    obtain ⟨F92, rfl, rfl, hC93, hM94, -⟩ := hq
    have hM95 : Fq 0 [(3, 5), (3, 6), (3, 7), (3, 8), (3, 9), (3, 10), (3, 11), (3, 13), (3, 14), (3, 16), (3, 17), (3, 19), (5, 2), (5, 3), (5, 4), (5, 5), (5, 6), (5, 7), (6, 4), (6, 6), (21, -5)] m tg F F92 := Fq_t (ln := ln) (ln1 := ln) hM0 Ex_r hM94 (by decide) (Or.inl rfl)
    have c96 : SB m tg F92 (kk) := SB_q c_SB hM94 rfl
    refine Or.inl ⟨rfl, ?_⟩
    refine jx_rt (v := none) rfl rfl rfl rfl rfl rfl ?_
    exact ⟨F92, rfl, rfl, hC93, hM95, SB_m c96 (by omega), trivial⟩
  by_cases h97 : a0 = 26
  · refine jx_swe (tg := 221) h97 rfl rfl rfl rfl ?_
    refine jx_ld (pc_q := 222) (l_q := L0) (st_q := [rv (me)]) rfl (jl_rvn g1) ?_
    refine cx_vi (c := 2) (a := me) (st := []) (as := []) rfl rfl rfl o_me t_me (by decide) rfl ⟨rfl, rfl, (Nat.le_of_ble_eq_true rfl)⟩ rfl (k_LCore_fail (dd := d) (R := R) (m := m) (tg := tg) (ln := ln) (F := F) (me := me) (hd := by omega) (hC := hC) (o_me := o_me) (t_me := t_me)) (fun o V_q hq => ?_)
    obtain ⟨F98, rfl, rfl, hC99, hM100, -⟩ := hq
    have hM101 : Fq 0 [(3, 5), (3, 6), (3, 7), (3, 8), (3, 9), (3, 10), (3, 11), (3, 13), (3, 14), (3, 16), (3, 17), (3, 19), (5, 2), (5, 3), (5, 4), (5, 5), (5, 6), (5, 7), (6, 4), (6, 6), (21, -5)] m tg F F98 := Fq_t (ln := ln) (ln1 := ln) hM0 Ex_r hM100 (by decide) (Or.inl rfl)
    have c102 : SB m tg F98 (kk) := SB_q c_SB hM100 rfl
    refine Or.inl ⟨rfl, ?_⟩
    refine jx_rt (v := none) rfl rfl rfl rfl rfl rfl ?_
    exact ⟨F98, rfl, rfl, hC99, hM101, SB_m c102 (by omega), trivial⟩
  by_cases h103 : a0 = 27
  · refine jx_swe (tg := 221) h103 rfl rfl rfl rfl ?_
    refine jx_ld (pc_q := 222) (l_q := L0) (st_q := [rv (me)]) rfl (jl_rvn g1) ?_
    refine cx_vi (c := 2) (a := me) (st := []) (as := []) rfl rfl rfl o_me t_me (by decide) rfl ⟨rfl, rfl, (Nat.le_of_ble_eq_true rfl)⟩ rfl (k_LCore_fail (dd := d) (R := R) (m := m) (tg := tg) (ln := ln) (F := F) (me := me) (hd := by omega) (hC := hC) (o_me := o_me) (t_me := t_me)) (fun o V_q hq => ?_)
    obtain ⟨F104, rfl, rfl, hC105, hM106, -⟩ := hq
    have hM107 : Fq 0 [(3, 5), (3, 6), (3, 7), (3, 8), (3, 9), (3, 10), (3, 11), (3, 13), (3, 14), (3, 16), (3, 17), (3, 19), (5, 2), (5, 3), (5, 4), (5, 5), (5, 6), (5, 7), (6, 4), (6, 6), (21, -5)] m tg F F104 := Fq_t (ln := ln) (ln1 := ln) hM0 Ex_r hM106 (by decide) (Or.inl rfl)
    have c108 : SB m tg F104 (kk) := SB_q c_SB hM106 rfl
    refine Or.inl ⟨rfl, ?_⟩
    refine jx_rt (v := none) rfl rfl rfl rfl rfl rfl ?_
    exact ⟨F104, rfl, rfl, hC105, hM107, SB_m c108 (by omega), trivial⟩
  by_cases h109 : a0 = 28
  · refine jx_swe (tg := 221) h109 rfl rfl rfl rfl ?_
    refine jx_ld (pc_q := 222) (l_q := L0) (st_q := [rv (me)]) rfl (jl_rvn g1) ?_
    refine cx_vi (c := 2) (a := me) (st := []) (as := []) rfl rfl rfl o_me t_me (by decide) rfl ⟨rfl, rfl, (Nat.le_of_ble_eq_true rfl)⟩ rfl (k_LCore_fail (dd := d) (R := R) (m := m) (tg := tg) (ln := ln) (F := F) (me := me) (hd := by omega) (hC := hC) (o_me := o_me) (t_me := t_me)) (fun o V_q hq => ?_)
    obtain ⟨F110, rfl, rfl, hC111, hM112, -⟩ := hq
    have hM113 : Fq 0 [(3, 5), (3, 6), (3, 7), (3, 8), (3, 9), (3, 10), (3, 11), (3, 13), (3, 14), (3, 16), (3, 17), (3, 19), (5, 2), (5, 3), (5, 4), (5, 5), (5, 6), (5, 7), (6, 4), (6, 6), (21, -5)] m tg F F110 := Fq_t (ln := ln) (ln1 := ln) hM0 Ex_r hM112 (by decide) (Or.inl rfl)
    have c114 : SB m tg F110 (kk) := SB_q c_SB hM112 rfl
    refine Or.inl ⟨rfl, ?_⟩
    refine jx_rt (v := none) rfl rfl rfl rfl rfl rfl ?_
    exact ⟨F110, rfl, rfl, hC111, hM113, SB_m c114 (by omega), trivial⟩
  by_cases h115 : a0 = 29
  · refine jx_swe (tg := 221) h115 rfl rfl rfl rfl ?_
    refine jx_ld (pc_q := 222) (l_q := L0) (st_q := [rv (me)]) rfl (jl_rvn g1) ?_
    refine cx_vi (c := 2) (a := me) (st := []) (as := []) rfl rfl rfl o_me t_me (by decide) rfl ⟨rfl, rfl, (Nat.le_of_ble_eq_true rfl)⟩ rfl (k_LCore_fail (dd := d) (R := R) (m := m) (tg := tg) (ln := ln) (F := F) (me := me) (hd := by omega) (hC := hC) (o_me := o_me) (t_me := t_me)) (fun o V_q hq => ?_)
    obtain ⟨F116, rfl, rfl, hC117, hM118, -⟩ := hq
    have hM119 : Fq 0 [(3, 5), (3, 6), (3, 7), (3, 8), (3, 9), (3, 10), (3, 11), (3, 13), (3, 14), (3, 16), (3, 17), (3, 19), (5, 2), (5, 3), (5, 4), (5, 5), (5, 6), (5, 7), (6, 4), (6, 6), (21, -5)] m tg F F116 := Fq_t (ln := ln) (ln1 := ln) hM0 Ex_r hM118 (by decide) (Or.inl rfl)
    have c120 : SB m tg F116 (kk) := SB_q c_SB hM118 rfl
    refine Or.inl ⟨rfl, ?_⟩
    refine jx_rt (v := none) rfl rfl rfl rfl rfl rfl ?_
    exact ⟨F116, rfl, rfl, hC117, hM119, SB_m c120 (by omega), trivial⟩
  by_cases h121 : a0 = 30
  · refine jx_swe (tg := 198) h121 rfl rfl rfl rfl ?_
    refine jx_ld (pc_q := 199) (l_q := L0) (st_q := [rv (me)]) rfl (jl_rvn g1) ?_
    refine jx_ld (pc_q := 200) (l_q := L0) (st_q := [rv (me), rv (me)]) rfl (jl_rvn g1) ?_
    refine cx_vi (c := 2) (a := me) (st := [rv (me)]) (as := []) rfl rfl rfl o_me t_me (by decide) rfl ⟨rfl, rfl, (by rw [jS_r, jS_0]; exact Nat.le_of_ble_eq_true rfl)⟩ rfl (k_LCore_self (dd := d) (R := R) (m := m) (tg := tg) (ln := ln) (F := F) (me := me) (hd := by omega) (hC := hC) (o_me := o_me) (t_me := t_me)) (fun o V_q hq => ?_)
    obtain ⟨r122, rfl, rfl, b123, -⟩ := hq
    refine Or.inr (Or.inl ⟨_, rfl, ?_⟩)
    refine cx_vi (c := 2) (a := me) (st := []) (as := [.int (i32 (r122))]) rfl rfl rfl o_me t_me (by decide) rfl ⟨rfl, rfl, (Nat.le_of_ble_eq_true rfl)⟩ rfl (k_LCore_push (dd := d) (R := R) (m := m) (tg := tg) (ln := ln) (F := F) (me := me) (a0 := r122) (hd := by omega) (hC := hC) (o_me := o_me) (t_me := t_me) (h_a0 := by omega)) (fun o V_q hq => ?_)
    obtain ⟨F124, rfl, rfl, hC125, hM126, -⟩ := hq
    have hM127 : Fq 0 [(3, 5), (3, 6), (3, 7), (3, 8), (3, 9), (3, 10), (3, 11), (3, 13), (3, 14), (3, 16), (3, 17), (3, 19), (5, 2), (5, 3), (5, 4), (5, 5), (5, 6), (5, 7), (6, 4), (6, 6), (21, -5)] m tg F F124 := Fq_t (ln := ln) (ln1 := ln) hM0 Ex_r hM126 (by decide) (Or.inl rfl)
    have c128 : SB m tg F124 (kk) := SB_q c_SB hM126 rfl
    refine Or.inl ⟨rfl, ?_⟩
    refine jx_go (tg := 225) rfl rfl ?_
    refine jx_rt (v := none) rfl rfl rfl rfl rfl rfl ?_
    exact ⟨F124, rfl, rfl, hC125, hM127, SB_m c128 (by omega), trivial⟩
  by_cases h129 : a0 = 31
  · refine jx_swe (tg := 209) h129 rfl rfl rfl rfl ?_
    refine jx_ld (pc_q := 210) (l_q := L0) (st_q := [rv (me)]) rfl (jl_rvn g1) ?_
    refine jx_ar (pc_q := 211) (st_q := [.int (i32 (1)), rv (me)]) rfl rfl rfl rfl ?_
    refine cx_pi (pc_q := 214) (c := 2) (q := 14) (qi := (14 : Int)) (z := 1) rfl rfl (by decide) (by decide) rfl rfl rfl (by decide) rfl o_me t_me rfl ?_
    obtain ⟨F130, eF130⟩ : ∃ q, q = uF F (me) (14 : Int) (1) := ⟨_, rfl⟩
    rw [← eF130]
    have hC131 : HC 0 m tg ln F130 := by rw [eF130]; exact HC_fi (c := 2) (q := 14) hC t_me (by decide) rfl (by omega) (by omega) ⟨fun w => absurd w (by decide), fun _ => ⟨fun w => absurd w (by decide), fun w => absurd w (by decide)⟩⟩
    have hM132 : Fq 0 [(3, 5), (3, 6), (3, 7), (3, 8), (3, 9), (3, 10), (3, 11), (3, 13), (3, 14), (3, 16), (3, 17), (3, 19), (5, 2), (5, 3), (5, 4), (5, 5), (5, 6), (5, 7), (6, 4), (6, 6), (21, -5)] m tg F F130 := by rw [eF130]; exact Fq_p hM0 t_me (fun _ => rfl) rfl
    have c133 : SB m tg F130 (kk) := by rw [eF130]; exact SB_u c_SB t_me (by omega)
    refine jx_ld (pc_q := 215) (l_q := L0) (st_q := [rv (me)]) rfl (jl_rvn g1) ?_
    refine cx_vi (c := 2) (a := me) (st := []) (as := []) rfl rfl rfl o_me t_me (by decide) rfl ⟨rfl, rfl, (Nat.le_of_ble_eq_true rfl)⟩ rfl (k_LCore_leave (dd := d) (R := R) (m := m) (tg := tg) (ln := ln) (F := F130) (me := me) (hd := by omega) (hC := hC131) (o_me := o_me) (t_me := t_me)) (fun o V_q hq => ?_)
    obtain ⟨F134, rfl, rfl, hC135, hM136, -⟩ := hq
    have hM137 : Fq 0 [(3, 5), (3, 6), (3, 7), (3, 8), (3, 9), (3, 10), (3, 11), (3, 13), (3, 14), (3, 16), (3, 17), (3, 19), (5, 2), (5, 3), (5, 4), (5, 5), (5, 6), (5, 7), (6, 4), (6, 6), (21, -5)] m tg F F134 := Fq_t (ln := ln) (ln1 := ln) hM132 Ex_r hM136 (by decide) (Or.inl rfl)
    have c138 : SB m tg F134 (kk) := SB_q c133 hM136 rfl
    refine Or.inl ⟨rfl, ?_⟩
    refine jx_go (tg := 225) rfl rfl ?_
    refine jx_rt (v := none) rfl rfl rfl rfl rfl rfl ?_
    exact ⟨F134, rfl, rfl, hC135, hM137, SB_m c138 (by omega), trivial⟩
  refine jx_swt (tg := 221) (by omega) (by omega) rfl (by omega) rfl ?_
  refine jx_ld (pc_q := 222) (l_q := L0) (st_q := [rv (me)]) rfl (jl_rvn g1) ?_
  refine cx_vi (c := 2) (a := me) (st := []) (as := []) rfl rfl rfl o_me t_me (by decide) rfl ⟨rfl, rfl, (Nat.le_of_ble_eq_true rfl)⟩ rfl (k_LCore_fail (dd := d) (R := R) (m := m) (tg := tg) (ln := ln) (F := F) (me := me) (hd := by omega) (hC := hC) (o_me := o_me) (t_me := t_me)) (fun o V_q hq => ?_)
  obtain ⟨F139, rfl, rfl, hC140, hM141, -⟩ := hq
  have hM142 : Fq 0 [(3, 5), (3, 6), (3, 7), (3, 8), (3, 9), (3, 10), (3, 11), (3, 13), (3, 14), (3, 16), (3, 17), (3, 19), (5, 2), (5, 3), (5, 4), (5, 5), (5, 6), (5, 7), (6, 4), (6, 6), (21, -5)] m tg F F139 := Fq_t (ln := ln) (ln1 := ln) hM0 Ex_r hM141 (by decide) (Or.inl rfl)
  have c143 : SB m tg F139 (kk) := SB_q c_SB hM141 rfl
  refine Or.inl ⟨rfl, ?_⟩
  refine jx_rt (v := none) rfl rfl rfl rfl rfl rfl ?_
  exact ⟨F139, rfl, rfl, hC140, hM142, SB_m c143 (by omega), trivial⟩
set_option maxRecDepth 20000 in
set_option maxHeartbeats 4000000 in
theorem k_LCore_step_at_199 {X : jX} {d : Nat} {R : Nat → jC} {m : Nat} {tg ln : Int → Int} {F : Int → Int → Int} {kk : Int} {me : Int} (hd : 6 ≤ d + 1) (hC : HC 0 m tg ln F) (o_me : own m me) (t_me : tg me = 3) (p_0 : kk ≤ 2147483646) (c_SB : SB m tg F (kk)) : ∀ (L : jL) (Fx : Int → Int → Int), jGet L 0 = some (rv (me)) → HC 0 m tg ln Fx → Fq 0 [(3, 5), (3, 6), (3, 7), (3, 8), (3, 9), (3, 10), (3, 11), (3, 12), (3, 13), (3, 14), (3, 16), (3, 17), (3, 18), (3, 19), (3, 20), (5, 2), (5, 3), (5, 4), (5, 5), (5, 6), (5, 7), (6, 4), (6, 6), (21, -5)] m tg F Fx → (SB m tg Fx (kk + 1)) → wj X d jm105 (199, L, [], cV R m tg ln Fx) (fun o V_q => ∃ (F_q : Int → Int → Int), V_q = cV R m tg ln F_q ∧ o = .inl none ∧ HC 0 m tg ln F_q ∧ Fq 0 [(3, 5), (3, 6), (3, 7), (3, 8), (3, 9), (3, 10), (3, 11), (3, 12), (3, 13), (3, 14), (3, 16), (3, 17), (3, 18), (3, 19), (3, 20), (5, 2), (5, 3), (5, 4), (5, 5), (5, 6), (5, 7), (6, 4), (6, 6), (21, -5)] m tg F F_q ∧ (SB m tg F_q (kk + 1)) ∧ True) := by
  intro L Fx gL_0 hCx hMx cx_SB
  refine jx_ld (pc_q := 200) (l_q := L) (st_q := [rv (me)]) rfl (jl_rvn gL_0) ?_
  refine cx_vi (c := 2) (a := me) (st := []) (as := []) rfl rfl rfl o_me t_me (by decide) rfl ⟨rfl, rfl, (Nat.le_of_ble_eq_true rfl)⟩ rfl (k_LCore_settle (dd := d) (R := R) (m := m) (tg := tg) (ln := ln) (F := Fx) (me := me) (hd := by omega) (hC := hCx) (o_me := o_me) (t_me := t_me)) (fun o V_q hq => ?_)
  obtain ⟨F1, rfl, rfl, hC2, hM3, -⟩ := hq
  have hM4 : Fq 0 [(3, 5), (3, 6), (3, 7), (3, 8), (3, 9), (3, 10), (3, 11), (3, 12), (3, 13), (3, 14), (3, 16), (3, 17), (3, 18), (3, 19), (3, 20), (5, 2), (5, 3), (5, 4), (5, 5), (5, 6), (5, 7), (6, 4), (6, 6), (21, -5)] m tg F F1 := Fq_t (ln := ln) (ln1 := ln) hMx Ex_r hM3 (by decide) (Or.inl rfl)
  have c5 : SB m tg F1 (kk + 1) := SB_q cx_SB hM3 rfl
  refine Or.inl ⟨rfl, ?_⟩
  refine jx_rt (v := none) rfl rfl rfl rfl rfl rfl ?_
  exact ⟨F1, rfl, rfl, hC2, hM4, SB_m c5 (by omega), trivial⟩
set_option maxRecDepth 20000 in
set_option maxHeartbeats 4000000 in
theorem k_LCore_step {X : jX} {dd : Nat} {R : Nat → jC} {m : Nat} {tg ln : Int → Int} {F : Int → Int → Int} {kk : Int} {me : Int} (hd : 6 ≤ dd) (hC : HC 0 m tg ln F) (o_me : own m me) (t_me : tg me = 3) (p_0 : kk ≤ 2147483646) (c_SB : SB m tg F (kk)) : wk X dd 105 [rv me] (cV R m tg ln F) (fun o V_q => ∃ (F_q : Int → Int → Int), V_q = cV R m tg ln F_q ∧ o = .inl none ∧ HC 0 m tg ln F_q ∧ Fq 0 [(3, 5), (3, 6), (3, 7), (3, 8), (3, 9), (3, 10), (3, 11), (3, 12), (3, 13), (3, 14), (3, 16), (3, 17), (3, 18), (3, 19), (3, 20), (5, 2), (5, 3), (5, 4), (5, 5), (5, 6), (5, 7), (6, 4), (6, 6), (21, -5)] m tg F F_q ∧ (SB m tg F_q (kk + 1)) ∧ True) := by
  obtain ⟨d, rfl⟩ : ∃ d, dd = d + 1 := ⟨dd - 1, by omega⟩
  refine wk_of (e := jm105) rfl (by rw [jS_r, jS_0]; exact Nat.le_of_ble_eq_true rfl) ?_
  rw [la_r, la_0]
  show wj X d jm105 (0, [(0, rv (me))], [], cV R m tg ln F) _
  have hM0 : Fq 0 [(3, 5), (3, 6), (3, 7), (3, 8), (3, 9), (3, 10), (3, 11), (3, 12), (3, 13), (3, 14), (3, 16), (3, 17), (3, 18), (3, 19), (3, 20), (5, 2), (5, 3), (5, 4), (5, 5), (5, 6), (5, 7), (6, 4), (6, 6), (21, -5)] m tg F F := Fq_r
  obtain ⟨L0, eL0⟩ : ∃ q : jL, q = [(0, rv (me))] := ⟨_, rfl⟩
  rw [← eL0]
  have g6 : jGet L0 0 = some (rv (me)) := eL0 ▸ (rfl : jGet [(0, rv (me))] 0 = some (rv (me)))
  clear eL0
  refine jx_ld (pc_q := 1) (l_q := L0) (st_q := [rv (me)]) rfl (jl_rvn g6) ?_
  refine cx_gi (pc_q := 4) (c := 2) (q := 11) (v := F (me) (11 : Int)) rfl rfl (by decide) (by decide) (Or.inr rfl) rfl o_me t_me rfl ?_
  have b7 : (0 : Int) ≤ F (me) (11 : Int) ∧ F (me) (11 : Int) ≤ 1 := by have z := HC_i (c := 2) (q := 11) hC o_me t_me (by decide) rfl; rw [show F (me) ((11 : Nat) : Int) = F (me) (11 : Int) from rfl] at z; exact z
  refine jx_if_ne (pc_q := 7) (tg := 8) rfl rfl rfl (by omega) (by omega) (fun h8 => ?_) (fun h8 => ?_)
  · have _q := h8
    refine jx_ld (pc_q := 9) (l_q := L0) (st_q := [rv (me)]) rfl (jl_rvn g6) ?_
    refine cx_gi (pc_q := 12) (c := 2) (q := 8) (v := F (me) (8 : Int)) rfl rfl (by decide) (by decide) (Or.inl rfl) rfl o_me t_me rfl ?_
    have b9 : (-2147483648 : Int) ≤ F (me) (8 : Int) ∧ F (me) (8 : Int) ≤ 2147483647 := by have z := HC_i (c := 2) (q := 8) hC o_me t_me (by decide) rfl; rw [show F (me) ((8 : Nat) : Int) = F (me) (8 : Int) from rfl] at z; exact z
    refine jx_if_lt (pc_q := 15) (tg := 27) rfl rfl rfl (by omega) (by omega) (fun h10 => ?_) (fun h10 => ?_)
    · have _q := h10
      refine jx_ld (pc_q := 28) (l_q := L0) (st_q := [rv (me)]) rfl (jl_rvn g6) ?_
      refine cx_vi (c := 2) (a := me) (st := []) (as := []) rfl rfl rfl o_me t_me (by decide) rfl ⟨rfl, rfl, (Nat.le_of_ble_eq_true rfl)⟩ rfl (k_LCore_fail (dd := d) (R := R) (m := m) (tg := tg) (ln := ln) (F := F) (me := me) (hd := by omega) (hC := hC) (o_me := o_me) (t_me := t_me)) (fun o V_q hq => ?_)
      obtain ⟨F11, rfl, rfl, hC12, hM13, -⟩ := hq
      have hM14 : Fq 0 [(3, 5), (3, 6), (3, 7), (3, 8), (3, 9), (3, 10), (3, 11), (3, 12), (3, 13), (3, 14), (3, 16), (3, 17), (3, 18), (3, 19), (3, 20), (5, 2), (5, 3), (5, 4), (5, 5), (5, 6), (5, 7), (6, 4), (6, 6), (21, -5)] m tg F F11 := Fq_t (ln := ln) (ln1 := ln) hM0 Ex_r hM13 (by decide) (Or.inl rfl)
      have c15 : SB m tg F11 (kk) := SB_q c_SB hM13 rfl
      refine Or.inl ⟨rfl, ?_⟩
      refine jx_ld (pc_q := 32) (l_q := L0) (st_q := [rv (me)]) rfl (jl_rvn g6) ?_
      refine cx_vi (c := 2) (a := me) (st := []) (as := []) rfl rfl rfl o_me t_me (by decide) rfl ⟨rfl, rfl, (Nat.le_of_ble_eq_true rfl)⟩ rfl (k_LCore_settle (dd := d) (R := R) (m := m) (tg := tg) (ln := ln) (F := F11) (me := me) (hd := by omega) (hC := hC12) (o_me := o_me) (t_me := t_me)) (fun o V_q hq => ?_)
      obtain ⟨F16, rfl, rfl, hC17, hM18, -⟩ := hq
      have hM19 : Fq 0 [(3, 5), (3, 6), (3, 7), (3, 8), (3, 9), (3, 10), (3, 11), (3, 12), (3, 13), (3, 14), (3, 16), (3, 17), (3, 18), (3, 19), (3, 20), (5, 2), (5, 3), (5, 4), (5, 5), (5, 6), (5, 7), (6, 4), (6, 6), (21, -5)] m tg F F16 := Fq_t (ln := ln) (ln1 := ln) hM14 Ex_r hM18 (by decide) (Or.inl rfl)
      have c20 : SB m tg F16 (kk) := SB_q c15 hM18 rfl
      refine Or.inl ⟨rfl, ?_⟩
      refine jx_rt (v := none) rfl rfl rfl rfl rfl rfl ?_
      exact ⟨F16, rfl, rfl, hC17, hM19, SB_m c20 (by omega), trivial⟩
    · have _q := h10
      refine jx_ld (pc_q := 16) (l_q := L0) (st_q := [rv (me)]) rfl (jl_rvn g6) ?_
      refine cx_gi (pc_q := 19) (c := 2) (q := 8) (v := F (me) (8 : Int)) rfl rfl (by decide) (by decide) (Or.inl rfl) rfl o_me t_me rfl ?_
      refine jx_ld (pc_q := 20) (l_q := L0) (st_q := [rv (me), .int (i32 (F (me) (8 : Int)))]) rfl (jl_rvn g6) ?_
      refine cx_gr (pc_q := 23) (c := 2) (q := 1) (v := F (me) (1 : Int)) rfl rfl (by decide) (by decide) rfl rfl o_me t_me rfl ?_
      have y21 : own m (F (me) (1 : Int)) ∧ tg (F (me) (1 : Int)) = 20 ∧ ((0 : Int) ≠ 0 → ln (F (me) (1 : Int)) = 0) := by have z := HC_n (c := 2) (q := 1) hC o_me t_me (own_z o_me) (by decide) rfl; rw [show F (me) ((1 : Nat) : Int) = F (me) (1 : Int) from rfl] at z; exact ⟨z.1, z.2.1, z.2.2.1⟩
      have b22 := HC_l hC y21.1 y21.2.1 (by decide)
      refine cx_len (pc_q := 24) rfl rfl y21.1 (by rw [y21.2.1]; decide) (by omega) ?_
      refine jx_icmp_lt (pc_q := 27) (tg := 36) rfl rfl rfl (by omega) (by omega) (by omega) (by omega) (fun h23 => ?_) (fun h23 => ?_)
      · have _q := h23
        refine jx_ld (pc_q := 37) (l_q := L0) (st_q := [rv (me)]) rfl (jl_rvn g6) ?_
        refine cx_gr (pc_q := 40) (c := 2) (q := 1) (v := F (me) (1 : Int)) rfl rfl (by decide) (by decide) rfl rfl o_me t_me rfl ?_
        refine jx_ld (pc_q := 41) (l_q := L0) (st_q := [rv (me), rv (F (me) (1 : Int))]) rfl (jl_rvn g6) ?_
        refine cx_gi (pc_q := 44) (c := 2) (q := 8) (v := F (me) (8 : Int)) rfl rfl (by decide) (by decide) (Or.inl rfl) rfl o_me t_me rfl ?_
        refine cx_bal (pc_q := 45) (z := F (me) (8 : Int)) rfl rfl y21.1 (Or.inl y21.2.1) (by omega) (by omega) (by omega) ?_
        have b24 : (-2147483648 : Int) ≤ F (F (me) (1 : Int)) (F (me) (8 : Int)) ∧ F (F (me) (1 : Int)) (F (me) (8 : Int)) ≤ 2147483647 := by have z := HC_ei (j := F (me) (8 : Int)) hC y21.1 (by rw [y21.2.1]; decide) (by omega); exact z
        refine jx_ld (pc_q := 46) (l_q := jSto1 L0 1 (.int (i32 (F (F (me) (1 : Int)) (F (me) (8 : Int)))))) (st_q := []) rfl rfl ?_
        obtain ⟨L25, eL25⟩ : ∃ q : jL, q = jSto1 L0 1 (.int (i32 (F (F (me) (1 : Int)) (F (me) (8 : Int))))) := ⟨_, rfl⟩
        rw [← eL25]
        have g26 : jGet L25 0 = some (rv (me)) := eL25 ▸ jg_nr (by decide) g6
        have g27 : jGet L25 1 = some (.int (i32 (F (F (me) (1 : Int)) (F (me) (8 : Int))))) := eL25 ▸ jg_eq
        clear eL25
        refine jx_ld (pc_q := 47) (l_q := L25) (st_q := [.int (i32 (F (F (me) (1 : Int)) (F (me) (8 : Int))))]) rfl (jl_iloadn g27) ?_
        refine jx_ar (pc_q := 48) (st_q := [.int (i32 (4)), .int (i32 (F (F (me) (1 : Int)) (F (me) (8 : Int))))]) rfl rfl rfl rfl ?_
        refine jx_shr (pc_q := 49) rfl rfl ?_
        obtain ⟨z28, ez28⟩ : ∃ q, q = (i32 (F (F (me) (1 : Int)) (F (me) (8 : Int))) >>> (i32 (4) &&& 31)).toInt := ⟨_, rfl⟩
        rw [← ez28]
        have bz28 : (-2147483648 : Int) ≤ z28 ∧ z28 ≤ 2147483647 := ez28 ▸ i32_rg _
        clear ez28
        refine jx_ar (pc_q := 51) (st_q := [.int (i32 (15)), .int (i32 (z28))]) rfl rfl rfl rfl ?_
        refine jx_and (pc_q := 52) rfl rfl ?_
        obtain ⟨z29, ez29⟩ : ∃ q, q = (i32 (z28) &&& i32 (15)).toInt := ⟨_, rfl⟩
        rw [← ez29]
        have bz29 : (-2147483648 : Int) ≤ z29 ∧ z29 ≤ 2147483647 := ez29 ▸ i32_rg _
        have cz29 : 0 ≤ z29 ∧ z29 ≤ 15 := ez29 ▸ and_le (by decide) (by decide)
        clear ez29
        refine jx_ld (pc_q := 53) (l_q := jSto1 L25 2 (.int (i32 (z29)))) (st_q := []) rfl rfl ?_
        obtain ⟨L30, eL30⟩ : ∃ q : jL, q = jSto1 L25 2 (.int (i32 (z29))) := ⟨_, rfl⟩
        rw [← eL30]
        have g31 : jGet L30 0 = some (rv (me)) := eL30 ▸ jg_nr (by decide) g26
        have g32 : jGet L30 1 = some (.int (i32 (F (F (me) (1 : Int)) (F (me) (8 : Int))))) := eL30 ▸ jg_ne (by decide) g27 rfl
        have g33 : jGet L30 2 = some (.int (i32 (z29))) := eL30 ▸ jg_eq
        clear eL30
        refine jx_ld (pc_q := 54) (l_q := L30) (st_q := [rv (me)]) rfl (jl_rvn g31) ?_
        refine jx_ar (pc_q := 55) (st_q := [rv (me), rv (me)]) rfl rfl ja_dup rfl ?_
        refine cx_gi (pc_q := 58) (c := 2) (q := 8) (v := F (me) (8 : Int)) rfl rfl (by decide) (by decide) (Or.inl rfl) rfl o_me t_me rfl ?_
        refine jx_ar (pc_q := 59) (st_q := [.int (i32 (1)), .int (i32 (F (me) (8 : Int))), rv (me)]) rfl rfl rfl rfl ?_
        refine jx_add (pc_q := 60) rfl rfl ?_
        refine cx_pi (pc_q := 63) (c := 2) (q := 8) (qi := (8 : Int)) (z := (F (me) (8 : Int) + 1)) rfl rfl (by decide) (by decide) rfl rfl rfl (by decide) rfl o_me t_me rfl ?_
        obtain ⟨F34, eF34⟩ : ∃ q, q = uF F (me) (8 : Int) ((F (me) (8 : Int) + 1)) := ⟨_, rfl⟩
        rw [← eF34]
        have hC35 : HC 0 m tg ln F34 := by rw [eF34]; exact HC_fi (c := 2) (q := 8) hC t_me (by decide) rfl (by omega) (by omega) ⟨fun w => absurd w (by decide), fun _ => ⟨fun w => absurd w (by decide), fun w => absurd w (by decide)⟩⟩
        have hM36 : Fq 0 [(3, 5), (3, 6), (3, 7), (3, 8), (3, 9), (3, 10), (3, 11), (3, 12), (3, 13), (3, 14), (3, 16), (3, 17), (3, 18), (3, 19), (3, 20), (5, 2), (5, 3), (5, 4), (5, 5), (5, 6), (5, 7), (6, 4), (6, 6), (21, -5)] m tg F F34 := by rw [eF34]; exact Fq_p hM0 t_me (fun _ => rfl) rfl
        have c37 : SB m tg F34 (kk) := by rw [eF34]; exact SB_u c_SB t_me (by omega)
        refine jx_ld (pc_q := 64) (l_q := L30) (st_q := [rv (me)]) rfl (jl_rvn g31) ?_
        refine jx_ar (pc_q := 65) (st_q := [rv (me), rv (me)]) rfl rfl ja_dup rfl ?_
        refine cx_gi (pc_q := 68) (c := 2) (q := 18) (v := F (me) (18 : Int)) rfl rfl (by decide) (by decide) (Or.inl rfl) rfl o_me t_me (show F34 (me) (18 : Int) = F (me) (18 : Int) from by rw [eF34]; exact uF_j (by decide)) ?_
        have b38 : (-2147483648 : Int) ≤ F (me) (18 : Int) ∧ F (me) (18 : Int) ≤ 2147483647 := by have z := HC_i (c := 2) (q := 18) hC35 o_me t_me (by decide) rfl; rw [show F34 (me) ((18 : Nat) : Int) = F (me) (18 : Int) from (show F34 (me) (18 : Int) = F (me) (18 : Int) from by rw [eF34]; exact uF_j (by decide))] at z; exact z
        refine jx_ar (pc_q := 69) (st_q := [.int (i32 (1)), .int (i32 (F (me) (18 : Int))), rv (me)]) rfl rfl rfl rfl ?_
        refine jx_add (pc_q := 70) rfl rfl ?_
        obtain ⟨z39, ez39⟩ : ∃ q, q = (i32 ((F (me) (18 : Int) + 1))).toInt := ⟨_, rfl⟩
        have bz39 : (-2147483648 : Int) ≤ z39 ∧ z39 ≤ 2147483647 := ez39 ▸ i32_rg _
        rw [show i32 ((F (me) (18 : Int) + 1)) = i32 z39 by rw [ez39, i32_of]]
        clear ez39
        refine cx_pi (pc_q := 73) (c := 2) (q := 18) (qi := (18 : Int)) (z := z39) rfl rfl (by decide) (by decide) rfl rfl rfl (by decide) rfl o_me t_me rfl ?_
        obtain ⟨F40, eF40⟩ : ∃ q, q = uF F34 (me) (18 : Int) (z39) := ⟨_, rfl⟩
        rw [← eF40]
        have hC41 : HC 0 m tg ln F40 := by rw [eF40]; exact HC_fi (c := 2) (q := 18) hC35 t_me (by decide) rfl (by omega) (by omega) ⟨fun w => absurd w (by decide), fun _ => ⟨fun w => absurd w (by decide), fun w => absurd w (by decide)⟩⟩
        have hM42 : Fq 0 [(3, 5), (3, 6), (3, 7), (3, 8), (3, 9), (3, 10), (3, 11), (3, 12), (3, 13), (3, 14), (3, 16), (3, 17), (3, 18), (3, 19), (3, 20), (5, 2), (5, 3), (5, 4), (5, 5), (5, 6), (5, 7), (6, 4), (6, 6), (21, -5)] m tg F F40 := by rw [eF40]; exact Fq_p hM36 t_me (fun _ => rfl) rfl
        have c43 : SB m tg F40 (kk) := by rw [eF40]; exact SB_u c37 t_me (by omega)
        refine jx_ld (pc_q := 74) (l_q := L30) (st_q := [rv (me)]) rfl (jl_rvn g31) ?_
        refine jx_ar (pc_q := 75) (st_q := [rv (me), rv (me)]) rfl rfl ja_dup rfl ?_
        refine cx_gi (pc_q := 78) (c := 2) (q := 19) (v := F (me) (19 : Int)) rfl rfl (by decide) (by decide) (Or.inl rfl) rfl o_me t_me ((show F40 (me) (19 : Int) = F34 (me) (19 : Int) from by rw [eF40]; exact uF_j (by decide)).trans (show F34 (me) (19 : Int) = F (me) (19 : Int) from by rw [eF34]; exact uF_j (by decide))) ?_
        have b44 : (-2147483648 : Int) ≤ F (me) (19 : Int) ∧ F (me) (19 : Int) ≤ 2147483647 := by have z := HC_i (c := 2) (q := 19) hC41 o_me t_me (by decide) rfl; rw [show F40 (me) ((19 : Nat) : Int) = F (me) (19 : Int) from ((show F40 (me) (19 : Int) = F34 (me) (19 : Int) from by rw [eF40]; exact uF_j (by decide)).trans (show F34 (me) (19 : Int) = F (me) (19 : Int) from by rw [eF34]; exact uF_j (by decide)))] at z; exact z
        refine jx_ar (pc_q := 79) (st_q := [.int (i32 (1)), .int (i32 (F (me) (19 : Int))), rv (me)]) rfl rfl rfl rfl ?_
        refine jx_add (pc_q := 80) rfl rfl ?_
        obtain ⟨z45, ez45⟩ : ∃ q, q = (i32 ((F (me) (19 : Int) + 1))).toInt := ⟨_, rfl⟩
        have bz45 : (-2147483648 : Int) ≤ z45 ∧ z45 ≤ 2147483647 := ez45 ▸ i32_rg _
        rw [show i32 ((F (me) (19 : Int) + 1)) = i32 z45 by rw [ez45, i32_of]]
        clear ez45
        refine cx_pi (pc_q := 83) (c := 2) (q := 19) (qi := (19 : Int)) (z := z45) rfl rfl (by decide) (by decide) rfl rfl rfl (by decide) rfl o_me t_me rfl ?_
        obtain ⟨F46, eF46⟩ : ∃ q, q = uF F40 (me) (19 : Int) (z45) := ⟨_, rfl⟩
        rw [← eF46]
        have hC47 : HC 0 m tg ln F46 := by rw [eF46]; exact HC_fi (c := 2) (q := 19) hC41 t_me (by decide) rfl (by omega) (by omega) ⟨fun w => absurd w (by decide), fun _ => ⟨fun w => absurd w (by decide), fun w => absurd w (by decide)⟩⟩
        have hM48 : Fq 0 [(3, 5), (3, 6), (3, 7), (3, 8), (3, 9), (3, 10), (3, 11), (3, 12), (3, 13), (3, 14), (3, 16), (3, 17), (3, 18), (3, 19), (3, 20), (5, 2), (5, 3), (5, 4), (5, 5), (5, 6), (5, 7), (6, 4), (6, 6), (21, -5)] m tg F F46 := by rw [eF46]; exact Fq_p hM42 t_me (fun _ => rfl) rfl
        have c49 : SB m tg F46 (kk) := by rw [eF46]; exact SB_u c43 t_me (by omega)
        refine jx_ld (pc_q := 84) (l_q := L30) (st_q := [rv (me)]) rfl (jl_rvn g31) ?_
        refine jx_ar (pc_q := 85) (st_q := [rv (me), rv (me)]) rfl rfl ja_dup rfl ?_
        refine cx_gi (pc_q := 88) (c := 2) (q := 10) (v := F (me) (10 : Int)) rfl rfl (by decide) (by decide) (Or.inl rfl) rfl o_me t_me ((show F46 (me) (10 : Int) = F40 (me) (10 : Int) from by rw [eF46]; exact uF_j (by decide)).trans ((show F40 (me) (10 : Int) = F34 (me) (10 : Int) from by rw [eF40]; exact uF_j (by decide)).trans (show F34 (me) (10 : Int) = F (me) (10 : Int) from by rw [eF34]; exact uF_j (by decide)))) ?_
        have b50 : (-2147483648 : Int) ≤ F (me) (10 : Int) ∧ F (me) (10 : Int) ≤ 2147483647 := by have z := HC_i (c := 2) (q := 10) hC47 o_me t_me (by decide) rfl; rw [show F46 (me) ((10 : Nat) : Int) = F (me) (10 : Int) from ((show F46 (me) (10 : Int) = F40 (me) (10 : Int) from by rw [eF46]; exact uF_j (by decide)).trans ((show F40 (me) (10 : Int) = F34 (me) (10 : Int) from by rw [eF40]; exact uF_j (by decide)).trans (show F34 (me) (10 : Int) = F (me) (10 : Int) from by rw [eF34]; exact uF_j (by decide))))] at z; exact z
        refine jx_ld (pc_q := 89) (l_q := L30) (st_q := [.int (i32 (F (F (me) (1 : Int)) (F (me) (8 : Int)))), .int (i32 (F (me) (10 : Int))), rv (me)]) rfl (jl_iloadn g32) ?_
        refine jx_ar (pc_q := 91) (st_q := [.int (i32 (15)), .int (i32 (F (F (me) (1 : Int)) (F (me) (8 : Int)))), .int (i32 (F (me) (10 : Int))), rv (me)]) rfl rfl rfl rfl ?_
        refine jx_and (pc_q := 92) rfl rfl ?_
        obtain ⟨z51, ez51⟩ : ∃ q, q = (i32 (F (F (me) (1 : Int)) (F (me) (8 : Int))) &&& i32 (15)).toInt := ⟨_, rfl⟩
        rw [← ez51]
        have bz51 : (-2147483648 : Int) ≤ z51 ∧ z51 ≤ 2147483647 := ez51 ▸ i32_rg _
        have cz51 : 0 ≤ z51 ∧ z51 ≤ 15 := ez51 ▸ and_le (by decide) (by decide)
        clear ez51
        refine jx_or (pc_q := 93) rfl rfl ?_
        obtain ⟨z52, ez52⟩ : ∃ q, q = (i32 (F (me) (10 : Int)) ||| i32 (z51)).toInt := ⟨_, rfl⟩
        rw [← ez52]
        have bz52 : (-2147483648 : Int) ≤ z52 ∧ z52 ≤ 2147483647 := ez52 ▸ i32_rg _
        clear ez52
        refine cx_pi (pc_q := 96) (c := 2) (q := 10) (qi := (10 : Int)) (z := z52) rfl rfl (by decide) (by decide) rfl rfl rfl (by decide) rfl o_me t_me rfl ?_
        obtain ⟨F53, eF53⟩ : ∃ q, q = uF F46 (me) (10 : Int) (z52) := ⟨_, rfl⟩
        rw [← eF53]
        have hC54 : HC 0 m tg ln F53 := by rw [eF53]; exact HC_fi (c := 2) (q := 10) hC47 t_me (by decide) rfl (by omega) (by omega) ⟨fun w => absurd w (by decide), fun _ => ⟨fun w => absurd w (by decide), fun w => absurd w (by decide)⟩⟩
        have hM55 : Fq 0 [(3, 5), (3, 6), (3, 7), (3, 8), (3, 9), (3, 10), (3, 11), (3, 12), (3, 13), (3, 14), (3, 16), (3, 17), (3, 18), (3, 19), (3, 20), (5, 2), (5, 3), (5, 4), (5, 5), (5, 6), (5, 7), (6, 4), (6, 6), (21, -5)] m tg F F53 := by rw [eF53]; exact Fq_p hM48 t_me (fun _ => rfl) rfl
        have c56 : SB m tg F53 (kk) := by rw [eF53]; exact SB_u c49 t_me (by omega)
        refine jx_ld (pc_q := 97) (l_q := L30) (st_q := [.int (i32 (z29))]) rfl (jl_iloadn g33) ?_
        refine jx_ar (pc_q := 98) (st_q := [.int (i32 (2)), .int (i32 (z29))]) rfl rfl rfl rfl ?_
        refine jx_icmp_ne (pc_q := 101) (tg := 114) rfl rfl rfl (by omega) (by omega) (by decide) (by decide) (fun h57 => ?_) (fun h57 => ?_)
        · have _q := h57
          refine jx_ld (pc_q := 115) (l_q := L30) (st_q := [.int (i32 (z29))]) rfl (jl_iloadn g33) ?_
          refine jx_ar (pc_q := 117) (st_q := [.int (i32 (6)), .int (i32 (z29))]) rfl rfl rfl rfl ?_
          refine jx_icmp_ne (pc_q := 120) (tg := 135) rfl rfl rfl (by omega) (by omega) (by decide) (by decide) (fun h58 => ?_) (fun h58 => ?_)
          · have _q := h58
            refine jx_ld (pc_q := 136) (l_q := L30) (st_q := [rv (me)]) rfl (jl_rvn g31) ?_
            refine cx_gi (pc_q := 139) (c := 2) (q := 10) (v := z52) rfl rfl (by decide) (by decide) (Or.inl rfl) rfl o_me t_me (show F53 (me) (10 : Int) = z52 from by rw [eF53]; exact uF_e) ?_
            refine jx_ld (pc_q := 140) (l_q := jSto1 L30 3 (.int (i32 (z52)))) (st_q := []) rfl rfl ?_
            obtain ⟨L59, eL59⟩ : ∃ q : jL, q = jSto1 L30 3 (.int (i32 (z52))) := ⟨_, rfl⟩
            rw [← eL59]
            have g60 : jGet L59 0 = some (rv (me)) := eL59 ▸ jg_nr (by decide) g31
            have g61 : jGet L59 1 = some (.int (i32 (F (F (me) (1 : Int)) (F (me) (8 : Int))))) := eL59 ▸ jg_ne (by decide) g32 rfl
            have g62 : jGet L59 2 = some (.int (i32 (z29))) := eL59 ▸ jg_ne (by decide) g33 rfl
            have g63 : jGet L59 3 = some (.int (i32 (z52))) := eL59 ▸ jg_eq
            clear eL59
            refine jx_ld (pc_q := 141) (l_q := L59) (st_q := [rv (me)]) rfl (jl_rvn g60) ?_
            refine jx_ar (pc_q := 142) (st_q := [.int (i32 (0)), rv (me)]) rfl rfl rfl rfl ?_
            refine cx_pi (pc_q := 145) (c := 2) (q := 10) (qi := (10 : Int)) (z := 0) rfl rfl (by decide) (by decide) rfl rfl rfl (by decide) rfl o_me t_me rfl ?_
            obtain ⟨F64, eF64⟩ : ∃ q, q = uF F53 (me) (10 : Int) (0) := ⟨_, rfl⟩
            rw [← eF64]
            have hC65 : HC 0 m tg ln F64 := by rw [eF64]; exact HC_fi (c := 2) (q := 10) hC54 t_me (by decide) rfl (by omega) (by omega) ⟨fun w => absurd w (by decide), fun _ => ⟨fun w => absurd w (by decide), fun w => absurd w (by decide)⟩⟩
            have hM66 : Fq 0 [(3, 5), (3, 6), (3, 7), (3, 8), (3, 9), (3, 10), (3, 11), (3, 12), (3, 13), (3, 14), (3, 16), (3, 17), (3, 18), (3, 19), (3, 20), (5, 2), (5, 3), (5, 4), (5, 5), (5, 6), (5, 7), (6, 4), (6, 6), (21, -5)] m tg F F64 := by rw [eF64]; exact Fq_p hM55 t_me (fun _ => rfl) rfl
            have c67 : SB m tg F64 (kk) := by rw [eF64]; exact SB_u c56 t_me (by omega)
            refine jx_ld (pc_q := 146) (l_q := L59) (st_q := [.int (i32 (z29))]) rfl (jl_iloadn g62) ?_
            refine jx_ar (pc_q := 148) (st_q := [.int (i32 (15)), .int (i32 (z29))]) rfl rfl rfl rfl ?_
            refine jx_icmp_eq (pc_q := 151) (tg := 160) rfl rfl rfl (by omega) (by omega) (by decide) (by decide) (fun h68 => ?_) (fun h68 => ?_)
            · have _q := h68
              refine jx_ld (pc_q := 161) (l_q := L59) (st_q := [.int (i32 (z52))]) rfl (jl_iloadn g63) ?_
              refine jx_ar (pc_q := 163) (st_q := [.int (i32 (11)), .int (i32 (z52))]) rfl rfl rfl rfl ?_
              refine jx_icmp_gt (pc_q := 166) (tg := 174) rfl rfl rfl (by omega) (by omega) (by decide) (by decide) (fun h69 => ?_) (fun h69 => ?_)
              · have _q := h69
                refine jx_ld (pc_q := 175) (l_q := L59) (st_q := [.int (i32 (z52))]) rfl (jl_iloadn g63) ?_
                refine jx_ar (pc_q := 177) (st_q := [.int (i32 (22)), .int (i32 (z52))]) rfl rfl rfl rfl ?_
                refine jx_icmp_lt (pc_q := 180) (tg := 194) rfl rfl rfl (by omega) (by omega) (by decide) (by decide) (fun h70 => ?_) (fun h70 => ?_)
                · have _q := h70
                  refine jx_ld (pc_q := 195) (l_q := L59) (st_q := [rv (me)]) rfl (jl_rvn g60) ?_
                  refine jx_ld (pc_q := 196) (l_q := L59) (st_q := [.int (i32 (z52)), rv (me)]) rfl (jl_iloadn g63) ?_
                  refine cx_vi (c := 2) (a := me) (st := []) (as := [.int (i32 (z52))]) rfl rfl rfl o_me t_me (by decide) rfl ⟨rfl, rfl, (Nat.le_of_ble_eq_true rfl)⟩ rfl (k_LCore_manage (dd := d) (R := R) (m := m) (tg := tg) (ln := ln) (F := F64) (me := me) (a0 := z52) (hd := by omega) (hC := hC65) (o_me := o_me) (t_me := t_me) (h_a0 := by omega) (p_0 := by omega) (kk := kk) (c_SB := c67)) (fun o V_q hq => ?_)
                  obtain ⟨F71, rfl, rfl, hC72, hM73, c74, -⟩ := hq
                  have hM75 : Fq 0 [(3, 5), (3, 6), (3, 7), (3, 8), (3, 9), (3, 10), (3, 11), (3, 12), (3, 13), (3, 14), (3, 16), (3, 17), (3, 18), (3, 19), (3, 20), (5, 2), (5, 3), (5, 4), (5, 5), (5, 6), (5, 7), (6, 4), (6, 6), (21, -5)] m tg F F71 := Fq_t (ln := ln) (ln1 := ln) hM66 Ex_r hM73 (by decide) (Or.inl rfl)
                  refine Or.inl ⟨rfl, ?_⟩
                  exact k_LCore_step_at_199 (X := X) (d := d) (R := R) (m := m) (tg := tg) (ln := ln) (F := F) (kk := kk) (me := me) (hd := hd) (hC := hC) (o_me := o_me) (t_me := t_me) (p_0 := p_0) (c_SB := c_SB) L59 F71 g60 hC72 hM75 (SB_m c74 (by omega))
                · have _q := h70
                  refine jx_ld (pc_q := 181) (l_q := L59) (st_q := [.int (i32 (z52))]) rfl (jl_iloadn g63) ?_
                  refine jx_ar (pc_q := 183) (st_q := [.int (i32 (28)), .int (i32 (z52))]) rfl rfl rfl rfl ?_
                  refine jx_icmp_gt (pc_q := 186) (tg := 194) rfl rfl rfl (by omega) (by omega) (by decide) (by decide) (fun h76 => ?_) (fun h76 => ?_)
                  · have _q := h76
                    refine jx_ld (pc_q := 195) (l_q := L59) (st_q := [rv (me)]) rfl (jl_rvn g60) ?_
                    refine jx_ld (pc_q := 196) (l_q := L59) (st_q := [.int (i32 (z52)), rv (me)]) rfl (jl_iloadn g63) ?_
                    refine cx_vi (c := 2) (a := me) (st := []) (as := [.int (i32 (z52))]) rfl rfl rfl o_me t_me (by decide) rfl ⟨rfl, rfl, (Nat.le_of_ble_eq_true rfl)⟩ rfl (k_LCore_manage (dd := d) (R := R) (m := m) (tg := tg) (ln := ln) (F := F64) (me := me) (a0 := z52) (hd := by omega) (hC := hC65) (o_me := o_me) (t_me := t_me) (h_a0 := by omega) (p_0 := by omega) (kk := kk) (c_SB := c67)) (fun o V_q hq => ?_)
                    obtain ⟨F77, rfl, rfl, hC78, hM79, c80, -⟩ := hq
                    have hM81 : Fq 0 [(3, 5), (3, 6), (3, 7), (3, 8), (3, 9), (3, 10), (3, 11), (3, 12), (3, 13), (3, 14), (3, 16), (3, 17), (3, 18), (3, 19), (3, 20), (5, 2), (5, 3), (5, 4), (5, 5), (5, 6), (5, 7), (6, 4), (6, 6), (21, -5)] m tg F F77 := Fq_t (ln := ln) (ln1 := ln) hM66 Ex_r hM79 (by decide) (Or.inl rfl)
                    refine Or.inl ⟨rfl, ?_⟩
                    exact k_LCore_step_at_199 (X := X) (d := d) (R := R) (m := m) (tg := tg) (ln := ln) (F := F) (kk := kk) (me := me) (hd := hd) (hC := hC) (o_me := o_me) (t_me := t_me) (p_0 := p_0) (c_SB := c_SB) L59 F77 g60 hC78 hM81 (SB_m c80 (by omega))
                  · have _q := h76
                    refine jx_ld (pc_q := 187) (l_q := L59) (st_q := [rv (me)]) rfl (jl_rvn g60) ?_
                    refine jx_ld (pc_q := 188) (l_q := L59) (st_q := [.int (i32 (z52)), rv (me)]) rfl (jl_iloadn g63) ?_
                    refine cx_vi (c := 2) (a := me) (st := []) (as := [.int (i32 (z52))]) rfl rfl rfl o_me t_me (by decide) rfl ⟨rfl, rfl, (Nat.le_of_ble_eq_true rfl)⟩ rfl (k_LCore_alternate (dd := d) (R := R) (m := m) (tg := tg) (ln := ln) (F := F64) (me := me) (a0 := z52) (hd := by omega) (hC := hC65) (o_me := o_me) (t_me := t_me) (h_a0 := by omega)) (fun o V_q hq => ?_)
                    obtain ⟨F82, rfl, rfl, hC83, hM84, -⟩ := hq
                    have hM85 : Fq 0 [(3, 5), (3, 6), (3, 7), (3, 8), (3, 9), (3, 10), (3, 11), (3, 12), (3, 13), (3, 14), (3, 16), (3, 17), (3, 18), (3, 19), (3, 20), (5, 2), (5, 3), (5, 4), (5, 5), (5, 6), (5, 7), (6, 4), (6, 6), (21, -5)] m tg F F82 := Fq_t (ln := ln) (ln1 := ln) hM66 Ex_r hM84 (by decide) (Or.inl rfl)
                    have c86 : SB m tg F82 (kk) := SB_q c67 hM84 rfl
                    refine Or.inl ⟨rfl, ?_⟩
                    refine jx_go (tg := 199) rfl rfl ?_
                    exact k_LCore_step_at_199 (X := X) (d := d) (R := R) (m := m) (tg := tg) (ln := ln) (F := F) (kk := kk) (me := me) (hd := hd) (hC := hC) (o_me := o_me) (t_me := t_me) (p_0 := p_0) (c_SB := c_SB) L59 F82 g60 hC83 hM85 (SB_m c86 (by omega))
              · have _q := h69
                refine jx_ld (pc_q := 167) (l_q := L59) (st_q := [rv (me)]) rfl (jl_rvn g60) ?_
                refine jx_ld (pc_q := 168) (l_q := L59) (st_q := [.int (i32 (z52)), rv (me)]) rfl (jl_iloadn g63) ?_
                refine cx_vi (c := 2) (a := me) (st := []) (as := [.int (i32 (z52))]) rfl rfl rfl o_me t_me (by decide) rfl ⟨rfl, rfl, (Nat.le_of_ble_eq_true rfl)⟩ rfl (k_LCore_calculate (dd := d) (R := R) (m := m) (tg := tg) (ln := ln) (F := F64) (me := me) (a0 := z52) (hd := by omega) (hC := hC65) (o_me := o_me) (t_me := t_me) (h_a0 := by omega)) (fun o V_q hq => ?_)
                obtain ⟨F87, rfl, rfl, hC88, hM89, -⟩ := hq
                have hM90 : Fq 0 [(3, 5), (3, 6), (3, 7), (3, 8), (3, 9), (3, 10), (3, 11), (3, 12), (3, 13), (3, 14), (3, 16), (3, 17), (3, 18), (3, 19), (3, 20), (5, 2), (5, 3), (5, 4), (5, 5), (5, 6), (5, 7), (6, 4), (6, 6), (21, -5)] m tg F F87 := Fq_t (ln := ln) (ln1 := ln) hM66 Ex_r hM89 (by decide) (Or.inl rfl)
                have c91 : SB m tg F87 (kk) := SB_q c67 hM89 rfl
                refine Or.inl ⟨rfl, ?_⟩
                refine jx_go (tg := 199) rfl rfl ?_
                exact k_LCore_step_at_199 (X := X) (d := d) (R := R) (m := m) (tg := tg) (ln := ln) (F := F) (kk := kk) (me := me) (hd := hd) (hC := hC) (o_me := o_me) (t_me := t_me) (p_0 := p_0) (c_SB := c_SB) L59 F87 g60 hC88 hM90 (SB_m c91 (by omega))
            · have _q := h68
              refine jx_ld (pc_q := 152) (l_q := L59) (st_q := [rv (me)]) rfl (jl_rvn g60) ?_
              refine jx_ld (pc_q := 153) (l_q := L59) (st_q := [.int (i32 (z29)), rv (me)]) rfl (jl_iloadn g62) ?_
              refine jx_ld (pc_q := 154) (l_q := L59) (st_q := [.int (i32 (z52)), .int (i32 (z29)), rv (me)]) rfl (jl_iloadn g63) ?_
              refine cx_vi (c := 2) (a := me) (st := []) (as := [.int (i32 (z29)), .int (i32 (z52))]) rfl rfl rfl o_me t_me (by decide) rfl ⟨rfl, rfl, (Nat.le_of_ble_eq_true rfl)⟩ rfl (k_LCore_perform (dd := d) (R := R) (m := m) (tg := tg) (ln := ln) (F := F64) (me := me) (a0 := z29) (a1 := z52) (hd := by omega) (hC := hC65) (o_me := o_me) (t_me := t_me) (h_a0 := by omega) (h_a1 := by omega)) (fun o V_q hq => ?_)
              obtain ⟨F92, rfl, rfl, hC93, hM94, -⟩ := hq
              have hM95 : Fq 0 [(3, 5), (3, 6), (3, 7), (3, 8), (3, 9), (3, 10), (3, 11), (3, 12), (3, 13), (3, 14), (3, 16), (3, 17), (3, 18), (3, 19), (3, 20), (5, 2), (5, 3), (5, 4), (5, 5), (5, 6), (5, 7), (6, 4), (6, 6), (21, -5)] m tg F F92 := Fq_t (ln := ln) (ln1 := ln) hM66 Ex_r hM94 (by decide) (Or.inl rfl)
              have c96 : SB m tg F92 (kk) := SB_q c67 hM94 rfl
              refine Or.inl ⟨rfl, ?_⟩
              refine jx_go (tg := 199) rfl rfl ?_
              exact k_LCore_step_at_199 (X := X) (d := d) (R := R) (m := m) (tg := tg) (ln := ln) (F := F) (kk := kk) (me := me) (hd := hd) (hC := hC) (o_me := o_me) (t_me := t_me) (p_0 := p_0) (c_SB := c_SB) L59 F92 g60 hC93 hM95 (SB_m c96 (by omega))
          · have _q := h58
            refine jx_ld (pc_q := 121) (l_q := L30) (st_q := [rv (me)]) rfl (jl_rvn g31) ?_
            refine jx_ld (pc_q := 122) (l_q := L30) (st_q := [rv (me), rv (me)]) rfl (jl_rvn g31) ?_
            refine cx_gi (pc_q := 125) (c := 2) (q := 10) (v := z52) rfl rfl (by decide) (by decide) (Or.inl rfl) rfl o_me t_me (show F53 (me) (10 : Int) = z52 from by rw [eF53]; exact uF_e) ?_
            refine jx_ar (pc_q := 126) (st_q := [.int (i32 (-1)), .int (i32 (z52)), rv (me)]) rfl rfl rfl rfl ?_
            refine jx_xor (pc_q := 127) rfl rfl ?_
            obtain ⟨z97, ez97⟩ : ∃ q, q = (i32 (z52) ^^^ i32 (-1)).toInt := ⟨_, rfl⟩
            rw [← ez97]
            have bz97 : (-2147483648 : Int) ≤ z97 ∧ z97 ≤ 2147483647 := ez97 ▸ i32_rg _
            clear ez97
            refine jx_ar (pc_q := 128) (st_q := [.int (i32 (4)), .int (i32 (z97)), rv (me)]) rfl rfl rfl rfl ?_
            refine jx_shl (pc_q := 129) rfl rfl ?_
            obtain ⟨z98, ez98⟩ : ∃ q, q = (i32 (z97) <<< (i32 (4) &&& 31)).toInt := ⟨_, rfl⟩
            rw [← ez98]
            have bz98 : (-2147483648 : Int) ≤ z98 ∧ z98 ≤ 2147483647 := ez98 ▸ i32_rg _
            clear ez98
            refine cx_pi (pc_q := 132) (c := 2) (q := 10) (qi := (10 : Int)) (z := z98) rfl rfl (by decide) (by decide) rfl rfl rfl (by decide) rfl o_me t_me rfl ?_
            obtain ⟨F99, eF99⟩ : ∃ q, q = uF F53 (me) (10 : Int) (z98) := ⟨_, rfl⟩
            rw [← eF99]
            have hC100 : HC 0 m tg ln F99 := by rw [eF99]; exact HC_fi (c := 2) (q := 10) hC54 t_me (by decide) rfl (by omega) (by omega) ⟨fun w => absurd w (by decide), fun _ => ⟨fun w => absurd w (by decide), fun w => absurd w (by decide)⟩⟩
            have hM101 : Fq 0 [(3, 5), (3, 6), (3, 7), (3, 8), (3, 9), (3, 10), (3, 11), (3, 12), (3, 13), (3, 14), (3, 16), (3, 17), (3, 18), (3, 19), (3, 20), (5, 2), (5, 3), (5, 4), (5, 5), (5, 6), (5, 7), (6, 4), (6, 6), (21, -5)] m tg F F99 := by rw [eF99]; exact Fq_p hM55 t_me (fun _ => rfl) rfl
            have c102 : SB m tg F99 (kk) := by rw [eF99]; exact SB_u c56 t_me (by omega)
            refine jx_go (tg := 199) rfl rfl ?_
            exact k_LCore_step_at_199 (X := X) (d := d) (R := R) (m := m) (tg := tg) (ln := ln) (F := F) (kk := kk) (me := me) (hd := hd) (hC := hC) (o_me := o_me) (t_me := t_me) (p_0 := p_0) (c_SB := c_SB) L30 F99 g31 hC100 hM101 (SB_m c102 (by omega))
        · have _q := h57
          refine jx_ld (pc_q := 102) (l_q := L30) (st_q := [rv (me)]) rfl (jl_rvn g31) ?_
          refine jx_ld (pc_q := 103) (l_q := L30) (st_q := [rv (me), rv (me)]) rfl (jl_rvn g31) ?_
          refine cx_gi (pc_q := 106) (c := 2) (q := 10) (v := z52) rfl rfl (by decide) (by decide) (Or.inl rfl) rfl o_me t_me (show F53 (me) (10 : Int) = z52 from by rw [eF53]; exact uF_e) ?_
          refine jx_ar (pc_q := 107) (st_q := [.int (i32 (4)), .int (i32 (z52)), rv (me)]) rfl rfl rfl rfl ?_
          refine jx_shl (pc_q := 108) rfl rfl ?_
          obtain ⟨z103, ez103⟩ : ∃ q, q = (i32 (z52) <<< (i32 (4) &&& 31)).toInt := ⟨_, rfl⟩
          rw [← ez103]
          have bz103 : (-2147483648 : Int) ≤ z103 ∧ z103 ≤ 2147483647 := ez103 ▸ i32_rg _
          clear ez103
          refine cx_pi (pc_q := 111) (c := 2) (q := 10) (qi := (10 : Int)) (z := z103) rfl rfl (by decide) (by decide) rfl rfl rfl (by decide) rfl o_me t_me rfl ?_
          obtain ⟨F104, eF104⟩ : ∃ q, q = uF F53 (me) (10 : Int) (z103) := ⟨_, rfl⟩
          rw [← eF104]
          have hC105 : HC 0 m tg ln F104 := by rw [eF104]; exact HC_fi (c := 2) (q := 10) hC54 t_me (by decide) rfl (by omega) (by omega) ⟨fun w => absurd w (by decide), fun _ => ⟨fun w => absurd w (by decide), fun w => absurd w (by decide)⟩⟩
          have hM106 : Fq 0 [(3, 5), (3, 6), (3, 7), (3, 8), (3, 9), (3, 10), (3, 11), (3, 12), (3, 13), (3, 14), (3, 16), (3, 17), (3, 18), (3, 19), (3, 20), (5, 2), (5, 3), (5, 4), (5, 5), (5, 6), (5, 7), (6, 4), (6, 6), (21, -5)] m tg F F104 := by rw [eF104]; exact Fq_p hM55 t_me (fun _ => rfl) rfl
          have c107 : SB m tg F104 (kk) := by rw [eF104]; exact SB_u c56 t_me (by omega)
          refine jx_go (tg := 199) rfl rfl ?_
          exact k_LCore_step_at_199 (X := X) (d := d) (R := R) (m := m) (tg := tg) (ln := ln) (F := F) (kk := kk) (me := me) (hd := hd) (hC := hC) (o_me := o_me) (t_me := t_me) (p_0 := p_0) (c_SB := c_SB) L30 F104 g31 hC105 hM106 (SB_m c107 (by omega))
      · have _q := h23
        refine jx_ld (pc_q := 28) (l_q := L0) (st_q := [rv (me)]) rfl (jl_rvn g6) ?_
        refine cx_vi (c := 2) (a := me) (st := []) (as := []) rfl rfl rfl o_me t_me (by decide) rfl ⟨rfl, rfl, (Nat.le_of_ble_eq_true rfl)⟩ rfl (k_LCore_fail (dd := d) (R := R) (m := m) (tg := tg) (ln := ln) (F := F) (me := me) (hd := by omega) (hC := hC) (o_me := o_me) (t_me := t_me)) (fun o V_q hq => ?_)
        obtain ⟨F108, rfl, rfl, hC109, hM110, -⟩ := hq
        have hM111 : Fq 0 [(3, 5), (3, 6), (3, 7), (3, 8), (3, 9), (3, 10), (3, 11), (3, 12), (3, 13), (3, 14), (3, 16), (3, 17), (3, 18), (3, 19), (3, 20), (5, 2), (5, 3), (5, 4), (5, 5), (5, 6), (5, 7), (6, 4), (6, 6), (21, -5)] m tg F F108 := Fq_t (ln := ln) (ln1 := ln) hM0 Ex_r hM110 (by decide) (Or.inl rfl)
        have c112 : SB m tg F108 (kk) := SB_q c_SB hM110 rfl
        refine Or.inl ⟨rfl, ?_⟩
        refine jx_ld (pc_q := 32) (l_q := L0) (st_q := [rv (me)]) rfl (jl_rvn g6) ?_
        refine cx_vi (c := 2) (a := me) (st := []) (as := []) rfl rfl rfl o_me t_me (by decide) rfl ⟨rfl, rfl, (Nat.le_of_ble_eq_true rfl)⟩ rfl (k_LCore_settle (dd := d) (R := R) (m := m) (tg := tg) (ln := ln) (F := F108) (me := me) (hd := by omega) (hC := hC109) (o_me := o_me) (t_me := t_me)) (fun o V_q hq => ?_)
        obtain ⟨F113, rfl, rfl, hC114, hM115, -⟩ := hq
        have hM116 : Fq 0 [(3, 5), (3, 6), (3, 7), (3, 8), (3, 9), (3, 10), (3, 11), (3, 12), (3, 13), (3, 14), (3, 16), (3, 17), (3, 18), (3, 19), (3, 20), (5, 2), (5, 3), (5, 4), (5, 5), (5, 6), (5, 7), (6, 4), (6, 6), (21, -5)] m tg F F113 := Fq_t (ln := ln) (ln1 := ln) hM111 Ex_r hM115 (by decide) (Or.inl rfl)
        have c117 : SB m tg F113 (kk) := SB_q c112 hM115 rfl
        refine Or.inl ⟨rfl, ?_⟩
        refine jx_rt (v := none) rfl rfl rfl rfl rfl rfl ?_
        exact ⟨F113, rfl, rfl, hC114, hM116, SB_m c117 (by omega), trivial⟩
  · have _q := h8
    refine jx_rt (v := none) rfl rfl rfl rfl rfl rfl ?_
    exact ⟨F, rfl, rfl, hC, hM0, SB_m c_SB (by omega), trivial⟩
