set_option maxRecDepth 20000 in
set_option maxHeartbeats 4000000 in
theorem k_LCoder_isPlain {X : jX} {dd : Nat} {R : Nat → jC} {m : Nat} {tg ln : Int → Int} {F : Int → Int → Int} {e : Int} (hd : 1 ≤ dd) (hC : HC 0 m tg ln F) (y_e : e = 0 ∨ (own m e ∧ tg e = 8)) : wk X dd 57 [rv e] (cV R m tg ln F) (fun o V_q => ∃ (r : Int), V_q = cV R m tg ln F ∧ o = .inl (some (.int (i32 r))) ∧ (0 ≤ r ∧ r ≤ 1) ∧ True) := by
  obtain ⟨d, rfl⟩ : ∃ d, dd = d + 1 := ⟨dd - 1, by omega⟩
  refine wk_of (e := jm57) rfl (by rw [jS_r, jS_0]; exact Nat.le_of_ble_eq_true rfl) ?_
  rw [la_r, la_0]
  show wj X d jm57 (0, [(0, rv (e))], [], cV R m tg ln F) _
  obtain ⟨L0, eL0⟩ : ∃ q : jL, q = [(0, rv (e))] := ⟨_, rfl⟩
  rw [← eL0]
  have g1 : jGet L0 0 = some (rv (e)) := eL0 ▸ (rfl : jGet [(0, rv (e))] 0 = some (rv (e)))
  clear eL0
  refine jx_ld (pc_q := 1) (l_q := L0) (st_q := [rv (e)]) rfl (jl_rvn g1) ?_
  refine cx_nul (pc_q := 4) (tg_q := 33) rfl rfl rfl (fun h2 => ?_) (fun h2 => ?_)
  · have _q := h2
    refine jx_ar (pc_q := 34) (st_q := [.int (i32 (0))]) rfl rfl rfl rfl ?_
    refine jx_rt (v := some (.int (i32 (0)))) rfl rfl rfl rfl rfl (by first | rfl | exact jRet_b (by omega)) ?_
    exact ⟨(0), rfl, rfl, by omega, trivial⟩
  · have _q := h2
    have ho3 : own m (e) ∧ tg (e) = 8 := y_e.resolve_left h2
    refine jx_ld (pc_q := 5) (l_q := L0) (st_q := [rv (e)]) rfl (jl_rvn g1) ?_
    refine cx_gi (pc_q := 8) (c := 7) (q := 0) (v := F (e) (0 : Int)) rfl rfl (by decide) (by decide) (Or.inl rfl) rfl ho3.1 ho3.2 rfl ?_
    have b4 : (-2147483648 : Int) ≤ F (e) (0 : Int) ∧ F (e) (0 : Int) ≤ 2147483647 := by have z := HC_i (c := 7) (q := 0) hC ho3.1 ho3.2 (by decide) rfl; rw [show F (e) ((0 : Nat) : Int) = F (e) (0 : Int) from rfl] at z; exact z
    refine jx_ar (pc_q := 10) (st_q := [.int (i32 (20)), .int (i32 (F (e) (0 : Int)))]) rfl rfl rfl rfl ?_
    refine jx_icmp_eq (pc_q := 13) (tg := 29) rfl rfl rfl (by omega) (by omega) (by decide) (by decide) (fun h5 => ?_) (fun h5 => ?_)
    · have _q := h5
      refine jx_ar (pc_q := 30) (st_q := [.int (i32 (1))]) rfl rfl rfl rfl ?_
      refine jx_go (tg := 34) rfl rfl ?_
      refine jx_rt (v := some (.int (i32 (1)))) rfl rfl rfl rfl rfl (by first | rfl | exact jRet_b (by omega)) ?_
      exact ⟨(1), rfl, rfl, by omega, trivial⟩
    · have _q := h5
      refine jx_ld (pc_q := 14) (l_q := L0) (st_q := [rv (e)]) rfl (jl_rvn g1) ?_
      refine cx_gi (pc_q := 17) (c := 7) (q := 0) (v := F (e) (0 : Int)) rfl rfl (by decide) (by decide) (Or.inl rfl) rfl ho3.1 ho3.2 rfl ?_
      refine jx_ar (pc_q := 19) (st_q := [.int (i32 (21)), .int (i32 (F (e) (0 : Int)))]) rfl rfl rfl rfl ?_
      refine jx_icmp_ne (pc_q := 22) (tg := 33) rfl rfl rfl (by omega) (by omega) (by decide) (by decide) (fun h6 => ?_) (fun h6 => ?_)
      · have _q := h6
        refine jx_ar (pc_q := 34) (st_q := [.int (i32 (0))]) rfl rfl rfl rfl ?_
        refine jx_rt (v := some (.int (i32 (0)))) rfl rfl rfl rfl rfl (by first | rfl | exact jRet_b (by omega)) ?_
        exact ⟨(0), rfl, rfl, by omega, trivial⟩
      · have _q := h6
        refine jx_ld (pc_q := 23) (l_q := L0) (st_q := [rv (e)]) rfl (jl_rvn g1) ?_
        refine cx_gr (pc_q := 26) (c := 7) (q := 4) (v := F (e) (4 : Int)) rfl rfl (by decide) (by decide) rfl rfl ho3.1 ho3.2 rfl ?_
        have y7 : F (e) (4 : Int) = 0 ∨ (own m (F (e) (4 : Int)) ∧ tg (F (e) (4 : Int)) = 8) := by have z := HC_r (c := 7) (q := 4) hC ho3.1 ho3.2 (by decide) rfl; rw [show F (e) ((4 : Nat) : Int) = F (e) (4 : Int) from rfl] at z; exact z
        refine cx_non (pc_q := 29) (tg_q := 33) rfl rfl rfl (fun h8 => ?_) (fun h8 => ?_)
        · have _q := h8
          have ho9 : own m (F (e) (4 : Int)) ∧ tg (F (e) (4 : Int)) = 8 := y7.resolve_left h8
          refine jx_ar (pc_q := 34) (st_q := [.int (i32 (0))]) rfl rfl rfl rfl ?_
          refine jx_rt (v := some (.int (i32 (0)))) rfl rfl rfl rfl rfl (by first | rfl | exact jRet_b (by omega)) ?_
          exact ⟨(0), rfl, rfl, by omega, trivial⟩
        · have _q := h8
          refine jx_ar (pc_q := 30) (st_q := [.int (i32 (1))]) rfl rfl rfl rfl ?_
          refine jx_go (tg := 34) rfl rfl ?_
          refine jx_rt (v := some (.int (i32 (1)))) rfl rfl rfl rfl rfl (by first | rfl | exact jRet_b (by omega)) ?_
          exact ⟨(1), rfl, rfl, by omega, trivial⟩
set_option maxRecDepth 20000 in
set_option maxHeartbeats 4000000 in
theorem k_LCoder_keepsRight {X : jX} {dd : Nat} {R : Nat → jC} {m : Nat} {tg ln : Int → Int} {F : Int → Int → Int} {e : Int} (hd : 2 ≤ dd) (hC : HC 0 m tg ln F) (o_e : own m e) (t_e : tg e = 8) : wk X dd 58 [rv e] (cV R m tg ln F) (fun o V_q => ∃ (r : Int), V_q = cV R m tg ln F ∧ o = .inl (some (.int (i32 r))) ∧ (0 ≤ r ∧ r ≤ 1) ∧ True) := by
  obtain ⟨d, rfl⟩ : ∃ d, dd = d + 1 := ⟨dd - 1, by omega⟩
  refine wk_of (e := jm58) rfl (by rw [jS_r, jS_0]; exact Nat.le_of_ble_eq_true rfl) ?_
  rw [la_r, la_0]
  show wj X d jm58 (0, [(0, rv (e))], [], cV R m tg ln F) _
  obtain ⟨L0, eL0⟩ : ∃ q : jL, q = [(0, rv (e))] := ⟨_, rfl⟩
  rw [← eL0]
  have g1 : jGet L0 0 = some (rv (e)) := eL0 ▸ (rfl : jGet [(0, rv (e))] 0 = some (rv (e)))
  clear eL0
  refine jx_ld (pc_q := 1) (l_q := L0) (st_q := [rv (e)]) rfl (jl_rvn g1) ?_
  refine cx_gi (pc_q := 4) (c := 7) (q := 0) (v := F (e) (0 : Int)) rfl rfl (by decide) (by decide) (Or.inl rfl) rfl o_e t_e rfl ?_
  have b2 : (-2147483648 : Int) ≤ F (e) (0 : Int) ∧ F (e) (0 : Int) ≤ 2147483647 := by have z := HC_i (c := 7) (q := 0) hC o_e t_e (by decide) rfl; rw [show F (e) ((0 : Nat) : Int) = F (e) (0 : Int) from rfl] at z; exact z
  refine jx_ar (pc_q := 6) (st_q := [.int (i32 (22)), .int (i32 (F (e) (0 : Int)))]) rfl rfl rfl rfl ?_
  refine jx_icmp_ne (pc_q := 9) (tg := 31) rfl rfl rfl (by omega) (by omega) (by decide) (by decide) (fun h3 => ?_) (fun h3 => ?_)
  · have _q := h3
    refine jx_ar (pc_q := 32) (st_q := [.int (i32 (0))]) rfl rfl rfl rfl ?_
    refine jx_ld (pc_q := 33) (l_q := jSto1 L0 1 (.int (i32 (0)))) (st_q := []) rfl rfl ?_
    obtain ⟨L4, eL4⟩ : ∃ q : jL, q = jSto1 L0 1 (.int (i32 (0))) := ⟨_, rfl⟩
    rw [← eL4]
    have g5 : jGet L4 0 = some (rv (e)) := eL4 ▸ jg_nr (by decide) g1
    have g6 : jGet L4 1 = some (.int (i32 (0))) := eL4 ▸ jg_eq
    clear eL4
    refine jx_ld (pc_q := 34) (l_q := L4) (st_q := [.int (i32 (0))]) rfl (jl_iloadn g6) ?_
    refine jx_if_eq (pc_q := 37) (tg := 51) rfl rfl rfl (by decide) (by decide) (fun h7 => ?_) (fun h7 => ?_)
    · have _q := h7
      refine jx_ar (pc_q := 52) (st_q := [.int (i32 (0))]) rfl rfl rfl rfl ?_
      refine jx_rt (v := some (.int (i32 (0)))) rfl rfl rfl rfl rfl (by first | rfl | exact jRet_b (by omega)) ?_
      exact ⟨(0), rfl, rfl, by omega, trivial⟩
    · have _q := h7
      exact absurd h7 (by omega)
  · have _q := h3
    refine jx_ld (pc_q := 10) (l_q := L0) (st_q := [rv (e)]) rfl (jl_rvn g1) ?_
    refine cx_gi (pc_q := 13) (c := 7) (q := 2) (v := F (e) (2 : Int)) rfl rfl (by decide) (by decide) (Or.inl rfl) rfl o_e t_e rfl ?_
    have b8 : (-2147483648 : Int) ≤ F (e) (2 : Int) ∧ F (e) (2 : Int) ≤ 2147483647 := by have z := HC_i (c := 7) (q := 2) hC o_e t_e (by decide) rfl; rw [show F (e) ((2 : Nat) : Int) = F (e) (2 : Int) from rfl] at z; exact z
    refine jx_ar (pc_q := 15) (st_q := [.int (i32 (26)), .int (i32 (F (e) (2 : Int)))]) rfl rfl rfl rfl ?_
    refine jx_icmp_eq (pc_q := 18) (tg := 31) rfl rfl rfl (by omega) (by omega) (by decide) (by decide) (fun h9 => ?_) (fun h9 => ?_)
    · have _q := h9
      refine jx_ar (pc_q := 32) (st_q := [.int (i32 (0))]) rfl rfl rfl rfl ?_
      refine jx_ld (pc_q := 33) (l_q := jSto1 L0 1 (.int (i32 (0)))) (st_q := []) rfl rfl ?_
      obtain ⟨L10, eL10⟩ : ∃ q : jL, q = jSto1 L0 1 (.int (i32 (0))) := ⟨_, rfl⟩
      rw [← eL10]
      have g11 : jGet L10 0 = some (rv (e)) := eL10 ▸ jg_nr (by decide) g1
      have g12 : jGet L10 1 = some (.int (i32 (0))) := eL10 ▸ jg_eq
      clear eL10
      refine jx_ld (pc_q := 34) (l_q := L10) (st_q := [.int (i32 (0))]) rfl (jl_iloadn g12) ?_
      refine jx_if_eq (pc_q := 37) (tg := 51) rfl rfl rfl (by decide) (by decide) (fun h13 => ?_) (fun h13 => ?_)
      · have _q := h13
        refine jx_ar (pc_q := 52) (st_q := [.int (i32 (0))]) rfl rfl rfl rfl ?_
        refine jx_rt (v := some (.int (i32 (0)))) rfl rfl rfl rfl rfl (by first | rfl | exact jRet_b (by omega)) ?_
        exact ⟨(0), rfl, rfl, by omega, trivial⟩
      · have _q := h13
        exact absurd h13 (by omega)
    · have _q := h9
      refine jx_ld (pc_q := 19) (l_q := L0) (st_q := [rv (e)]) rfl (jl_rvn g1) ?_
      refine cx_gi (pc_q := 22) (c := 7) (q := 2) (v := F (e) (2 : Int)) rfl rfl (by decide) (by decide) (Or.inl rfl) rfl o_e t_e rfl ?_
      refine jx_ar (pc_q := 24) (st_q := [.int (i32 (27)), .int (i32 (F (e) (2 : Int)))]) rfl rfl rfl rfl ?_
      refine jx_icmp_eq (pc_q := 27) (tg := 31) rfl rfl rfl (by omega) (by omega) (by decide) (by decide) (fun h14 => ?_) (fun h14 => ?_)
      · have _q := h14
        refine jx_ar (pc_q := 32) (st_q := [.int (i32 (0))]) rfl rfl rfl rfl ?_
        refine jx_ld (pc_q := 33) (l_q := jSto1 L0 1 (.int (i32 (0)))) (st_q := []) rfl rfl ?_
        obtain ⟨L15, eL15⟩ : ∃ q : jL, q = jSto1 L0 1 (.int (i32 (0))) := ⟨_, rfl⟩
        rw [← eL15]
        have g16 : jGet L15 0 = some (rv (e)) := eL15 ▸ jg_nr (by decide) g1
        have g17 : jGet L15 1 = some (.int (i32 (0))) := eL15 ▸ jg_eq
        clear eL15
        refine jx_ld (pc_q := 34) (l_q := L15) (st_q := [.int (i32 (0))]) rfl (jl_iloadn g17) ?_
        refine jx_if_eq (pc_q := 37) (tg := 51) rfl rfl rfl (by decide) (by decide) (fun h18 => ?_) (fun h18 => ?_)
        · have _q := h18
          refine jx_ar (pc_q := 52) (st_q := [.int (i32 (0))]) rfl rfl rfl rfl ?_
          refine jx_rt (v := some (.int (i32 (0)))) rfl rfl rfl rfl rfl (by first | rfl | exact jRet_b (by omega)) ?_
          exact ⟨(0), rfl, rfl, by omega, trivial⟩
        · have _q := h18
          exact absurd h18 (by omega)
      · have _q := h14
        refine jx_ar (pc_q := 28) (st_q := [.int (i32 (1))]) rfl rfl rfl rfl ?_
        refine jx_go (tg := 32) rfl rfl ?_
        refine jx_ld (pc_q := 33) (l_q := jSto1 L0 1 (.int (i32 (1)))) (st_q := []) rfl rfl ?_
        obtain ⟨L19, eL19⟩ : ∃ q : jL, q = jSto1 L0 1 (.int (i32 (1))) := ⟨_, rfl⟩
        rw [← eL19]
        have g20 : jGet L19 0 = some (rv (e)) := eL19 ▸ jg_nr (by decide) g1
        have g21 : jGet L19 1 = some (.int (i32 (1))) := eL19 ▸ jg_eq
        clear eL19
        refine jx_ld (pc_q := 34) (l_q := L19) (st_q := [.int (i32 (1))]) rfl (jl_iloadn g21) ?_
        refine jx_if_eq (pc_q := 37) (tg := 51) rfl rfl rfl (by decide) (by decide) (fun h22 => ?_) (fun h22 => ?_)
        · have _q := h22
          exact absurd h22 (by omega)
        · have _q := h22
          refine jx_ld (pc_q := 38) (l_q := L19) (st_q := [rv (e)]) rfl (jl_rvn g20) ?_
          refine cx_gr (pc_q := 41) (c := 7) (q := 5) (v := F (e) (5 : Int)) rfl rfl (by decide) (by decide) rfl rfl o_e t_e rfl ?_
          have y23 : F (e) (5 : Int) = 0 ∨ (own m (F (e) (5 : Int)) ∧ tg (F (e) (5 : Int)) = 8) := by have z := HC_r (c := 7) (q := 5) hC o_e t_e (by decide) rfl; rw [show F (e) ((5 : Nat) : Int) = F (e) (5 : Int) from rfl] at z; exact z
          refine cx_st (st := []) (as := [rv (F (e) (5 : Int))]) rfl rfl rfl ⟨rfl, (Nat.le_of_ble_eq_true rfl)⟩ rfl (k_LCoder_isPlain (dd := d) (R := R) (m := m) (tg := tg) (ln := ln) (F := F) (e := F (e) (5 : Int)) (hd := by omega) (hC := hC) (y_e := y23)) (fun o V_q hq => ?_)
          obtain ⟨r24, rfl, rfl, b25, -⟩ := hq
          refine Or.inr (Or.inl ⟨_, rfl, ?_⟩)
          refine jx_if_ne (pc_q := 47) (tg := 51) rfl rfl rfl (by omega) (by omega) (fun h26 => ?_) (fun h26 => ?_)
          · have _q := h26
            refine jx_ar (pc_q := 52) (st_q := [.int (i32 (0))]) rfl rfl rfl rfl ?_
            refine jx_rt (v := some (.int (i32 (0)))) rfl rfl rfl rfl rfl (by first | rfl | exact jRet_b (by omega)) ?_
            exact ⟨(0), rfl, rfl, by omega, trivial⟩
          · have _q := h26
            refine jx_ar (pc_q := 48) (st_q := [.int (i32 (1))]) rfl rfl rfl rfl ?_
            refine jx_go (tg := 52) rfl rfl ?_
            refine jx_rt (v := some (.int (i32 (1)))) rfl rfl rfl rfl rfl (by first | rfl | exact jRet_b (by omega)) ?_
            exact ⟨(1), rfl, rfl, by omega, trivial⟩
set_option maxRecDepth 20000 in
set_option maxHeartbeats 4000000 in
theorem k_LLayout_grow {X : jX} {dd : Nat} {R : Nat → jC} {m : Nat} {tg ln : Int → Int} {F : Int → Int → Int} {me wd : Int} (hd : 2 ≤ dd) (hC : HC 0 m tg ln F) (o_me : own m me) (t_me : tg me = 4) (h_wd : (-2147483648 : Int) ≤ wd ∧ wd ≤ 2147483647) : wk X dd 126 [rv me, .int (i32 wd)] (cV R m tg ln F) (fun o V_q => ∃ (F_q : Int → Int → Int), V_q = cV R m tg ln F_q ∧ o = .inl none ∧ HC 0 m tg ln F_q ∧ Fq 0 [(4, 0)] m tg F F_q ∧ True) := by
  obtain ⟨d, rfl⟩ : ∃ d, dd = d + 1 := ⟨dd - 1, by omega⟩
  refine wk_of (e := jm126) rfl (by rw [jS_r, jS_i, jS_0]; exact Nat.le_of_ble_eq_true rfl) ?_
  rw [la_r, la_i, la_0]
  show wj X d jm126 (0, [(0, rv (me)), (1, .int (i32 (wd)))], [], cV R m tg ln F) _
  have hM0 : Fq 0 [(4, 0)] m tg F F := Fq_r
  obtain ⟨L0, eL0⟩ : ∃ q : jL, q = [(0, rv (me)), (1, .int (i32 (wd)))] := ⟨_, rfl⟩
  rw [← eL0]
  have g1 : jGet L0 0 = some (rv (me)) := eL0 ▸ (rfl : jGet [(0, rv (me)), (1, .int (i32 (wd)))] 0 = some (rv (me)))
  have g2 : jGet L0 1 = some (.int (i32 (wd))) := eL0 ▸ (rfl : jGet [(0, rv (me)), (1, .int (i32 (wd)))] 1 = some (.int (i32 (wd))))
  clear eL0
  refine jx_ld (pc_q := 1) (l_q := L0) (st_q := [rv (me)]) rfl (jl_rvn g1) ?_
  refine jx_ld (pc_q := 2) (l_q := L0) (st_q := [rv (me), rv (me)]) rfl (jl_rvn g1) ?_
  refine cx_gi (pc_q := 5) (c := 3) (q := 0) (v := F (me) (0 : Int)) rfl rfl (by decide) (by decide) (Or.inl rfl) rfl o_me t_me rfl ?_
  have b3 : (-2147483648 : Int) ≤ F (me) (0 : Int) ∧ F (me) (0 : Int) ≤ 2147483647 := by have z := HC_i (c := 3) (q := 0) hC o_me t_me (by decide) rfl; rw [show F (me) ((0 : Nat) : Int) = F (me) (0 : Int) from rfl] at z; exact z
  refine jx_ld (pc_q := 6) (l_q := L0) (st_q := [.int (i32 (wd)), .int (i32 (F (me) (0 : Int))), rv (me)]) rfl (jl_iloadn g2) ?_
  refine cx_st (st := [rv (me)]) (as := [.int (i32 (F (me) (0 : Int))), .int (i32 (wd))]) rfl rfl rfl ⟨rfl, (by rw [jS_r, jS_0]; exact Nat.le_of_ble_eq_true rfl)⟩ rfl (k_java_lang_Math_max (dd := d) (R := R) (u := 0) (m := m) (tg := tg) (ln := ln) (F := F) (a := F (me) (0 : Int)) (b := wd) (hd := by omega) (hC := hC) (h_a := by omega) (h_b := by omega)) (fun o V_q hq => ?_)
  obtain ⟨r4, rfl, rfl, b5, p6, p7, p8, -⟩ := hq
  refine Or.inr (Or.inl ⟨_, rfl, ?_⟩)
  refine cx_pi (pc_q := 12) (c := 3) (q := 0) (qi := (0 : Int)) (z := r4) rfl rfl (by decide) (by decide) rfl rfl rfl (by decide) rfl o_me t_me rfl ?_
  obtain ⟨F9, eF9⟩ : ∃ q, q = uF F (me) (0 : Int) (r4) := ⟨_, rfl⟩
  rw [← eF9]
  have hC10 : HC 0 m tg ln F9 := by rw [eF9]; exact HC_fi (c := 3) (q := 0) hC t_me (by decide) rfl (by omega) (by omega) ⟨fun w => absurd w (by decide), fun w => absurd w (by decide)⟩
  have hM11 : Fq 0 [(4, 0)] m tg F F9 := by rw [eF9]; exact Fq_p hM0 t_me (fun _ => rfl) rfl
  refine jx_rt (v := none) rfl rfl rfl rfl rfl rfl ?_
  exact ⟨F9, rfl, rfl, hC10, hM11, trivial⟩
set_option maxRecDepth 20000 in
set_option maxHeartbeats 4000000 in
theorem k_LLayout_judge {X : jX} {dd : Nat} {R : Nat → jC} {m : Nat} {tg ln : Int → Int} {F : Int → Int → Int} {pg bd : Int} (hd : 2 ≤ dd) (hC : HC 0 m tg ln F) (o_pg : own m pg) (t_pg : tg pg = 10) (o_bd : own m bd) (t_bd : tg bd = 8) : wk X dd 124 [rv pg, rv bd] (cV R m tg ln F) (fun o V_q => ∃ (F_q : Int → Int → Int), V_q = cV R m tg ln F_q ∧ o = .inl none ∧ HC 0 m tg ln F_q ∧ Fq 0 [(10, 0), (10, 1), (10, 2)] m tg F F_q ∧ True) := by
  obtain ⟨d, rfl⟩ : ∃ d, dd = d + 1 := ⟨dd - 1, by omega⟩
  refine wk_of (e := jm124) rfl (by rw [jS_r, jS_r, jS_0]; exact Nat.le_of_ble_eq_true rfl) ?_
  rw [la_r, la_r, la_0]
  show wj X d jm124 (0, [(0, rv (pg)), (1, rv (bd))], [], cV R m tg ln F) _
  have hM0 : Fq 0 [(10, 0), (10, 1), (10, 2)] m tg F F := Fq_r
  obtain ⟨L0, eL0⟩ : ∃ q : jL, q = [(0, rv (pg)), (1, rv (bd))] := ⟨_, rfl⟩
  rw [← eL0]
  have g1 : jGet L0 0 = some (rv (pg)) := eL0 ▸ (rfl : jGet [(0, rv (pg)), (1, rv (bd))] 0 = some (rv (pg)))
  have g2 : jGet L0 1 = some (rv (bd)) := eL0 ▸ (rfl : jGet [(0, rv (pg)), (1, rv (bd))] 1 = some (rv (bd)))
  clear eL0
  refine jx_ld (pc_q := 1) (l_q := L0) (st_q := [rv (bd)]) rfl (jl_rvn g2) ?_
  refine cx_gi (pc_q := 4) (c := 7) (q := 11) (v := F (bd) (11 : Int)) rfl rfl (by decide) (by decide) (Or.inl rfl) rfl o_bd t_bd rfl ?_
  have b3 : (-2147483648 : Int) ≤ F (bd) (11 : Int) ∧ F (bd) (11 : Int) ≤ 2147483647 := by have z := HC_i (c := 7) (q := 11) hC o_bd t_bd (by decide) rfl; rw [show F (bd) ((11 : Nat) : Int) = F (bd) (11 : Int) from rfl] at z; exact z
  refine jx_ld (pc_q := 5) (l_q := L0) (st_q := [rv (bd), .int (i32 (F (bd) (11 : Int)))]) rfl (jl_rvn g2) ?_
  refine cx_gi (pc_q := 8) (c := 7) (q := 12) (v := F (bd) (12 : Int)) rfl rfl (by decide) (by decide) (Or.inl rfl) rfl o_bd t_bd rfl ?_
  have b4 : (-2147483648 : Int) ≤ F (bd) (12 : Int) ∧ F (bd) (12 : Int) ≤ 2147483647 := by have z := HC_i (c := 7) (q := 12) hC o_bd t_bd (by decide) rfl; rw [show F (bd) ((12 : Nat) : Int) = F (bd) (12 : Int) from rfl] at z; exact z
  refine jx_add (pc_q := 9) rfl rfl ?_
  obtain ⟨z5, ez5⟩ : ∃ q, q = (i32 ((F (bd) (11 : Int) + F (bd) (12 : Int)))).toInt := ⟨_, rfl⟩
  have bz5 : (-2147483648 : Int) ≤ z5 ∧ z5 ≤ 2147483647 := ez5 ▸ i32_rg _
  rw [show i32 ((F (bd) (11 : Int) + F (bd) (12 : Int))) = i32 z5 by rw [ez5, i32_of]]
  clear ez5
  refine jx_ar (pc_q := 10) (st_q := [.int (i32 (3)), .int (i32 (z5))]) rfl rfl rfl rfl ?_
  refine jx_add (pc_q := 11) rfl rfl ?_
  obtain ⟨z6, ez6⟩ : ∃ q, q = (i32 ((z5 + 3))).toInt := ⟨_, rfl⟩
  have bz6 : (-2147483648 : Int) ≤ z6 ∧ z6 ≤ 2147483647 := ez6 ▸ i32_rg _
  rw [show i32 ((z5 + 3)) = i32 z6 by rw [ez6, i32_of]]
  clear ez6
  refine jx_ar (pc_q := 14) (st_q := [.int (i32 (4000)), .int (i32 (z6))]) rfl rfl rfl rfl ?_
  refine jx_icmp_le (pc_q := 17) (tg := 25) rfl rfl rfl (by omega) (by omega) (by decide) (by decide) (fun h7 => ?_) (fun h7 => ?_)
  · have _q := h7
    refine jx_rt (v := none) rfl rfl rfl rfl rfl rfl ?_
    exact ⟨F, rfl, rfl, hC, hM0, trivial⟩
  · have _q := h7
    refine jx_ld (pc_q := 18) (l_q := L0) (st_q := [rv (pg)]) rfl (jl_rvn g1) ?_
    refine jx_ar (pc_q := 20) (st_q := [.int (i32 (6)), rv (pg)]) rfl rfl rfl rfl ?_
    refine jx_ar (pc_q := 21) (st_q := [.int (i32 (-1)), .int (i32 (6)), rv (pg)]) rfl rfl rfl rfl ?_
    refine jx_ar (pc_q := 22) (st_q := [.int (i32 (-1)), .int (i32 (-1)), .int (i32 (6)), rv (pg)]) rfl rfl rfl rfl ?_
    refine cx_vi (c := 9) (a := pg) (st := []) (as := [.int (i32 (6)), .int (i32 (-1)), .int (i32 (-1))]) rfl rfl rfl o_pg t_pg (by decide) rfl ⟨rfl, rfl, (Nat.le_of_ble_eq_true rfl)⟩ rfl (k_LProgram_blame (dd := d) (R := R) (m := m) (tg := tg) (ln := ln) (F := F) (me := pg) (k := 6) (l := -1) (p := -1) (hd := by omega) (hC := hC) (o_me := o_pg) (t_me := t_pg) (h_k := by omega) (h_l := by omega) (h_p := by omega)) (fun o V_q hq => ?_)
    obtain ⟨F8, rfl, rfl, hC9, hM10, -⟩ := hq
    have hM11 : Fq 0 [(10, 0), (10, 1), (10, 2)] m tg F F8 := Fq_t (ln := ln) (ln1 := ln) hM0 Ex_r hM10 (by decide) (Or.inl rfl)
    refine Or.inl ⟨rfl, ?_⟩
    refine jx_rt (v := none) rfl rfl rfl rfl rfl rfl ?_
    exact ⟨F8, rfl, rfl, hC9, hM11, trivial⟩
def LKx (X : jX) (kk : Nat) : Prop := ∀ ⦃dd : Nat⦄ ⦃R : Nat → jC⦄ ⦃m : Nat⦄ ⦃tg ln : Int → Int⦄ ⦃F : Int → Int → Int⦄ ⦃me e wd : Int⦄ (hd : 3 * kk + 4 ≤ dd) (hC : HC 0 m tg ln F) (o_me : own m me) (t_me : tg me = 4) (y_e : e = 0 ∨ (own m e ∧ tg e = 8)) (h_wd : (-2147483648 : Int) ≤ wd ∧ wd ≤ 2147483647) (c_NT : NT m tg F) (n_e : SN m tg F e (kk)), wk X dd 133 [rv me, rv e, .int (i32 wd)] (cV R m tg ln F) (fun o V_q => ∃ (F_q : Int → Int → Int), V_q = cV R m tg ln F_q ∧ o = .inl none ∧ HC 0 m tg ln F_q ∧ Fq 0 [(4, 0), (8, 10)] m tg F F_q ∧ True)
set_option maxRecDepth 20000 in
set_option maxHeartbeats 4000000 in
theorem k_LLayout_keep {X : jX} {kk : Nat} (hE : 1 ≤ kk → LKx X (kk - 1)) {dd : Nat} {R : Nat → jC} {m : Nat} {tg ln : Int → Int} {F : Int → Int → Int} {me e wd : Int} (hd : 3 * kk + 4 ≤ dd) (hC : HC 0 m tg ln F) (o_me : own m me) (t_me : tg me = 4) (y_e : e = 0 ∨ (own m e ∧ tg e = 8)) (h_wd : (-2147483648 : Int) ≤ wd ∧ wd ≤ 2147483647) (c_NT : NT m tg F) (n_e : SN m tg F e (kk)) : wk X dd 133 [rv me, rv e, .int (i32 wd)] (cV R m tg ln F) (fun o V_q => ∃ (F_q : Int → Int → Int), V_q = cV R m tg ln F_q ∧ o = .inl none ∧ HC 0 m tg ln F_q ∧ Fq 0 [(4, 0), (8, 10)] m tg F F_q ∧ True) := by
  obtain ⟨d, rfl⟩ : ∃ d, dd = d + 1 := ⟨dd - 1, by omega⟩
  refine wk_of (e := jm133) rfl (by rw [jS_r, jS_r, jS_i, jS_0]; exact Nat.le_of_ble_eq_true rfl) ?_
  rw [la_r, la_r, la_i, la_0]
  show wj X d jm133 (0, [(0, rv (me)), (1, rv (e)), (2, .int (i32 (wd)))], [], cV R m tg ln F) _
  have hM0 : Fq 0 [(4, 0), (8, 10)] m tg F F := Fq_r
  obtain ⟨L0, eL0⟩ : ∃ q : jL, q = [(0, rv (me)), (1, rv (e)), (2, .int (i32 (wd)))] := ⟨_, rfl⟩
  rw [← eL0]
  have g1 : jGet L0 0 = some (rv (me)) := eL0 ▸ (rfl : jGet [(0, rv (me)), (1, rv (e)), (2, .int (i32 (wd)))] 0 = some (rv (me)))
  have g2 : jGet L0 1 = some (rv (e)) := eL0 ▸ (rfl : jGet [(0, rv (me)), (1, rv (e)), (2, .int (i32 (wd)))] 1 = some (rv (e)))
  have g3 : jGet L0 2 = some (.int (i32 (wd))) := eL0 ▸ (rfl : jGet [(0, rv (me)), (1, rv (e)), (2, .int (i32 (wd)))] 2 = some (.int (i32 (wd))))
  clear eL0
  refine jx_ld (pc_q := 1) (l_q := L0) (st_q := [rv (e)]) rfl (jl_rvn g2) ?_
  refine cx_non (pc_q := 4) (tg_q := 5) rfl rfl rfl (fun h4 => ?_) (fun h4 => ?_)
  · have _q := h4
    have ho5 : own m (e) ∧ tg (e) = 8 := y_e.resolve_left h4
    have k6 := SN_p n_e h4
    have hE7 := hE (by omega)
    refine jx_ld (pc_q := 6) (l_q := L0) (st_q := [rv (e)]) rfl (jl_rvn g2) ?_
    refine cx_st (st := []) (as := [rv (e)]) rfl rfl rfl ⟨rfl, (Nat.le_of_ble_eq_true rfl)⟩ rfl (k_LCoder_keepsRight (dd := d) (R := R) (m := m) (tg := tg) (ln := ln) (F := F) (e := e) (hd := by omega) (hC := hC) (o_e := ho5.1) (t_e := ho5.2)) (fun o V_q hq => ?_)
    obtain ⟨r8, rfl, rfl, b9, -⟩ := hq
    refine Or.inr (Or.inl ⟨_, rfl, ?_⟩)
    refine jx_if_ne (pc_q := 12) (tg := 31) rfl rfl rfl (by omega) (by omega) (fun h10 => ?_) (fun h10 => ?_)
    · have _q := h10
      refine jx_ld (pc_q := 32) (l_q := L0) (st_q := [rv (me)]) rfl (jl_rvn g1) ?_
      refine jx_ld (pc_q := 33) (l_q := L0) (st_q := [rv (e), rv (me)]) rfl (jl_rvn g2) ?_
      refine cx_gr (pc_q := 36) (c := 7) (q := 5) (v := F (e) (5 : Int)) rfl rfl (by decide) (by decide) rfl rfl ho5.1 ho5.2 rfl ?_
      have y11 : F (e) (5 : Int) = 0 ∨ (own m (F (e) (5 : Int)) ∧ tg (F (e) (5 : Int)) = 8) := by have z := HC_r (c := 7) (q := 5) hC ho5.1 ho5.2 (by decide) rfl; rw [show F (e) ((5 : Nat) : Int) = F (e) (5 : Int) from rfl] at z; exact z
      refine jx_ld (pc_q := 37) (l_q := L0) (st_q := [.int (i32 (wd)), rv (F (e) (5 : Int)), rv (me)]) rfl (jl_iloadn g3) ?_
      refine cx_vi (c := 3) (a := me) (st := []) (as := [rv (F (e) (5 : Int)), .int (i32 (wd))]) rfl rfl rfl o_me t_me (by decide) rfl ⟨rfl, rfl, (Nat.le_of_ble_eq_true rfl)⟩ rfl (hE7 (dd := d) (R := R) (m := m) (tg := tg) (ln := ln) (F := F) (me := me) (e := F (e) (5 : Int)) (wd := wd) (hd := by omega) (hC := hC) (o_me := o_me) (t_me := t_me) (y_e := y11) (h_wd := by omega) (c_NT := c_NT) (n_e := (SN_w (k_q := kk - 1) (SN_c hC c_NT n_e (own_z ho5.1) (by omega)) (by omega)))) (fun o V_q hq => ?_)
      obtain ⟨F12, rfl, rfl, hC13, hM14, -⟩ := hq
      have hM15 : Fq 0 [(4, 0), (8, 10)] m tg F F12 := Fq_t (ln := ln) (ln1 := ln) hM0 Ex_r hM14 (by decide) (Or.inl rfl)
      refine Or.inl ⟨rfl, ?_⟩
      refine jx_ld (pc_q := 41) (l_q := L0) (st_q := [rv (e)]) rfl (jl_rvn g2) ?_
      refine jx_ld (pc_q := 42) (l_q := L0) (st_q := [.int (i32 (wd)), rv (e)]) rfl (jl_iloadn g3) ?_
      refine cx_pi (pc_q := 45) (c := 7) (q := 10) (qi := (10 : Int)) (z := wd) rfl rfl (by decide) (by decide) rfl rfl rfl (by decide) rfl ho5.1 ho5.2 rfl ?_
      obtain ⟨F16, eF16⟩ : ∃ q, q = uF F12 (e) (10 : Int) (wd) := ⟨_, rfl⟩
      rw [← eF16]
      have hC17 : HC 0 m tg ln F16 := by rw [eF16]; exact HC_fi (c := 7) (q := 10) hC13 ho5.2 (by decide) rfl (by omega) (by omega) ⟨fun w => absurd w (by decide), fun w => absurd w (by decide)⟩
      have hM18 : Fq 0 [(4, 0), (8, 10)] m tg F F16 := by rw [eF16]; exact Fq_p hM15 ho5.2 (fun _ => rfl) rfl
      refine jx_ld (pc_q := 46) (l_q := L0) (st_q := [rv (me)]) rfl (jl_rvn g1) ?_
      refine jx_ld (pc_q := 47) (l_q := L0) (st_q := [.int (i32 (wd)), rv (me)]) rfl (jl_iloadn g3) ?_
      refine jx_ar (pc_q := 48) (st_q := [.int (i32 (1)), .int (i32 (wd)), rv (me)]) rfl rfl rfl rfl ?_
      refine jx_add (pc_q := 49) rfl rfl ?_
      obtain ⟨z19, ez19⟩ : ∃ q, q = (i32 ((wd + 1))).toInt := ⟨_, rfl⟩
      have bz19 : (-2147483648 : Int) ≤ z19 ∧ z19 ≤ 2147483647 := ez19 ▸ i32_rg _
      rw [show i32 ((wd + 1)) = i32 z19 by rw [ez19, i32_of]]
      clear ez19
      refine cx_vi (c := 3) (a := me) (st := []) (as := [.int (i32 (z19))]) rfl rfl rfl o_me t_me (by decide) rfl ⟨rfl, rfl, (Nat.le_of_ble_eq_true rfl)⟩ rfl (k_LLayout_grow (dd := d) (R := R) (m := m) (tg := tg) (ln := ln) (F := F16) (me := me) (wd := z19) (hd := by omega) (hC := hC17) (o_me := o_me) (t_me := t_me) (h_wd := by omega)) (fun o V_q hq => ?_)
      obtain ⟨F20, rfl, rfl, hC21, hM22, -⟩ := hq
      have hM23 : Fq 0 [(4, 0), (8, 10)] m tg F F20 := Fq_t (ln := ln) (ln1 := ln) hM18 Ex_r hM22 (by decide) (Or.inl rfl)
      refine Or.inl ⟨rfl, ?_⟩
      refine jx_ld (pc_q := 53) (l_q := L0) (st_q := [rv (me)]) rfl (jl_rvn g1) ?_
      refine jx_ld (pc_q := 54) (l_q := L0) (st_q := [rv (e), rv (me)]) rfl (jl_rvn g2) ?_
      refine cx_gr (pc_q := 57) (c := 7) (q := 4) (v := F (e) (4 : Int)) rfl rfl (by decide) (by decide) rfl rfl ho5.1 ho5.2 ((show F20 (e) (4 : Int) = F16 (e) (4 : Int) from hM22 _ _ ho5.1 (own_z ho5.1) (by rw [ho5.2]; rfl)).trans ((show F16 (e) (4 : Int) = F12 (e) (4 : Int) from by rw [eF16]; exact uF_j (by decide)).trans (show F12 (e) (4 : Int) = F (e) (4 : Int) from hM14 _ _ ho5.1 (own_z ho5.1) (by rw [ho5.2]; rfl)))) ?_
      have y24 : F (e) (4 : Int) = 0 ∨ (own m (F (e) (4 : Int)) ∧ tg (F (e) (4 : Int)) = 8) := by have z := HC_r (c := 7) (q := 4) hC21 ho5.1 ho5.2 (by decide) rfl; rw [show F20 (e) ((4 : Nat) : Int) = F (e) (4 : Int) from ((show F20 (e) (4 : Int) = F16 (e) (4 : Int) from hM22 _ _ ho5.1 (own_z ho5.1) (by rw [ho5.2]; rfl)).trans ((show F16 (e) (4 : Int) = F12 (e) (4 : Int) from by rw [eF16]; exact uF_j (by decide)).trans (show F12 (e) (4 : Int) = F (e) (4 : Int) from hM14 _ _ ho5.1 (own_z ho5.1) (by rw [ho5.2]; rfl))))] at z; exact z
      refine jx_ld (pc_q := 58) (l_q := L0) (st_q := [.int (i32 (wd)), rv (F (e) (4 : Int)), rv (me)]) rfl (jl_iloadn g3) ?_
      refine jx_ar (pc_q := 59) (st_q := [.int (i32 (1)), .int (i32 (wd)), rv (F (e) (4 : Int)), rv (me)]) rfl rfl rfl rfl ?_
      refine jx_add (pc_q := 60) rfl rfl ?_
      obtain ⟨z25, ez25⟩ : ∃ q, q = (i32 ((wd + 1))).toInt := ⟨_, rfl⟩
      have bz25 : (-2147483648 : Int) ≤ z25 ∧ z25 ≤ 2147483647 := ez25 ▸ i32_rg _
      rw [show i32 ((wd + 1)) = i32 z25 by rw [ez25, i32_of]]
      clear ez25
      refine cx_vi (c := 3) (a := me) (st := []) (as := [rv (F (e) (4 : Int)), .int (i32 (z25))]) rfl rfl rfl o_me t_me (by decide) rfl ⟨rfl, rfl, (Nat.le_of_ble_eq_true rfl)⟩ rfl (hE7 (dd := d) (R := R) (m := m) (tg := tg) (ln := ln) (F := F20) (me := me) (e := F (e) (4 : Int)) (wd := z25) (hd := by omega) (hC := hC21) (o_me := o_me) (t_me := t_me) (y_e := y24) (h_wd := by omega) (c_NT := NT_q hC c_NT hM23 rfl) (n_e := (SN_q (SN_w (k_q := kk - 1) (SN_c hC c_NT n_e (own_z ho5.1) (by omega)) (by omega)) hM23 rfl rfl))) (fun o V_q hq => ?_)
      obtain ⟨F26, rfl, rfl, hC27, hM28, -⟩ := hq
      have hM29 : Fq 0 [(4, 0), (8, 10)] m tg F F26 := Fq_t (ln := ln) (ln1 := ln) hM23 Ex_r hM28 (by decide) (Or.inl rfl)
      refine Or.inl ⟨rfl, ?_⟩
      refine jx_rt (v := none) rfl rfl rfl rfl rfl rfl ?_
      exact ⟨F26, rfl, rfl, hC27, hM29, trivial⟩
    · have _q := h10
      refine jx_ld (pc_q := 13) (l_q := L0) (st_q := [rv (me)]) rfl (jl_rvn g1) ?_
      refine jx_ld (pc_q := 14) (l_q := L0) (st_q := [rv (e), rv (me)]) rfl (jl_rvn g2) ?_
      refine cx_gr (pc_q := 17) (c := 7) (q := 4) (v := F (e) (4 : Int)) rfl rfl (by decide) (by decide) rfl rfl ho5.1 ho5.2 rfl ?_
      have y30 : F (e) (4 : Int) = 0 ∨ (own m (F (e) (4 : Int)) ∧ tg (F (e) (4 : Int)) = 8) := by have z := HC_r (c := 7) (q := 4) hC ho5.1 ho5.2 (by decide) rfl; rw [show F (e) ((4 : Nat) : Int) = F (e) (4 : Int) from rfl] at z; exact z
      refine jx_ld (pc_q := 18) (l_q := L0) (st_q := [.int (i32 (wd)), rv (F (e) (4 : Int)), rv (me)]) rfl (jl_iloadn g3) ?_
      refine cx_vi (c := 3) (a := me) (st := []) (as := [rv (F (e) (4 : Int)), .int (i32 (wd))]) rfl rfl rfl o_me t_me (by decide) rfl ⟨rfl, rfl, (Nat.le_of_ble_eq_true rfl)⟩ rfl (hE7 (dd := d) (R := R) (m := m) (tg := tg) (ln := ln) (F := F) (me := me) (e := F (e) (4 : Int)) (wd := wd) (hd := by omega) (hC := hC) (o_me := o_me) (t_me := t_me) (y_e := y30) (h_wd := by omega) (c_NT := c_NT) (n_e := (SN_w (k_q := kk - 1) (SN_c hC c_NT n_e (own_z ho5.1) (by omega)) (by omega)))) (fun o V_q hq => ?_)
      obtain ⟨F31, rfl, rfl, hC32, hM33, -⟩ := hq
      have hM34 : Fq 0 [(4, 0), (8, 10)] m tg F F31 := Fq_t (ln := ln) (ln1 := ln) hM0 Ex_r hM33 (by decide) (Or.inl rfl)
      refine Or.inl ⟨rfl, ?_⟩
      refine jx_ld (pc_q := 22) (l_q := L0) (st_q := [rv (me)]) rfl (jl_rvn g1) ?_
      refine jx_ld (pc_q := 23) (l_q := L0) (st_q := [rv (e), rv (me)]) rfl (jl_rvn g2) ?_
      refine cx_gr (pc_q := 26) (c := 7) (q := 5) (v := F (e) (5 : Int)) rfl rfl (by decide) (by decide) rfl rfl ho5.1 ho5.2 (show F31 (e) (5 : Int) = F (e) (5 : Int) from hM33 _ _ ho5.1 (own_z ho5.1) (by rw [ho5.2]; rfl)) ?_
      have y35 : F (e) (5 : Int) = 0 ∨ (own m (F (e) (5 : Int)) ∧ tg (F (e) (5 : Int)) = 8) := by have z := HC_r (c := 7) (q := 5) hC32 ho5.1 ho5.2 (by decide) rfl; rw [show F31 (e) ((5 : Nat) : Int) = F (e) (5 : Int) from (show F31 (e) (5 : Int) = F (e) (5 : Int) from hM33 _ _ ho5.1 (own_z ho5.1) (by rw [ho5.2]; rfl))] at z; exact z
      refine jx_ld (pc_q := 27) (l_q := L0) (st_q := [.int (i32 (wd)), rv (F (e) (5 : Int)), rv (me)]) rfl (jl_iloadn g3) ?_
      refine cx_vi (c := 3) (a := me) (st := []) (as := [rv (F (e) (5 : Int)), .int (i32 (wd))]) rfl rfl rfl o_me t_me (by decide) rfl ⟨rfl, rfl, (Nat.le_of_ble_eq_true rfl)⟩ rfl (hE7 (dd := d) (R := R) (m := m) (tg := tg) (ln := ln) (F := F31) (me := me) (e := F (e) (5 : Int)) (wd := wd) (hd := by omega) (hC := hC32) (o_me := o_me) (t_me := t_me) (y_e := y35) (h_wd := by omega) (c_NT := NT_q hC c_NT hM34 rfl) (n_e := (SN_q (SN_w (k_q := kk - 1) (SN_c hC c_NT n_e (own_z ho5.1) (by omega)) (by omega)) hM34 rfl rfl))) (fun o V_q hq => ?_)
      obtain ⟨F36, rfl, rfl, hC37, hM38, -⟩ := hq
      have hM39 : Fq 0 [(4, 0), (8, 10)] m tg F F36 := Fq_t (ln := ln) (ln1 := ln) hM34 Ex_r hM38 (by decide) (Or.inl rfl)
      refine Or.inl ⟨rfl, ?_⟩
      refine jx_rt (v := none) rfl rfl rfl rfl rfl rfl ?_
      exact ⟨F36, rfl, rfl, hC37, hM39, trivial⟩
  · have _q := h4
    refine jx_rt (v := none) rfl rfl rfl rfl rfl rfl ?_
    exact ⟨F, rfl, rfl, hC, hM0, trivial⟩
theorem LKx_all (X : jX) : ∀ k, LKx X k
  | 0 => @k_LLayout_keep X 0 (fun h => absurd h (by decide))
  | k + 1 => @k_LLayout_keep X (k + 1) (fun _ => LKx_all X k)
def LPx (X : jX) (kk : Nat) : Prop := ∀ ⦃dd : Nat⦄ ⦃R : Nat → jC⦄ ⦃m : Nat⦄ ⦃tg ln : Int → Int⦄ ⦃F : Int → Int → Int⦄ ⦃me p wd : Int⦄ (hd : 3 * kk + 12 ≤ dd) (hC : HC 0 m tg ln F) (o_me : own m me) (t_me : tg me = 4) (o_p : own m p) (t_p : tg p = 8) (h_wd : (-2147483648 : Int) ≤ wd ∧ wd ≤ 2147483647) (c_NT : NT m tg F) (n_p : SN m tg F p (kk)), wk X dd 127 [rv me, rv p, .int (i32 wd)] (cV R m tg ln F) (fun o V_q => ∃ (F_q : Int → Int → Int) (r : Int), V_q = cV R m tg ln F_q ∧ o = .inl (some (.int (i32 r))) ∧ HC 0 m tg ln F_q ∧ Fq 0 [(4, 0), (7, 5), (8, 10), (8, 11), (8, 12)] m tg F F_q ∧ (-2147483648 ≤ r ∧ r ≤ 2147483647) ∧ True)
set_option maxRecDepth 20000 in
set_option maxHeartbeats 4000000 in
theorem k_LLayout_deeper {X : jX} {kk : Nat} (hE : 1 ≤ kk → LPx X (kk - 1)) {dd : Nat} {R : Nat → jC} {m : Nat} {tg ln : Int → Int} {F : Int → Int → Int} {me dp p wd : Int} (hd : 3 * kk + 10 ≤ dd) (hC : HC 0 m tg ln F) (o_me : own m me) (t_me : tg me = 4) (h_dp : (-2147483648 : Int) ≤ dp ∧ dp ≤ 2147483647) (y_p : p = 0 ∨ (own m p ∧ tg p = 8)) (h_wd : (-2147483648 : Int) ≤ wd ∧ wd ≤ 2147483647) (p_0 : 1 ≤ kk) (c_NT : NT m tg F) (n_p : SN m tg F p (kk - 1)) : wk X dd 128 [rv me, .int (i32 dp), rv p, .int (i32 wd)] (cV R m tg ln F) (fun o V_q => ∃ (F_q : Int → Int → Int) (r : Int), V_q = cV R m tg ln F_q ∧ o = .inl (some (.int (i32 r))) ∧ HC 0 m tg ln F_q ∧ Fq 0 [(4, 0), (7, 5), (8, 10), (8, 11), (8, 12)] m tg F F_q ∧ (-2147483648 ≤ r ∧ r ≤ 2147483647) ∧ True) := by
  obtain ⟨d, rfl⟩ : ∃ d, dd = d + 1 := ⟨dd - 1, by omega⟩
  refine wk_of (e := jm128) rfl (by rw [jS_r, jS_i, jS_r, jS_i, jS_0]; exact Nat.le_of_ble_eq_true rfl) ?_
  rw [la_r, la_i, la_r, la_i, la_0]
  show wj X d jm128 (0, [(0, rv (me)), (1, .int (i32 (dp))), (2, rv (p)), (3, .int (i32 (wd)))], [], cV R m tg ln F) _
  have hM0 : Fq 0 [(4, 0), (7, 5), (8, 10), (8, 11), (8, 12)] m tg F F := Fq_r
  obtain ⟨L0, eL0⟩ : ∃ q : jL, q = [(0, rv (me)), (1, .int (i32 (dp))), (2, rv (p)), (3, .int (i32 (wd)))] := ⟨_, rfl⟩
  rw [← eL0]
  have g1 : jGet L0 0 = some (rv (me)) := eL0 ▸ (rfl : jGet [(0, rv (me)), (1, .int (i32 (dp))), (2, rv (p)), (3, .int (i32 (wd)))] 0 = some (rv (me)))
  have g2 : jGet L0 1 = some (.int (i32 (dp))) := eL0 ▸ (rfl : jGet [(0, rv (me)), (1, .int (i32 (dp))), (2, rv (p)), (3, .int (i32 (wd)))] 1 = some (.int (i32 (dp))))
  have g3 : jGet L0 2 = some (rv (p)) := eL0 ▸ (rfl : jGet [(0, rv (me)), (1, .int (i32 (dp))), (2, rv (p)), (3, .int (i32 (wd)))] 2 = some (rv (p)))
  have g4 : jGet L0 3 = some (.int (i32 (wd))) := eL0 ▸ (rfl : jGet [(0, rv (me)), (1, .int (i32 (dp))), (2, rv (p)), (3, .int (i32 (wd)))] 3 = some (.int (i32 (wd))))
  clear eL0
  refine jx_ld (pc_q := 1) (l_q := L0) (st_q := [rv (p)]) rfl (jl_rvn g3) ?_
  refine cx_non (pc_q := 4) (tg_q := 8) rfl rfl rfl (fun h5 => ?_) (fun h5 => ?_)
  · have _q := h5
    have ho6 : own m (p) ∧ tg (p) = 8 := y_p.resolve_left h5
    have k7 := SN_p n_p h5
    have hE8 := hE (by omega)
    refine jx_ld (pc_q := 9) (l_q := L0) (st_q := [.int (i32 (dp))]) rfl (jl_iloadn g2) ?_
    refine jx_ld (pc_q := 10) (l_q := L0) (st_q := [rv (me), .int (i32 (dp))]) rfl (jl_rvn g1) ?_
    refine jx_ld (pc_q := 11) (l_q := L0) (st_q := [rv (p), rv (me), .int (i32 (dp))]) rfl (jl_rvn g3) ?_
    refine jx_ld (pc_q := 12) (l_q := L0) (st_q := [.int (i32 (wd)), rv (p), rv (me), .int (i32 (dp))]) rfl (jl_iloadn g4) ?_
    refine cx_vi (c := 3) (a := me) (st := [.int (i32 (dp))]) (as := [rv (p), .int (i32 (wd))]) rfl rfl rfl o_me t_me (by decide) rfl ⟨rfl, rfl, (by rw [jS_i, jS_0]; exact Nat.le_of_ble_eq_true rfl)⟩ rfl (hE8 (dd := d) (R := R) (m := m) (tg := tg) (ln := ln) (F := F) (me := me) (p := p) (wd := wd) (hd := by omega) (hC := hC) (o_me := o_me) (t_me := t_me) (o_p := ho6.1) (t_p := ho6.2) (h_wd := by omega) (c_NT := c_NT) (n_p := (SN_w (k_q := kk - 1) n_p (by omega)))) (fun o V_q hq => ?_)
    obtain ⟨F9, r10, rfl, rfl, hC11, hM12, b13, -⟩ := hq
    have hM14 : Fq 0 [(4, 0), (7, 5), (8, 10), (8, 11), (8, 12)] m tg F F9 := Fq_t (ln := ln) (ln1 := ln) hM0 Ex_r hM12 (by decide) (Or.inl rfl)
    refine Or.inr (Or.inl ⟨_, rfl, ?_⟩)
    refine cx_st (st := []) (as := [.int (i32 (dp)), .int (i32 (r10))]) rfl rfl rfl ⟨rfl, (Nat.le_of_ble_eq_true rfl)⟩ rfl (k_java_lang_Math_max (dd := d) (R := R) (u := 0) (m := m) (tg := tg) (ln := ln) (F := F9) (a := dp) (b := r10) (hd := by omega) (hC := hC11) (h_a := by omega) (h_b := by omega)) (fun o V_q hq => ?_)
    obtain ⟨r15, rfl, rfl, b16, p17, p18, p19, -⟩ := hq
    refine Or.inr (Or.inl ⟨_, rfl, ?_⟩)
    refine jx_rt (v := some (.int (i32 (r15)))) rfl rfl rfl rfl rfl rfl ?_
    exact ⟨F9, (r15), rfl, rfl, hC11, hM14, by omega, trivial⟩
  · have _q := h5
    refine jx_ld (pc_q := 5) (l_q := L0) (st_q := [.int (i32 (dp))]) rfl (jl_iloadn g2) ?_
    refine jx_go (tg := 18) rfl rfl ?_
    refine jx_rt (v := some (.int (i32 (dp)))) rfl rfl rfl rfl rfl rfl ?_
    exact ⟨F, (dp), rfl, rfl, hC, hM0, by omega, trivial⟩
set_option maxRecDepth 20000 in
set_option maxHeartbeats 4000000 in
theorem k_LLayout_frame {X : jX} {kk : Nat} (hE : 1 ≤ kk → LPx X (kk - 1)) {dd : Nat} {R : Nat → jC} {m : Nat} {tg ln : Int → Int} {F : Int → Int → Int} {me bd wd : Int} (hd : 3 * kk + 10 ≤ dd) (hC : HC 0 m tg ln F) (o_me : own m me) (t_me : tg me = 4) (o_bd : own m bd) (t_bd : tg bd = 8) (h_wd : (-2147483648 : Int) ≤ wd ∧ wd ≤ 2147483647) (p_0 : 1 ≤ kk) (c_NT : NT m tg F) (n_bd : SN m tg F bd (kk - 1)) : wk X dd 125 [rv me, rv bd, .int (i32 wd)] (cV R m tg ln F) (fun o V_q => ∃ (F_q : Int → Int → Int), V_q = cV R m tg ln F_q ∧ o = .inl none ∧ HC 0 m tg ln F_q ∧ Fq 0 [(4, 0), (7, 5), (8, 10), (8, 11), (8, 12)] m tg F F_q ∧ True) := by
  obtain ⟨d, rfl⟩ : ∃ d, dd = d + 1 := ⟨dd - 1, by omega⟩
  refine wk_of (e := jm125) rfl (by rw [jS_r, jS_r, jS_i, jS_0]; exact Nat.le_of_ble_eq_true rfl) ?_
  rw [la_r, la_r, la_i, la_0]
  show wj X d jm125 (0, [(0, rv (me)), (1, rv (bd)), (2, .int (i32 (wd)))], [], cV R m tg ln F) _
  have hM0 : Fq 0 [(4, 0), (7, 5), (8, 10), (8, 11), (8, 12)] m tg F F := Fq_r
  obtain ⟨L0, eL0⟩ : ∃ q : jL, q = [(0, rv (me)), (1, rv (bd)), (2, .int (i32 (wd)))] := ⟨_, rfl⟩
  rw [← eL0]
  have g1 : jGet L0 0 = some (rv (me)) := eL0 ▸ (rfl : jGet [(0, rv (me)), (1, rv (bd)), (2, .int (i32 (wd)))] 0 = some (rv (me)))
  have g2 : jGet L0 1 = some (rv (bd)) := eL0 ▸ (rfl : jGet [(0, rv (me)), (1, rv (bd)), (2, .int (i32 (wd)))] 1 = some (rv (bd)))
  have g3 : jGet L0 2 = some (.int (i32 (wd))) := eL0 ▸ (rfl : jGet [(0, rv (me)), (1, rv (bd)), (2, .int (i32 (wd)))] 2 = some (.int (i32 (wd))))
  clear eL0
  have k4 := SN_p n_bd (own_z o_bd)
  have hE5 := hE (by omega)
  refine jx_ld (pc_q := 1) (l_q := L0) (st_q := [rv (me)]) rfl (jl_rvn g1) ?_
  refine cx_gi (pc_q := 4) (c := 3) (q := 0) (v := F (me) (0 : Int)) rfl rfl (by decide) (by decide) (Or.inl rfl) rfl o_me t_me rfl ?_
  have b6 : (-2147483648 : Int) ≤ F (me) (0 : Int) ∧ F (me) (0 : Int) ≤ 2147483647 := by have z := HC_i (c := 3) (q := 0) hC o_me t_me (by decide) rfl; rw [show F (me) ((0 : Nat) : Int) = F (me) (0 : Int) from rfl] at z; exact z
  refine jx_ld (pc_q := 5) (l_q := jSto1 L0 3 (.int (i32 (F (me) (0 : Int))))) (st_q := []) rfl rfl ?_
  obtain ⟨L7, eL7⟩ : ∃ q : jL, q = jSto1 L0 3 (.int (i32 (F (me) (0 : Int)))) := ⟨_, rfl⟩
  rw [← eL7]
  have g8 : jGet L7 0 = some (rv (me)) := eL7 ▸ jg_nr (by decide) g1
  have g9 : jGet L7 1 = some (rv (bd)) := eL7 ▸ jg_nr (by decide) g2
  have g10 : jGet L7 2 = some (.int (i32 (wd))) := eL7 ▸ jg_ne (by decide) g3 rfl
  have g11 : jGet L7 3 = some (.int (i32 (F (me) (0 : Int)))) := eL7 ▸ jg_eq
  clear eL7
  refine jx_ld (pc_q := 6) (l_q := L7) (st_q := [rv (me)]) rfl (jl_rvn g8) ?_
  refine jx_ld (pc_q := 7) (l_q := L7) (st_q := [.int (i32 (wd)), rv (me)]) rfl (jl_iloadn g10) ?_
  refine cx_pi (pc_q := 10) (c := 3) (q := 0) (qi := (0 : Int)) (z := wd) rfl rfl (by decide) (by decide) rfl rfl rfl (by decide) rfl o_me t_me rfl ?_
  obtain ⟨F12, eF12⟩ : ∃ q, q = uF F (me) (0 : Int) (wd) := ⟨_, rfl⟩
  rw [← eF12]
  have hC13 : HC 0 m tg ln F12 := by rw [eF12]; exact HC_fi (c := 3) (q := 0) hC t_me (by decide) rfl (by omega) (by omega) ⟨fun w => absurd w (by decide), fun w => absurd w (by decide)⟩
  have hM14 : Fq 0 [(4, 0), (7, 5), (8, 10), (8, 11), (8, 12)] m tg F F12 := by rw [eF12]; exact Fq_p hM0 t_me (fun _ => rfl) rfl
  refine jx_ld (pc_q := 11) (l_q := L7) (st_q := [rv (bd)]) rfl (jl_rvn g9) ?_
  refine jx_ld (pc_q := 12) (l_q := L7) (st_q := [rv (me), rv (bd)]) rfl (jl_rvn g8) ?_
  refine jx_ld (pc_q := 13) (l_q := L7) (st_q := [rv (bd), rv (me), rv (bd)]) rfl (jl_rvn g9) ?_
  refine jx_ld (pc_q := 14) (l_q := L7) (st_q := [.int (i32 (wd)), rv (bd), rv (me), rv (bd)]) rfl (jl_iloadn g10) ?_
  refine cx_vi (c := 3) (a := me) (st := [rv (bd)]) (as := [rv (bd), .int (i32 (wd))]) rfl rfl rfl o_me t_me (by decide) rfl ⟨rfl, rfl, (by rw [jS_r, jS_0]; exact Nat.le_of_ble_eq_true rfl)⟩ rfl (hE5 (dd := d) (R := R) (m := m) (tg := tg) (ln := ln) (F := F12) (me := me) (p := bd) (wd := wd) (hd := by omega) (hC := hC13) (o_me := o_me) (t_me := t_me) (o_p := o_bd) (t_p := t_bd) (h_wd := by omega) (c_NT := NT_q hC c_NT hM14 rfl) (n_p := (SN_q (SN_w (k_q := kk - 1) n_bd (by omega)) hM14 rfl rfl))) (fun o V_q hq => ?_)
  obtain ⟨F15, r16, rfl, rfl, hC17, hM18, b19, -⟩ := hq
  have hM20 : Fq 0 [(4, 0), (7, 5), (8, 10), (8, 11), (8, 12)] m tg F F15 := Fq_t (ln := ln) (ln1 := ln) hM14 Ex_r hM18 (by decide) (Or.inl rfl)
  refine Or.inr (Or.inl ⟨_, rfl, ?_⟩)
  refine cx_pi (pc_q := 20) (c := 7) (q := 12) (qi := (12 : Int)) (z := r16) rfl rfl (by decide) (by decide) rfl rfl rfl (by decide) rfl o_bd t_bd rfl ?_
  obtain ⟨F21, eF21⟩ : ∃ q, q = uF F15 (bd) (12 : Int) (r16) := ⟨_, rfl⟩
  rw [← eF21]
  have hC22 : HC 0 m tg ln F21 := by rw [eF21]; exact HC_fi (c := 7) (q := 12) hC17 t_bd (by decide) rfl (by omega) (by omega) ⟨fun w => absurd w (by decide), fun w => absurd w (by decide)⟩
  have hM23 : Fq 0 [(4, 0), (7, 5), (8, 10), (8, 11), (8, 12)] m tg F F21 := by rw [eF21]; exact Fq_p hM20 t_bd (fun _ => rfl) rfl
  refine jx_ld (pc_q := 21) (l_q := L7) (st_q := [rv (bd)]) rfl (jl_rvn g9) ?_
  refine jx_ld (pc_q := 22) (l_q := L7) (st_q := [rv (me), rv (bd)]) rfl (jl_rvn g8) ?_
  refine cx_gi (pc_q := 25) (c := 3) (q := 0) (v := F15 (me) (0 : Int)) rfl rfl (by decide) (by decide) (Or.inl rfl) rfl o_me t_me (show F21 (me) (0 : Int) = F15 (me) (0 : Int) from by rw [eF21]; exact uF_j (by decide)) ?_
  have b24 : (-2147483648 : Int) ≤ F15 (me) (0 : Int) ∧ F15 (me) (0 : Int) ≤ 2147483647 := by have z := HC_i (c := 3) (q := 0) hC22 o_me t_me (by decide) rfl; rw [show F21 (me) ((0 : Nat) : Int) = F15 (me) (0 : Int) from (show F21 (me) (0 : Int) = F15 (me) (0 : Int) from by rw [eF21]; exact uF_j (by decide))] at z; exact z
  refine cx_pi (pc_q := 28) (c := 7) (q := 11) (qi := (11 : Int)) (z := F15 (me) (0 : Int)) rfl rfl (by decide) (by decide) rfl rfl rfl (by decide) rfl o_bd t_bd rfl ?_
  obtain ⟨F25, eF25⟩ : ∃ q, q = uF F21 (bd) (11 : Int) (F15 (me) (0 : Int)) := ⟨_, rfl⟩
  rw [← eF25]
  have hC26 : HC 0 m tg ln F25 := by rw [eF25]; exact HC_fi (c := 7) (q := 11) hC22 t_bd (by decide) rfl (by omega) (by omega) ⟨fun w => absurd w (by decide), fun w => absurd w (by decide)⟩
  have hM27 : Fq 0 [(4, 0), (7, 5), (8, 10), (8, 11), (8, 12)] m tg F F25 := by rw [eF25]; exact Fq_p hM23 t_bd (fun _ => rfl) rfl
  refine jx_ld (pc_q := 29) (l_q := L7) (st_q := [rv (me)]) rfl (jl_rvn g8) ?_
  refine jx_ld (pc_q := 30) (l_q := L7) (st_q := [.int (i32 (F (me) (0 : Int))), rv (me)]) rfl (jl_iloadn g11) ?_
  refine cx_pi (pc_q := 33) (c := 3) (q := 0) (qi := (0 : Int)) (z := F (me) (0 : Int)) rfl rfl (by decide) (by decide) rfl rfl rfl (by decide) rfl o_me t_me rfl ?_
  obtain ⟨F28, eF28⟩ : ∃ q, q = uF F25 (me) (0 : Int) (F (me) (0 : Int)) := ⟨_, rfl⟩
  rw [← eF28]
  have hC29 : HC 0 m tg ln F28 := by rw [eF28]; exact HC_fi (c := 3) (q := 0) hC26 t_me (by decide) rfl (by omega) (by omega) ⟨fun w => absurd w (by decide), fun w => absurd w (by decide)⟩
  have hM30 : Fq 0 [(4, 0), (7, 5), (8, 10), (8, 11), (8, 12)] m tg F F28 := by rw [eF28]; exact Fq_p hM27 t_me (fun _ => rfl) rfl
  refine jx_rt (v := none) rfl rfl rfl rfl rfl rfl ?_
  exact ⟨F28, rfl, rfl, hC29, hM30, trivial⟩
set_option maxRecDepth 20000 in
set_option maxHeartbeats 4000000 in
theorem k_LLayout_children_at_8 {X : jX} {kk : Nat} (hE : 1 ≤ kk → LPx X (kk - 1)) {d : Nat} {R : Nat → jC} {m : Nat} {tg ln : Int → Int} {F : Int → Int → Int} {me p wd : Int} (hd : 3 * kk + 11 ≤ d + 1) (hC : HC 0 m tg ln F) (o_me : own m me) (t_me : tg me = 4) (o_p : own m p) (t_p : tg p = 8) (h_wd : (-2147483648 : Int) ≤ wd ∧ wd ≤ 2147483647) (c_NT : NT m tg F) (n_p : SN m tg F p (kk)) : ∀ (mm : Nat) (L : jL) (Fx : Int → Int → Int) (dp ch : Int), (mz m ch).toNat = mm → jGet L 0 = some (rv (me)) → jGet L 1 = some (rv (p)) → jGet L 2 = some (.int (i32 (wd))) → jGet L 3 = some (.int (i32 dp)) → jGet L 4 = some (rv ch) → HC 0 m tg ln Fx → Fq 0 [(4, 0), (7, 5), (8, 10), (8, 11), (8, 12)] m tg F Fx → ((-2147483648 : Int) ≤ dp ∧ dp ≤ 2147483647) → (ch = 0 ∨ (own m ch ∧ tg ch = 8)) → (SN m tg F ch (kk - 1)) → wj X d jm129 (8, L, [], cV R m tg ln Fx) (fun o V_q => ∃ (F_q : Int → Int → Int) (r : Int), V_q = cV R m tg ln F_q ∧ o = .inl (some (.int (i32 r))) ∧ HC 0 m tg ln F_q ∧ Fq 0 [(4, 0), (7, 5), (8, 10), (8, 11), (8, 12)] m tg F F_q ∧ (-2147483648 ≤ r ∧ r ≤ 2147483647) ∧ True) := by
  intro mm
  induction mm using Nat.strongRecOn with
  | ind mm ih =>
    intro L Fx dp ch hmm gL_0 gL_1 gL_2 gL_3 gL_4 hCx hMx rx_dp yx_ch sx_ch
    have k1 := SN_p n_p (own_z o_p)
    have hE2 := hE (by omega)
    refine jx_ld (pc_q := 10) (l_q := L) (st_q := [rv (ch)]) rfl (jl_rv gL_4) ?_
    refine cx_nul (pc_q := 13) (tg_q := 32) rfl rfl rfl (fun h3 => ?_) (fun h3 => ?_)
    · have _q := h3
      refine jx_ld (pc_q := 33) (l_q := L) (st_q := [.int (i32 (dp))]) rfl (jl_iloadn gL_3) ?_
      refine jx_rt (v := some (.int (i32 (dp)))) rfl rfl rfl rfl rfl rfl ?_
      exact ⟨Fx, (dp), rfl, rfl, hCx, hMx, by omega, trivial⟩
    · have _q := h3
      have ho4 : own m (ch) ∧ tg (ch) = 8 := yx_ch.resolve_left h3
      have k5 := SN_p sx_ch h3
      refine jx_ld (pc_q := 14) (l_q := L) (st_q := [rv (me)]) rfl (jl_rvn gL_0) ?_
      refine jx_ld (pc_q := 15) (l_q := L) (st_q := [.int (i32 (dp)), rv (me)]) rfl (jl_iloadn gL_3) ?_
      refine jx_ld (pc_q := 17) (l_q := L) (st_q := [rv (ch), .int (i32 (dp)), rv (me)]) rfl (jl_rv gL_4) ?_
      refine jx_ld (pc_q := 18) (l_q := L) (st_q := [.int (i32 (wd)), rv (ch), .int (i32 (dp)), rv (me)]) rfl (jl_iloadn gL_2) ?_
      refine cx_vi (c := 3) (a := me) (st := []) (as := [.int (i32 (dp)), rv (ch), .int (i32 (wd))]) rfl rfl rfl o_me t_me (by decide) rfl ⟨rfl, rfl, (Nat.le_of_ble_eq_true rfl)⟩ rfl (k_LLayout_deeper (dd := d) (R := R) (m := m) (tg := tg) (ln := ln) (F := Fx) (kk := kk) (hE := hE) (me := me) (dp := dp) (p := ch) (wd := wd) (hd := by omega) (hC := hCx) (o_me := o_me) (t_me := t_me) (h_dp := by omega) (y_p := (Or.inr ⟨ho4.1, ho4.2⟩)) (h_wd := by omega) (p_0 := by omega) (c_NT := NT_q hC c_NT hMx rfl) (n_p := (SN_q (SN_w sx_ch (by omega)) hMx rfl rfl))) (fun o V_q hq => ?_)
      obtain ⟨F6, r7, rfl, rfl, hC8, hM9, b10, -⟩ := hq
      have hM11 : Fq 0 [(4, 0), (7, 5), (8, 10), (8, 11), (8, 12)] m tg F F6 := Fq_t (ln := ln) (ln1 := ln) hMx Ex_r hM9 (by decide) (Or.inl rfl)
      refine Or.inr (Or.inl ⟨_, rfl, ?_⟩)
      refine jx_ld (pc_q := 22) (l_q := jSto1 L 3 (.int (i32 (r7)))) (st_q := []) rfl rfl ?_
      obtain ⟨L12, eL12⟩ : ∃ q : jL, q = jSto1 L 3 (.int (i32 (r7))) := ⟨_, rfl⟩
      rw [← eL12]
      have g13 : jGet L12 0 = some (rv (me)) := eL12 ▸ jg_nr (by decide) gL_0
      have g14 : jGet L12 1 = some (rv (p)) := eL12 ▸ jg_nr (by decide) gL_1
      have g15 : jGet L12 2 = some (.int (i32 (wd))) := eL12 ▸ jg_ne (by decide) gL_2 rfl
      have g16 : jGet L12 4 = some (rv (ch)) := eL12 ▸ jg_nr (by decide) gL_4
      have g17 : jGet L12 3 = some (.int (i32 (r7))) := eL12 ▸ jg_eq
      clear eL12
      refine jx_ld (pc_q := 24) (l_q := L12) (st_q := [rv (ch)]) rfl (jl_rv g16) ?_
      refine cx_gr (pc_q := 27) (c := 7) (q := 8) (v := F (ch) (8 : Int)) rfl rfl (by decide) (by decide) rfl rfl ho4.1 ho4.2 ((show F6 (ch) (8 : Int) = Fx (ch) (8 : Int) from hM9 _ _ ho4.1 (own_z ho4.1) (by rw [ho4.2]; rfl)).trans (show Fx (ch) (8 : Int) = F (ch) (8 : Int) from hMx _ _ ho4.1 (own_z ho4.1) (by rw [ho4.2]; rfl))) ?_
      have y18 : F (ch) (8 : Int) = 0 ∨ (own m (F (ch) (8 : Int)) ∧ tg (F (ch) (8 : Int)) = 8) := by have z := HC_r (c := 7) (q := 8) hC8 ho4.1 ho4.2 (by decide) rfl; rw [show F6 (ch) ((8 : Nat) : Int) = F (ch) (8 : Int) from ((show F6 (ch) (8 : Int) = Fx (ch) (8 : Int) from hM9 _ _ ho4.1 (own_z ho4.1) (by rw [ho4.2]; rfl)).trans (show Fx (ch) (8 : Int) = F (ch) (8 : Int) from hMx _ _ ho4.1 (own_z ho4.1) (by rw [ho4.2]; rfl)))] at z; exact z
      have z19 := mz_n hC c_NT sx_ch (own_z ho4.1)
      refine jx_ld (pc_q := 29) (l_q := jSto1 L12 4 (rv (F (ch) (8 : Int)))) (st_q := []) rfl (js_rv (by decide)) ?_
      obtain ⟨L20, eL20⟩ : ∃ q : jL, q = jSto1 L12 4 (rv (F (ch) (8 : Int))) := ⟨_, rfl⟩
      rw [← eL20]
      have g21 : jGet L20 0 = some (rv (me)) := eL20 ▸ jg_nr (by decide) g13
      have g22 : jGet L20 1 = some (rv (p)) := eL20 ▸ jg_nr (by decide) g14
      have g23 : jGet L20 2 = some (.int (i32 (wd))) := eL20 ▸ jg_ne (by decide) g15 rfl
      have g24 : jGet L20 3 = some (.int (i32 (r7))) := eL20 ▸ jg_ne (by decide) g17 rfl
      have g25 : jGet L20 4 = some (rv (F (ch) (8 : Int))) := eL20 ▸ jg_eq
      clear eL20
      refine jx_go (tg := 8) rfl rfl ?_
      exact ih _ (by omega) L20 F6 (r7) (F (ch) (8 : Int)) rfl g21 g22 g23 g24 g25 hC8 hM11 (by omega) y18 (SN_w (SN_n hC c_NT sx_ch (own_z ho4.1)) (by omega))
set_option maxRecDepth 20000 in
set_option maxHeartbeats 4000000 in
theorem k_LLayout_children {X : jX} {kk : Nat} (hE : 1 ≤ kk → LPx X (kk - 1)) {dd : Nat} {R : Nat → jC} {m : Nat} {tg ln : Int → Int} {F : Int → Int → Int} {me p wd : Int} (hd : 3 * kk + 11 ≤ dd) (hC : HC 0 m tg ln F) (o_me : own m me) (t_me : tg me = 4) (o_p : own m p) (t_p : tg p = 8) (h_wd : (-2147483648 : Int) ≤ wd ∧ wd ≤ 2147483647) (c_NT : NT m tg F) (n_p : SN m tg F p (kk)) : wk X dd 129 [rv me, rv p, .int (i32 wd)] (cV R m tg ln F) (fun o V_q => ∃ (F_q : Int → Int → Int) (r : Int), V_q = cV R m tg ln F_q ∧ o = .inl (some (.int (i32 r))) ∧ HC 0 m tg ln F_q ∧ Fq 0 [(4, 0), (7, 5), (8, 10), (8, 11), (8, 12)] m tg F F_q ∧ (-2147483648 ≤ r ∧ r ≤ 2147483647) ∧ True) := by
  obtain ⟨d, rfl⟩ : ∃ d, dd = d + 1 := ⟨dd - 1, by omega⟩
  refine wk_of (e := jm129) rfl (by rw [jS_r, jS_r, jS_i, jS_0]; exact Nat.le_of_ble_eq_true rfl) ?_
  rw [la_r, la_r, la_i, la_0]
  show wj X d jm129 (0, [(0, rv (me)), (1, rv (p)), (2, .int (i32 (wd)))], [], cV R m tg ln F) _
  have hM0 : Fq 0 [(4, 0), (7, 5), (8, 10), (8, 11), (8, 12)] m tg F F := Fq_r
  obtain ⟨L0, eL0⟩ : ∃ q : jL, q = [(0, rv (me)), (1, rv (p)), (2, .int (i32 (wd)))] := ⟨_, rfl⟩
  rw [← eL0]
  have g26 : jGet L0 0 = some (rv (me)) := eL0 ▸ (rfl : jGet [(0, rv (me)), (1, rv (p)), (2, .int (i32 (wd)))] 0 = some (rv (me)))
  have g27 : jGet L0 1 = some (rv (p)) := eL0 ▸ (rfl : jGet [(0, rv (me)), (1, rv (p)), (2, .int (i32 (wd)))] 1 = some (rv (p)))
  have g28 : jGet L0 2 = some (.int (i32 (wd))) := eL0 ▸ (rfl : jGet [(0, rv (me)), (1, rv (p)), (2, .int (i32 (wd)))] 2 = some (.int (i32 (wd))))
  clear eL0
  have k29 := SN_p n_p (own_z o_p)
  have hE30 := hE (by omega)
  refine jx_ar (pc_q := 1) (st_q := [.int (i32 (0))]) rfl rfl rfl rfl ?_
  refine jx_ld (pc_q := 2) (l_q := jSto1 L0 3 (.int (i32 (0)))) (st_q := []) rfl rfl ?_
  obtain ⟨L31, eL31⟩ : ∃ q : jL, q = jSto1 L0 3 (.int (i32 (0))) := ⟨_, rfl⟩
  rw [← eL31]
  have g32 : jGet L31 0 = some (rv (me)) := eL31 ▸ jg_nr (by decide) g26
  have g33 : jGet L31 1 = some (rv (p)) := eL31 ▸ jg_nr (by decide) g27
  have g34 : jGet L31 2 = some (.int (i32 (wd))) := eL31 ▸ jg_ne (by decide) g28 rfl
  have g35 : jGet L31 3 = some (.int (i32 (0))) := eL31 ▸ jg_eq
  clear eL31
  refine jx_ld (pc_q := 3) (l_q := L31) (st_q := [rv (p)]) rfl (jl_rvn g33) ?_
  refine cx_gr (pc_q := 6) (c := 7) (q := 4) (v := F (p) (4 : Int)) rfl rfl (by decide) (by decide) rfl rfl o_p t_p rfl ?_
  have y36 : F (p) (4 : Int) = 0 ∨ (own m (F (p) (4 : Int)) ∧ tg (F (p) (4 : Int)) = 8) := by have z := HC_r (c := 7) (q := 4) hC o_p t_p (by decide) rfl; rw [show F (p) ((4 : Nat) : Int) = F (p) (4 : Int) from rfl] at z; exact z
  refine jx_ld (pc_q := 8) (l_q := jSto1 L31 4 (rv (F (p) (4 : Int)))) (st_q := []) rfl (js_rv (by decide)) ?_
  obtain ⟨L37, eL37⟩ : ∃ q : jL, q = jSto1 L31 4 (rv (F (p) (4 : Int))) := ⟨_, rfl⟩
  rw [← eL37]
  have g38 : jGet L37 0 = some (rv (me)) := eL37 ▸ jg_nr (by decide) g32
  have g39 : jGet L37 1 = some (rv (p)) := eL37 ▸ jg_nr (by decide) g33
  have g40 : jGet L37 2 = some (.int (i32 (wd))) := eL37 ▸ jg_ne (by decide) g34 rfl
  have g41 : jGet L37 3 = some (.int (i32 (0))) := eL37 ▸ jg_ne (by decide) g35 rfl
  have g42 : jGet L37 4 = some (rv (F (p) (4 : Int))) := eL37 ▸ jg_eq
  clear eL37
  exact k_LLayout_children_at_8 (X := X) (kk := kk) (hE := hE) (d := d) (R := R) (m := m) (tg := tg) (ln := ln) (F := F) (me := me) (p := p) (wd := wd) (hd := hd) (hC := hC) (o_me := o_me) (t_me := t_me) (o_p := o_p) (t_p := t_p) (h_wd := h_wd) (c_NT := c_NT) (n_p := n_p) _ L37 F (0) (F (p) (4 : Int)) rfl g38 g39 g40 g41 g42 hC hM0 (by omega) y36 (SN_w (SN_c hC c_NT n_p (own_z o_p) (by omega)) (by omega))
set_option maxRecDepth 20000 in
set_option maxHeartbeats 4000000 in
theorem k_LLayout_loop {X : jX} {kk : Nat} (hE : 1 ≤ kk → LPx X (kk - 1)) {dd : Nat} {R : Nat → jC} {m : Nat} {tg ln : Int → Int} {F : Int → Int → Int} {me p wd : Int} (hd : 3 * kk + 11 ≤ dd) (hC : HC 0 m tg ln F) (o_me : own m me) (t_me : tg me = 4) (o_p : own m p) (t_p : tg p = 8) (h_wd : (-2147483648 : Int) ≤ wd ∧ wd ≤ 2147483647) (c_NT : NT m tg F) (n_p : SN m tg F p (kk)) : wk X dd 130 [rv me, rv p, .int (i32 wd)] (cV R m tg ln F) (fun o V_q => ∃ (F_q : Int → Int → Int) (r : Int), V_q = cV R m tg ln F_q ∧ o = .inl (some (.int (i32 r))) ∧ HC 0 m tg ln F_q ∧ Fq 0 [(4, 0), (7, 5), (8, 10), (8, 11), (8, 12)] m tg F F_q ∧ (-2147483648 ≤ r ∧ r ≤ 2147483647) ∧ True) := by
  obtain ⟨d, rfl⟩ : ∃ d, dd = d + 1 := ⟨dd - 1, by omega⟩
  refine wk_of (e := jm130) rfl (by rw [jS_r, jS_r, jS_i, jS_0]; exact Nat.le_of_ble_eq_true rfl) ?_
  rw [la_r, la_r, la_i, la_0]
  show wj X d jm130 (0, [(0, rv (me)), (1, rv (p)), (2, .int (i32 (wd)))], [], cV R m tg ln F) _
  have hM0 : Fq 0 [(4, 0), (7, 5), (8, 10), (8, 11), (8, 12)] m tg F F := Fq_r
  obtain ⟨L0, eL0⟩ : ∃ q : jL, q = [(0, rv (me)), (1, rv (p)), (2, .int (i32 (wd)))] := ⟨_, rfl⟩
  rw [← eL0]
  have g1 : jGet L0 0 = some (rv (me)) := eL0 ▸ (rfl : jGet [(0, rv (me)), (1, rv (p)), (2, .int (i32 (wd)))] 0 = some (rv (me)))
  have g2 : jGet L0 1 = some (rv (p)) := eL0 ▸ (rfl : jGet [(0, rv (me)), (1, rv (p)), (2, .int (i32 (wd)))] 1 = some (rv (p)))
  have g3 : jGet L0 2 = some (.int (i32 (wd))) := eL0 ▸ (rfl : jGet [(0, rv (me)), (1, rv (p)), (2, .int (i32 (wd)))] 2 = some (.int (i32 (wd))))
  clear eL0
  have k4 := SN_p n_p (own_z o_p)
  have hE5 := hE (by omega)
  refine jx_ld (pc_q := 1) (l_q := L0) (st_q := [rv (p)]) rfl (jl_rvn g2) ?_
  refine cx_gr (pc_q := 4) (c := 7) (q := 3) (v := F (p) (3 : Int)) rfl rfl (by decide) (by decide) rfl rfl o_p t_p rfl ?_
  have y6 : F (p) (3 : Int) = 0 ∨ (own m (F (p) (3 : Int)) ∧ tg (F (p) (3 : Int)) = 7) := by have z := HC_r (c := 7) (q := 3) hC o_p t_p (by decide) rfl; rw [show F (p) ((3 : Nat) : Int) = F (p) (3 : Int) from rfl] at z; exact z
  refine cx_nul (pc_q := 7) (tg_q := 15) rfl rfl rfl (fun h7 => ?_) (fun h7 => ?_)
  · have _q := h7
    refine jx_ld (pc_q := 16) (l_q := L0) (st_q := [rv (me)]) rfl (jl_rvn g1) ?_
    refine jx_ld (pc_q := 17) (l_q := L0) (st_q := [.int (i32 (wd)), rv (me)]) rfl (jl_iloadn g3) ?_
    refine jx_ar (pc_q := 18) (st_q := [.int (i32 (2)), .int (i32 (wd)), rv (me)]) rfl rfl rfl rfl ?_
    refine jx_add (pc_q := 19) rfl rfl ?_
    obtain ⟨z8, ez8⟩ : ∃ q, q = (i32 ((wd + 2))).toInt := ⟨_, rfl⟩
    have bz8 : (-2147483648 : Int) ≤ z8 ∧ z8 ≤ 2147483647 := ez8 ▸ i32_rg _
    rw [show i32 ((wd + 2)) = i32 z8 by rw [ez8, i32_of]]
    clear ez8
    refine cx_vi (c := 3) (a := me) (st := []) (as := [.int (i32 (z8))]) rfl rfl rfl o_me t_me (by decide) rfl ⟨rfl, rfl, (Nat.le_of_ble_eq_true rfl)⟩ rfl (k_LLayout_grow (dd := d) (R := R) (m := m) (tg := tg) (ln := ln) (F := F) (me := me) (wd := z8) (hd := by omega) (hC := hC) (o_me := o_me) (t_me := t_me) (h_wd := by omega)) (fun o V_q hq => ?_)
    obtain ⟨F9, rfl, rfl, hC10, hM11, -⟩ := hq
    have hM12 : Fq 0 [(4, 0), (7, 5), (8, 10), (8, 11), (8, 12)] m tg F F9 := Fq_t (ln := ln) (ln1 := ln) hM0 Ex_r hM11 (by decide) (Or.inl rfl)
    refine Or.inl ⟨rfl, ?_⟩
    refine jx_ld (pc_q := 23) (l_q := L0) (st_q := [rv (me)]) rfl (jl_rvn g1) ?_
    refine jx_ld (pc_q := 24) (l_q := L0) (st_q := [rv (p), rv (me)]) rfl (jl_rvn g2) ?_
    refine cx_gr (pc_q := 27) (c := 7) (q := 4) (v := F (p) (4 : Int)) rfl rfl (by decide) (by decide) rfl rfl o_p t_p (show F9 (p) (4 : Int) = F (p) (4 : Int) from hM11 _ _ o_p (own_z o_p) (by rw [t_p]; rfl)) ?_
    have y13 : F (p) (4 : Int) = 0 ∨ (own m (F (p) (4 : Int)) ∧ tg (F (p) (4 : Int)) = 8) := by have z := HC_r (c := 7) (q := 4) hC10 o_p t_p (by decide) rfl; rw [show F9 (p) ((4 : Nat) : Int) = F (p) (4 : Int) from (show F9 (p) (4 : Int) = F (p) (4 : Int) from hM11 _ _ o_p (own_z o_p) (by rw [t_p]; rfl))] at z; exact z
    refine jx_ld (pc_q := 28) (l_q := L0) (st_q := [.int (i32 (wd)), rv (F (p) (4 : Int)), rv (me)]) rfl (jl_iloadn g3) ?_
    refine jx_ar (pc_q := 29) (st_q := [.int (i32 (2)), .int (i32 (wd)), rv (F (p) (4 : Int)), rv (me)]) rfl rfl rfl rfl ?_
    refine jx_add (pc_q := 30) rfl rfl ?_
    obtain ⟨z14, ez14⟩ : ∃ q, q = (i32 ((wd + 2))).toInt := ⟨_, rfl⟩
    have bz14 : (-2147483648 : Int) ≤ z14 ∧ z14 ≤ 2147483647 := ez14 ▸ i32_rg _
    rw [show i32 ((wd + 2)) = i32 z14 by rw [ez14, i32_of]]
    clear ez14
    refine cx_vi (c := 3) (a := me) (st := []) (as := [rv (F (p) (4 : Int)), .int (i32 (z14))]) rfl rfl rfl o_me t_me (by decide) rfl ⟨rfl, rfl, (Nat.le_of_ble_eq_true rfl)⟩ rfl (LKx_all X ((kk) - 1) (dd := d) (R := R) (m := m) (tg := tg) (ln := ln) (F := F9) (me := me) (e := F (p) (4 : Int)) (wd := z14) (hd := by omega) (hC := hC10) (o_me := o_me) (t_me := t_me) (y_e := y13) (h_wd := by omega) (c_NT := NT_q hC c_NT hM12 rfl) (n_e := (SN_q (SN_w (SN_c hC c_NT n_p (own_z o_p) (by omega)) (by omega)) hM12 rfl rfl))) (fun o V_q hq => ?_)
    obtain ⟨F15, rfl, rfl, hC16, hM17, -⟩ := hq
    have hM18 : Fq 0 [(4, 0), (7, 5), (8, 10), (8, 11), (8, 12)] m tg F F15 := Fq_t (ln := ln) (ln1 := ln) hM12 Ex_r hM17 (by decide) (Or.inl rfl)
    refine Or.inl ⟨rfl, ?_⟩
    refine jx_ld (pc_q := 34) (l_q := L0) (st_q := [rv (me)]) rfl (jl_rvn g1) ?_
    refine jx_ld (pc_q := 35) (l_q := L0) (st_q := [rv (p), rv (me)]) rfl (jl_rvn g2) ?_
    refine cx_gr (pc_q := 38) (c := 7) (q := 5) (v := F (p) (5 : Int)) rfl rfl (by decide) (by decide) rfl rfl o_p t_p ((show F15 (p) (5 : Int) = F9 (p) (5 : Int) from hM17 _ _ o_p (own_z o_p) (by rw [t_p]; rfl)).trans (show F9 (p) (5 : Int) = F (p) (5 : Int) from hM11 _ _ o_p (own_z o_p) (by rw [t_p]; rfl))) ?_
    have y19 : F (p) (5 : Int) = 0 ∨ (own m (F (p) (5 : Int)) ∧ tg (F (p) (5 : Int)) = 8) := by have z := HC_r (c := 7) (q := 5) hC16 o_p t_p (by decide) rfl; rw [show F15 (p) ((5 : Nat) : Int) = F (p) (5 : Int) from ((show F15 (p) (5 : Int) = F9 (p) (5 : Int) from hM17 _ _ o_p (own_z o_p) (by rw [t_p]; rfl)).trans (show F9 (p) (5 : Int) = F (p) (5 : Int) from hM11 _ _ o_p (own_z o_p) (by rw [t_p]; rfl)))] at z; exact z
    refine jx_ld (pc_q := 39) (l_q := L0) (st_q := [.int (i32 (wd)), rv (F (p) (5 : Int)), rv (me)]) rfl (jl_iloadn g3) ?_
    refine jx_ar (pc_q := 40) (st_q := [.int (i32 (2)), .int (i32 (wd)), rv (F (p) (5 : Int)), rv (me)]) rfl rfl rfl rfl ?_
    refine jx_add (pc_q := 41) rfl rfl ?_
    obtain ⟨z20, ez20⟩ : ∃ q, q = (i32 ((wd + 2))).toInt := ⟨_, rfl⟩
    have bz20 : (-2147483648 : Int) ≤ z20 ∧ z20 ≤ 2147483647 := ez20 ▸ i32_rg _
    rw [show i32 ((wd + 2)) = i32 z20 by rw [ez20, i32_of]]
    clear ez20
    refine cx_vi (c := 3) (a := me) (st := []) (as := [rv (F (p) (5 : Int)), .int (i32 (z20))]) rfl rfl rfl o_me t_me (by decide) rfl ⟨rfl, rfl, (Nat.le_of_ble_eq_true rfl)⟩ rfl (LKx_all X ((kk) - 1) (dd := d) (R := R) (m := m) (tg := tg) (ln := ln) (F := F15) (me := me) (e := F (p) (5 : Int)) (wd := z20) (hd := by omega) (hC := hC16) (o_me := o_me) (t_me := t_me) (y_e := y19) (h_wd := by omega) (c_NT := NT_q hC c_NT hM18 rfl) (n_e := (SN_q (SN_w (SN_c hC c_NT n_p (own_z o_p) (by omega)) (by omega)) hM18 rfl rfl))) (fun o V_q hq => ?_)
    obtain ⟨F21, rfl, rfl, hC22, hM23, -⟩ := hq
    have hM24 : Fq 0 [(4, 0), (7, 5), (8, 10), (8, 11), (8, 12)] m tg F F21 := Fq_t (ln := ln) (ln1 := ln) hM18 Ex_r hM23 (by decide) (Or.inl rfl)
    refine Or.inl ⟨rfl, ?_⟩
    refine jx_ld (pc_q := 45) (l_q := L0) (st_q := [rv (me)]) rfl (jl_rvn g1) ?_
    refine jx_ar (pc_q := 46) (st_q := [.int (i32 (0)), rv (me)]) rfl rfl rfl rfl ?_
    refine jx_ld (pc_q := 47) (l_q := L0) (st_q := [rv (p), .int (i32 (0)), rv (me)]) rfl (jl_rvn g2) ?_
    refine cx_gr (pc_q := 50) (c := 7) (q := 7) (v := F (p) (7 : Int)) rfl rfl (by decide) (by decide) rfl rfl o_p t_p ((show F21 (p) (7 : Int) = F15 (p) (7 : Int) from hM23 _ _ o_p (own_z o_p) (by rw [t_p]; rfl)).trans ((show F15 (p) (7 : Int) = F9 (p) (7 : Int) from hM17 _ _ o_p (own_z o_p) (by rw [t_p]; rfl)).trans (show F9 (p) (7 : Int) = F (p) (7 : Int) from hM11 _ _ o_p (own_z o_p) (by rw [t_p]; rfl)))) ?_
    have y25 : F (p) (7 : Int) = 0 ∨ (own m (F (p) (7 : Int)) ∧ tg (F (p) (7 : Int)) = 8) := by have z := HC_r (c := 7) (q := 7) hC22 o_p t_p (by decide) rfl; rw [show F21 (p) ((7 : Nat) : Int) = F (p) (7 : Int) from ((show F21 (p) (7 : Int) = F15 (p) (7 : Int) from hM23 _ _ o_p (own_z o_p) (by rw [t_p]; rfl)).trans ((show F15 (p) (7 : Int) = F9 (p) (7 : Int) from hM17 _ _ o_p (own_z o_p) (by rw [t_p]; rfl)).trans (show F9 (p) (7 : Int) = F (p) (7 : Int) from hM11 _ _ o_p (own_z o_p) (by rw [t_p]; rfl))))] at z; exact z
    refine jx_ld (pc_q := 51) (l_q := L0) (st_q := [.int (i32 (wd)), rv (F (p) (7 : Int)), .int (i32 (0)), rv (me)]) rfl (jl_iloadn g3) ?_
    refine jx_ar (pc_q := 52) (st_q := [.int (i32 (2)), .int (i32 (wd)), rv (F (p) (7 : Int)), .int (i32 (0)), rv (me)]) rfl rfl rfl rfl ?_
    refine jx_add (pc_q := 53) rfl rfl ?_
    obtain ⟨z26, ez26⟩ : ∃ q, q = (i32 ((wd + 2))).toInt := ⟨_, rfl⟩
    have bz26 : (-2147483648 : Int) ≤ z26 ∧ z26 ≤ 2147483647 := ez26 ▸ i32_rg _
    rw [show i32 ((wd + 2)) = i32 z26 by rw [ez26, i32_of]]
    clear ez26
    refine cx_vi (c := 3) (a := me) (st := []) (as := [.int (i32 (0)), rv (F (p) (7 : Int)), .int (i32 (z26))]) rfl rfl rfl o_me t_me (by decide) rfl ⟨rfl, rfl, (Nat.le_of_ble_eq_true rfl)⟩ rfl (k_LLayout_deeper (dd := d) (R := R) (m := m) (tg := tg) (ln := ln) (F := F21) (kk := kk) (hE := hE) (me := me) (dp := 0) (p := F (p) (7 : Int)) (wd := z26) (hd := by omega) (hC := hC22) (o_me := o_me) (t_me := t_me) (h_dp := by omega) (y_p := y25) (h_wd := by omega) (p_0 := by omega) (c_NT := NT_q hC c_NT hM24 rfl) (n_p := (SN_q (SN_w (SN_c hC c_NT n_p (own_z o_p) (by omega)) (by omega)) hM24 rfl rfl))) (fun o V_q hq => ?_)
    obtain ⟨F27, r28, rfl, rfl, hC29, hM30, b31, -⟩ := hq
    have hM32 : Fq 0 [(4, 0), (7, 5), (8, 10), (8, 11), (8, 12)] m tg F F27 := Fq_t (ln := ln) (ln1 := ln) hM24 Ex_r hM30 (by decide) (Or.inl rfl)
    refine Or.inr (Or.inl ⟨_, rfl, ?_⟩)
    refine jx_rt (v := some (.int (i32 (r28)))) rfl rfl rfl rfl rfl rfl ?_
    exact ⟨F27, (r28), rfl, rfl, hC29, hM32, by omega, trivial⟩
  · have _q := h7
    have ho33 : own m (F (p) (3 : Int)) ∧ tg (F (p) (3 : Int)) = 7 := y6.resolve_left h7
    refine jx_ld (pc_q := 8) (l_q := L0) (st_q := [rv (p)]) rfl (jl_rvn g2) ?_
    refine cx_gr (pc_q := 11) (c := 7) (q := 3) (v := F (p) (3 : Int)) rfl rfl (by decide) (by decide) rfl rfl o_p t_p rfl ?_
    refine jx_ld (pc_q := 12) (l_q := L0) (st_q := [.int (i32 (wd)), rv (F (p) (3 : Int))]) rfl (jl_iloadn g3) ?_
    refine cx_pi (pc_q := 15) (c := 6) (q := 5) (qi := (5 : Int)) (z := wd) rfl rfl (by decide) (by decide) rfl rfl rfl (by decide) rfl ho33.1 ho33.2 rfl ?_
    obtain ⟨F34, eF34⟩ : ∃ q, q = uF F (F (p) (3 : Int)) (5 : Int) (wd) := ⟨_, rfl⟩
    rw [← eF34]
    have hC35 : HC 0 m tg ln F34 := by rw [eF34]; exact HC_fi (c := 6) (q := 5) hC ho33.2 (by decide) rfl (by omega) (by omega) ⟨fun w => absurd w (by decide), fun w => absurd w (by decide)⟩
    have hM36 : Fq 0 [(4, 0), (7, 5), (8, 10), (8, 11), (8, 12)] m tg F F34 := by rw [eF34]; exact Fq_p hM0 ho33.2 (fun _ => rfl) rfl
    refine jx_ld (pc_q := 16) (l_q := L0) (st_q := [rv (me)]) rfl (jl_rvn g1) ?_
    refine jx_ld (pc_q := 17) (l_q := L0) (st_q := [.int (i32 (wd)), rv (me)]) rfl (jl_iloadn g3) ?_
    refine jx_ar (pc_q := 18) (st_q := [.int (i32 (2)), .int (i32 (wd)), rv (me)]) rfl rfl rfl rfl ?_
    refine jx_add (pc_q := 19) rfl rfl ?_
    obtain ⟨z37, ez37⟩ : ∃ q, q = (i32 ((wd + 2))).toInt := ⟨_, rfl⟩
    have bz37 : (-2147483648 : Int) ≤ z37 ∧ z37 ≤ 2147483647 := ez37 ▸ i32_rg _
    rw [show i32 ((wd + 2)) = i32 z37 by rw [ez37, i32_of]]
    clear ez37
    refine cx_vi (c := 3) (a := me) (st := []) (as := [.int (i32 (z37))]) rfl rfl rfl o_me t_me (by decide) rfl ⟨rfl, rfl, (Nat.le_of_ble_eq_true rfl)⟩ rfl (k_LLayout_grow (dd := d) (R := R) (m := m) (tg := tg) (ln := ln) (F := F34) (me := me) (wd := z37) (hd := by omega) (hC := hC35) (o_me := o_me) (t_me := t_me) (h_wd := by omega)) (fun o V_q hq => ?_)
    obtain ⟨F38, rfl, rfl, hC39, hM40, -⟩ := hq
    have hM41 : Fq 0 [(4, 0), (7, 5), (8, 10), (8, 11), (8, 12)] m tg F F38 := Fq_t (ln := ln) (ln1 := ln) hM36 Ex_r hM40 (by decide) (Or.inl rfl)
    refine Or.inl ⟨rfl, ?_⟩
    refine jx_ld (pc_q := 23) (l_q := L0) (st_q := [rv (me)]) rfl (jl_rvn g1) ?_
    refine jx_ld (pc_q := 24) (l_q := L0) (st_q := [rv (p), rv (me)]) rfl (jl_rvn g2) ?_
    refine cx_gr (pc_q := 27) (c := 7) (q := 4) (v := F (p) (4 : Int)) rfl rfl (by decide) (by decide) rfl rfl o_p t_p ((show F38 (p) (4 : Int) = F34 (p) (4 : Int) from hM40 _ _ o_p (own_z o_p) (by rw [t_p]; rfl)).trans (show F34 (p) (4 : Int) = F (p) (4 : Int) from by rw [eF34]; exact uF_j (by decide))) ?_
    have y42 : F (p) (4 : Int) = 0 ∨ (own m (F (p) (4 : Int)) ∧ tg (F (p) (4 : Int)) = 8) := by have z := HC_r (c := 7) (q := 4) hC39 o_p t_p (by decide) rfl; rw [show F38 (p) ((4 : Nat) : Int) = F (p) (4 : Int) from ((show F38 (p) (4 : Int) = F34 (p) (4 : Int) from hM40 _ _ o_p (own_z o_p) (by rw [t_p]; rfl)).trans (show F34 (p) (4 : Int) = F (p) (4 : Int) from by rw [eF34]; exact uF_j (by decide)))] at z; exact z
    refine jx_ld (pc_q := 28) (l_q := L0) (st_q := [.int (i32 (wd)), rv (F (p) (4 : Int)), rv (me)]) rfl (jl_iloadn g3) ?_
    refine jx_ar (pc_q := 29) (st_q := [.int (i32 (2)), .int (i32 (wd)), rv (F (p) (4 : Int)), rv (me)]) rfl rfl rfl rfl ?_
    refine jx_add (pc_q := 30) rfl rfl ?_
    obtain ⟨z43, ez43⟩ : ∃ q, q = (i32 ((wd + 2))).toInt := ⟨_, rfl⟩
    have bz43 : (-2147483648 : Int) ≤ z43 ∧ z43 ≤ 2147483647 := ez43 ▸ i32_rg _
    rw [show i32 ((wd + 2)) = i32 z43 by rw [ez43, i32_of]]
    clear ez43
    refine cx_vi (c := 3) (a := me) (st := []) (as := [rv (F (p) (4 : Int)), .int (i32 (z43))]) rfl rfl rfl o_me t_me (by decide) rfl ⟨rfl, rfl, (Nat.le_of_ble_eq_true rfl)⟩ rfl (LKx_all X ((kk) - 1) (dd := d) (R := R) (m := m) (tg := tg) (ln := ln) (F := F38) (me := me) (e := F (p) (4 : Int)) (wd := z43) (hd := by omega) (hC := hC39) (o_me := o_me) (t_me := t_me) (y_e := y42) (h_wd := by omega) (c_NT := NT_q hC c_NT hM41 rfl) (n_e := (SN_q (SN_w (SN_c hC c_NT n_p (own_z o_p) (by omega)) (by omega)) hM41 rfl rfl))) (fun o V_q hq => ?_)
    obtain ⟨F44, rfl, rfl, hC45, hM46, -⟩ := hq
    have hM47 : Fq 0 [(4, 0), (7, 5), (8, 10), (8, 11), (8, 12)] m tg F F44 := Fq_t (ln := ln) (ln1 := ln) hM41 Ex_r hM46 (by decide) (Or.inl rfl)
    refine Or.inl ⟨rfl, ?_⟩
    refine jx_ld (pc_q := 34) (l_q := L0) (st_q := [rv (me)]) rfl (jl_rvn g1) ?_
    refine jx_ld (pc_q := 35) (l_q := L0) (st_q := [rv (p), rv (me)]) rfl (jl_rvn g2) ?_
    refine cx_gr (pc_q := 38) (c := 7) (q := 5) (v := F (p) (5 : Int)) rfl rfl (by decide) (by decide) rfl rfl o_p t_p ((show F44 (p) (5 : Int) = F38 (p) (5 : Int) from hM46 _ _ o_p (own_z o_p) (by rw [t_p]; rfl)).trans ((show F38 (p) (5 : Int) = F34 (p) (5 : Int) from hM40 _ _ o_p (own_z o_p) (by rw [t_p]; rfl)).trans (show F34 (p) (5 : Int) = F (p) (5 : Int) from by rw [eF34]; exact uF_a (fun w => by have q1 := t_p; have q2 := ho33.2; rw [w, q2] at q1; exact absurd q1 (by decide))))) ?_
    have y48 : F (p) (5 : Int) = 0 ∨ (own m (F (p) (5 : Int)) ∧ tg (F (p) (5 : Int)) = 8) := by have z := HC_r (c := 7) (q := 5) hC45 o_p t_p (by decide) rfl; rw [show F44 (p) ((5 : Nat) : Int) = F (p) (5 : Int) from ((show F44 (p) (5 : Int) = F38 (p) (5 : Int) from hM46 _ _ o_p (own_z o_p) (by rw [t_p]; rfl)).trans ((show F38 (p) (5 : Int) = F34 (p) (5 : Int) from hM40 _ _ o_p (own_z o_p) (by rw [t_p]; rfl)).trans (show F34 (p) (5 : Int) = F (p) (5 : Int) from by rw [eF34]; exact uF_a (fun w => by have q1 := t_p; have q2 := ho33.2; rw [w, q2] at q1; exact absurd q1 (by decide)))))] at z; exact z
    refine jx_ld (pc_q := 39) (l_q := L0) (st_q := [.int (i32 (wd)), rv (F (p) (5 : Int)), rv (me)]) rfl (jl_iloadn g3) ?_
    refine jx_ar (pc_q := 40) (st_q := [.int (i32 (2)), .int (i32 (wd)), rv (F (p) (5 : Int)), rv (me)]) rfl rfl rfl rfl ?_
    refine jx_add (pc_q := 41) rfl rfl ?_
    obtain ⟨z49, ez49⟩ : ∃ q, q = (i32 ((wd + 2))).toInt := ⟨_, rfl⟩
    have bz49 : (-2147483648 : Int) ≤ z49 ∧ z49 ≤ 2147483647 := ez49 ▸ i32_rg _
    rw [show i32 ((wd + 2)) = i32 z49 by rw [ez49, i32_of]]
    clear ez49
    refine cx_vi (c := 3) (a := me) (st := []) (as := [rv (F (p) (5 : Int)), .int (i32 (z49))]) rfl rfl rfl o_me t_me (by decide) rfl ⟨rfl, rfl, (Nat.le_of_ble_eq_true rfl)⟩ rfl (LKx_all X ((kk) - 1) (dd := d) (R := R) (m := m) (tg := tg) (ln := ln) (F := F44) (me := me) (e := F (p) (5 : Int)) (wd := z49) (hd := by omega) (hC := hC45) (o_me := o_me) (t_me := t_me) (y_e := y48) (h_wd := by omega) (c_NT := NT_q hC c_NT hM47 rfl) (n_e := (SN_q (SN_w (SN_c hC c_NT n_p (own_z o_p) (by omega)) (by omega)) hM47 rfl rfl))) (fun o V_q hq => ?_)
    obtain ⟨F50, rfl, rfl, hC51, hM52, -⟩ := hq
    have hM53 : Fq 0 [(4, 0), (7, 5), (8, 10), (8, 11), (8, 12)] m tg F F50 := Fq_t (ln := ln) (ln1 := ln) hM47 Ex_r hM52 (by decide) (Or.inl rfl)
    refine Or.inl ⟨rfl, ?_⟩
    refine jx_ld (pc_q := 45) (l_q := L0) (st_q := [rv (me)]) rfl (jl_rvn g1) ?_
    refine jx_ar (pc_q := 46) (st_q := [.int (i32 (0)), rv (me)]) rfl rfl rfl rfl ?_
    refine jx_ld (pc_q := 47) (l_q := L0) (st_q := [rv (p), .int (i32 (0)), rv (me)]) rfl (jl_rvn g2) ?_
    refine cx_gr (pc_q := 50) (c := 7) (q := 7) (v := F (p) (7 : Int)) rfl rfl (by decide) (by decide) rfl rfl o_p t_p ((show F50 (p) (7 : Int) = F44 (p) (7 : Int) from hM52 _ _ o_p (own_z o_p) (by rw [t_p]; rfl)).trans ((show F44 (p) (7 : Int) = F38 (p) (7 : Int) from hM46 _ _ o_p (own_z o_p) (by rw [t_p]; rfl)).trans ((show F38 (p) (7 : Int) = F34 (p) (7 : Int) from hM40 _ _ o_p (own_z o_p) (by rw [t_p]; rfl)).trans (show F34 (p) (7 : Int) = F (p) (7 : Int) from by rw [eF34]; exact uF_j (by decide))))) ?_
    have y54 : F (p) (7 : Int) = 0 ∨ (own m (F (p) (7 : Int)) ∧ tg (F (p) (7 : Int)) = 8) := by have z := HC_r (c := 7) (q := 7) hC51 o_p t_p (by decide) rfl; rw [show F50 (p) ((7 : Nat) : Int) = F (p) (7 : Int) from ((show F50 (p) (7 : Int) = F44 (p) (7 : Int) from hM52 _ _ o_p (own_z o_p) (by rw [t_p]; rfl)).trans ((show F44 (p) (7 : Int) = F38 (p) (7 : Int) from hM46 _ _ o_p (own_z o_p) (by rw [t_p]; rfl)).trans ((show F38 (p) (7 : Int) = F34 (p) (7 : Int) from hM40 _ _ o_p (own_z o_p) (by rw [t_p]; rfl)).trans (show F34 (p) (7 : Int) = F (p) (7 : Int) from by rw [eF34]; exact uF_j (by decide)))))] at z; exact z
    refine jx_ld (pc_q := 51) (l_q := L0) (st_q := [.int (i32 (wd)), rv (F (p) (7 : Int)), .int (i32 (0)), rv (me)]) rfl (jl_iloadn g3) ?_
    refine jx_ar (pc_q := 52) (st_q := [.int (i32 (2)), .int (i32 (wd)), rv (F (p) (7 : Int)), .int (i32 (0)), rv (me)]) rfl rfl rfl rfl ?_
    refine jx_add (pc_q := 53) rfl rfl ?_
    obtain ⟨z55, ez55⟩ : ∃ q, q = (i32 ((wd + 2))).toInt := ⟨_, rfl⟩
    have bz55 : (-2147483648 : Int) ≤ z55 ∧ z55 ≤ 2147483647 := ez55 ▸ i32_rg _
    rw [show i32 ((wd + 2)) = i32 z55 by rw [ez55, i32_of]]
    clear ez55
    refine cx_vi (c := 3) (a := me) (st := []) (as := [.int (i32 (0)), rv (F (p) (7 : Int)), .int (i32 (z55))]) rfl rfl rfl o_me t_me (by decide) rfl ⟨rfl, rfl, (Nat.le_of_ble_eq_true rfl)⟩ rfl (k_LLayout_deeper (dd := d) (R := R) (m := m) (tg := tg) (ln := ln) (F := F50) (kk := kk) (hE := hE) (me := me) (dp := 0) (p := F (p) (7 : Int)) (wd := z55) (hd := by omega) (hC := hC51) (o_me := o_me) (t_me := t_me) (h_dp := by omega) (y_p := y54) (h_wd := by omega) (p_0 := by omega) (c_NT := NT_q hC c_NT hM53 rfl) (n_p := (SN_q (SN_w (SN_c hC c_NT n_p (own_z o_p) (by omega)) (by omega)) hM53 rfl rfl))) (fun o V_q hq => ?_)
    obtain ⟨F56, r57, rfl, rfl, hC58, hM59, b60, -⟩ := hq
    have hM61 : Fq 0 [(4, 0), (7, 5), (8, 10), (8, 11), (8, 12)] m tg F F56 := Fq_t (ln := ln) (ln1 := ln) hM53 Ex_r hM59 (by decide) (Or.inl rfl)
    refine Or.inr (Or.inl ⟨_, rfl, ?_⟩)
    refine jx_rt (v := some (.int (i32 (r57)))) rfl rfl rfl rfl rfl rfl ?_
    exact ⟨F56, (r57), rfl, rfl, hC58, hM61, by omega, trivial⟩
set_option maxRecDepth 20000 in
set_option maxHeartbeats 4000000 in
theorem k_LLayout_branches_at_20 {X : jX} {kk : Nat} (hE : 1 ≤ kk → LPx X (kk - 1)) {d : Nat} {R : Nat → jC} {m : Nat} {tg ln : Int → Int} {F : Int → Int → Int} {me p wd : Int} (hd : 3 * kk + 11 ≤ d + 1) (hC : HC 0 m tg ln F) (o_me : own m me) (t_me : tg me = 4) (o_p : own m p) (t_p : tg p = 8) (h_wd : (-2147483648 : Int) ≤ wd ∧ wd ≤ 2147483647) (c_NT : NT m tg F) (n_p : SN m tg F p (kk)) : ∀ (mm : Nat) (L : jL) (Fx : Int → Int → Int) (dp ch : Int), (mz m ch).toNat = mm → jGet L 0 = some (rv (me)) → jGet L 1 = some (rv (p)) → jGet L 2 = some (.int (i32 (wd))) → jGet L 3 = some (.int (i32 dp)) → jGet L 4 = some (rv ch) → HC 0 m tg ln Fx → Fq 0 [(4, 0), (7, 5), (8, 10), (8, 11), (8, 12)] m tg F Fx → ((-2147483648 : Int) ≤ dp ∧ dp ≤ 2147483647) → (ch = 0 ∨ (own m ch ∧ tg ch = 8)) → (SN m tg F ch (kk - 1)) → wj X d jm131 (20, L, [], cV R m tg ln Fx) (fun o V_q => ∃ (F_q : Int → Int → Int) (r : Int), V_q = cV R m tg ln F_q ∧ o = .inl (some (.int (i32 r))) ∧ HC 0 m tg ln F_q ∧ Fq 0 [(4, 0), (7, 5), (8, 10), (8, 11), (8, 12)] m tg F F_q ∧ (-2147483648 ≤ r ∧ r ≤ 2147483647) ∧ True) := by
  intro mm
  induction mm using Nat.strongRecOn with
  | ind mm ih =>
    intro L Fx dp ch hmm gL_0 gL_1 gL_2 gL_3 gL_4 hCx hMx rx_dp yx_ch sx_ch
    have k1 := SN_p n_p (own_z o_p)
    have hE2 := hE (by omega)
    refine jx_ld (pc_q := 22) (l_q := L) (st_q := [rv (ch)]) rfl (jl_rv gL_4) ?_
    refine cx_nul (pc_q := 25) (tg_q := 81) rfl rfl rfl (fun h3 => ?_) (fun h3 => ?_)
    · have _q := h3
      refine jx_ld (pc_q := 82) (l_q := L) (st_q := [.int (i32 (dp))]) rfl (jl_iloadn gL_3) ?_
      refine jx_hp (pc_q := 84) (st_q := [.int (i32 (1000000)), .int (i32 (dp))]) rfl rfl rfl rfl rfl rfl ?_
      refine cx_st (st := []) (as := [.int (i32 (dp)), .int (i32 (1000000))]) rfl rfl rfl ⟨rfl, (Nat.le_of_ble_eq_true rfl)⟩ rfl (k_java_lang_Math_min (dd := d) (R := R) (u := 0) (m := m) (tg := tg) (ln := ln) (F := Fx) (a := dp) (b := 1000000) (hd := by omega) (hC := hCx) (h_a := by omega) (h_b := by omega)) (fun o V_q hq => ?_)
      obtain ⟨r4, rfl, rfl, b5, p6, p7, p8, -⟩ := hq
      refine Or.inr (Or.inl ⟨_, rfl, ?_⟩)
      refine jx_rt (v := some (.int (i32 (r4)))) rfl rfl rfl rfl rfl rfl ?_
      exact ⟨Fx, (r4), rfl, rfl, hCx, hMx, by omega, trivial⟩
    · have _q := h3
      have ho9 : own m (ch) ∧ tg (ch) = 8 := yx_ch.resolve_left h3
      have k10 := SN_p sx_ch h3
      refine jx_ld (pc_q := 26) (l_q := L) (st_q := [rv (me)]) rfl (jl_rvn gL_0) ?_
      refine jx_ld (pc_q := 28) (l_q := L) (st_q := [rv (ch), rv (me)]) rfl (jl_rv gL_4) ?_
      refine jx_ar (pc_q := 29) (st_q := [.int (i32 (1)), rv (ch), rv (me)]) rfl rfl rfl rfl ?_
      refine cx_vi (c := 3) (a := me) (st := []) (as := [rv (ch), .int (i32 (1))]) rfl rfl rfl o_me t_me (by decide) rfl ⟨rfl, rfl, (Nat.le_of_ble_eq_true rfl)⟩ rfl (k_LLayout_frame (dd := d) (R := R) (m := m) (tg := tg) (ln := ln) (F := Fx) (kk := kk) (hE := hE) (me := me) (bd := ch) (wd := 1) (hd := by omega) (hC := hCx) (o_me := o_me) (t_me := t_me) (o_bd := ho9.1) (t_bd := ho9.2) (h_wd := by omega) (p_0 := by omega) (c_NT := NT_q hC c_NT hMx rfl) (n_bd := (SN_q (SN_w sx_ch (by omega)) hMx rfl rfl))) (fun o V_q hq => ?_)
      obtain ⟨F11, rfl, rfl, hC12, hM13, -⟩ := hq
      have hM14 : Fq 0 [(4, 0), (7, 5), (8, 10), (8, 11), (8, 12)] m tg F F11 := Fq_t (ln := ln) (ln1 := ln) hMx Ex_r hM13 (by decide) (Or.inl rfl)
      refine Or.inl ⟨rfl, ?_⟩
      refine jx_ld (pc_q := 34) (l_q := L) (st_q := [rv (ch)]) rfl (jl_rv gL_4) ?_
      refine cx_gi (pc_q := 37) (c := 7) (q := 11) (v := F11 (ch) (11 : Int)) rfl rfl (by decide) (by decide) (Or.inl rfl) rfl ho9.1 ho9.2 rfl ?_
      have b15 : (-2147483648 : Int) ≤ F11 (ch) (11 : Int) ∧ F11 (ch) (11 : Int) ≤ 2147483647 := by have z := HC_i (c := 7) (q := 11) hC12 ho9.1 ho9.2 (by decide) rfl; rw [show F11 (ch) ((11 : Nat) : Int) = F11 (ch) (11 : Int) from rfl] at z; exact z
      refine jx_ld (pc_q := 39) (l_q := L) (st_q := [rv (ch), .int (i32 (F11 (ch) (11 : Int)))]) rfl (jl_rv gL_4) ?_
      refine cx_gi (pc_q := 42) (c := 7) (q := 12) (v := F11 (ch) (12 : Int)) rfl rfl (by decide) (by decide) (Or.inl rfl) rfl ho9.1 ho9.2 rfl ?_
      have b16 : (-2147483648 : Int) ≤ F11 (ch) (12 : Int) ∧ F11 (ch) (12 : Int) ≤ 2147483647 := by have z := HC_i (c := 7) (q := 12) hC12 ho9.1 ho9.2 (by decide) rfl; rw [show F11 (ch) ((12 : Nat) : Int) = F11 (ch) (12 : Int) from rfl] at z; exact z
      refine jx_add (pc_q := 43) rfl rfl ?_
      obtain ⟨z17, ez17⟩ : ∃ q, q = (i32 ((F11 (ch) (11 : Int) + F11 (ch) (12 : Int)))).toInt := ⟨_, rfl⟩
      have bz17 : (-2147483648 : Int) ≤ z17 ∧ z17 ≤ 2147483647 := ez17 ▸ i32_rg _
      rw [show i32 ((F11 (ch) (11 : Int) + F11 (ch) (12 : Int))) = i32 z17 by rw [ez17, i32_of]]
      clear ez17
      refine jx_ar (pc_q := 44) (st_q := [.int (i32 (3)), .int (i32 (z17))]) rfl rfl rfl rfl ?_
      refine jx_add (pc_q := 45) rfl rfl ?_
      obtain ⟨z18, ez18⟩ : ∃ q, q = (i32 ((z17 + 3))).toInt := ⟨_, rfl⟩
      have bz18 : (-2147483648 : Int) ≤ z18 ∧ z18 ≤ 2147483647 := ez18 ▸ i32_rg _
      rw [show i32 ((z17 + 3)) = i32 z18 by rw [ez18, i32_of]]
      clear ez18
      refine jx_ld (pc_q := 47) (l_q := jSto1 L 5 (.int (i32 (z18)))) (st_q := []) rfl rfl ?_
      obtain ⟨L19, eL19⟩ : ∃ q : jL, q = jSto1 L 5 (.int (i32 (z18))) := ⟨_, rfl⟩
      rw [← eL19]
      have g20 : jGet L19 0 = some (rv (me)) := eL19 ▸ jg_nr (by decide) gL_0
      have g21 : jGet L19 1 = some (rv (p)) := eL19 ▸ jg_nr (by decide) gL_1
      have g22 : jGet L19 2 = some (.int (i32 (wd))) := eL19 ▸ jg_ne (by decide) gL_2 rfl
      have g23 : jGet L19 3 = some (.int (i32 (dp))) := eL19 ▸ jg_ne (by decide) gL_3 rfl
      have g24 : jGet L19 4 = some (rv (ch)) := eL19 ▸ jg_nr (by decide) gL_4
      have g25 : jGet L19 5 = some (.int (i32 (z18))) := eL19 ▸ jg_eq
      clear eL19
      refine jx_ld (pc_q := 48) (l_q := L19) (st_q := [.int (i32 (dp))]) rfl (jl_iloadn g23) ?_
      refine jx_ld (pc_q := 49) (l_q := L19) (st_q := [rv (p), .int (i32 (dp))]) rfl (jl_rvn g21) ?_
      refine cx_gi (pc_q := 52) (c := 7) (q := 0) (v := F (p) (0 : Int)) rfl rfl (by decide) (by decide) (Or.inl rfl) rfl o_p t_p ((show F11 (p) (0 : Int) = Fx (p) (0 : Int) from hM13 _ _ o_p (own_z o_p) (by rw [t_p]; rfl)).trans (show Fx (p) (0 : Int) = F (p) (0 : Int) from hMx _ _ o_p (own_z o_p) (by rw [t_p]; rfl))) ?_
      have b26 : (-2147483648 : Int) ≤ F (p) (0 : Int) ∧ F (p) (0 : Int) ≤ 2147483647 := by have z := HC_i (c := 7) (q := 0) hC12 o_p t_p (by decide) rfl; rw [show F11 (p) ((0 : Nat) : Int) = F (p) (0 : Int) from ((show F11 (p) (0 : Int) = Fx (p) (0 : Int) from hM13 _ _ o_p (own_z o_p) (by rw [t_p]; rfl)).trans (show Fx (p) (0 : Int) = F (p) (0 : Int) from hMx _ _ o_p (own_z o_p) (by rw [t_p]; rfl)))] at z; exact z
      refine jx_ar (pc_q := 54) (st_q := [.int (i32 (10)), .int (i32 (F (p) (0 : Int))), .int (i32 (dp))]) rfl rfl rfl rfl ?_
      refine jx_icmp_ne (pc_q := 57) (tg := 67) rfl rfl rfl (by omega) (by omega) (by decide) (by decide) (fun h27 => ?_) (fun h27 => ?_)
      · have _q := h27
        refine jx_ld (pc_q := 69) (l_q := L19) (st_q := [.int (i32 (z18)), .int (i32 (dp))]) rfl (jl_iload g25) ?_
        refine jx_add (pc_q := 70) rfl rfl ?_
        obtain ⟨z28, ez28⟩ : ∃ q, q = (i32 ((dp + z18))).toInt := ⟨_, rfl⟩
        have bz28 : (-2147483648 : Int) ≤ z28 ∧ z28 ≤ 2147483647 := ez28 ▸ i32_rg _
        rw [show i32 ((dp + z18)) = i32 z28 by rw [ez28, i32_of]]
        clear ez28
        refine jx_ld (pc_q := 71) (l_q := jSto1 L19 3 (.int (i32 (z28)))) (st_q := []) rfl rfl ?_
        obtain ⟨L29, eL29⟩ : ∃ q : jL, q = jSto1 L19 3 (.int (i32 (z28))) := ⟨_, rfl⟩
        rw [← eL29]
        have g30 : jGet L29 0 = some (rv (me)) := eL29 ▸ jg_nr (by decide) g20
        have g31 : jGet L29 1 = some (rv (p)) := eL29 ▸ jg_nr (by decide) g21
        have g32 : jGet L29 2 = some (.int (i32 (wd))) := eL29 ▸ jg_ne (by decide) g22 rfl
        have g33 : jGet L29 4 = some (rv (ch)) := eL29 ▸ jg_nr (by decide) g24
        have g34 : jGet L29 5 = some (.int (i32 (z18))) := eL29 ▸ jg_ne (by decide) g25 rfl
        have g35 : jGet L29 3 = some (.int (i32 (z28))) := eL29 ▸ jg_eq
        clear eL29
        refine jx_ld (pc_q := 73) (l_q := L29) (st_q := [rv (ch)]) rfl (jl_rv g33) ?_
        refine cx_gr (pc_q := 76) (c := 7) (q := 8) (v := F (ch) (8 : Int)) rfl rfl (by decide) (by decide) rfl rfl ho9.1 ho9.2 ((show F11 (ch) (8 : Int) = Fx (ch) (8 : Int) from hM13 _ _ ho9.1 (own_z ho9.1) (by rw [ho9.2]; rfl)).trans (show Fx (ch) (8 : Int) = F (ch) (8 : Int) from hMx _ _ ho9.1 (own_z ho9.1) (by rw [ho9.2]; rfl))) ?_
        have y36 : F (ch) (8 : Int) = 0 ∨ (own m (F (ch) (8 : Int)) ∧ tg (F (ch) (8 : Int)) = 8) := by have z := HC_r (c := 7) (q := 8) hC12 ho9.1 ho9.2 (by decide) rfl; rw [show F11 (ch) ((8 : Nat) : Int) = F (ch) (8 : Int) from ((show F11 (ch) (8 : Int) = Fx (ch) (8 : Int) from hM13 _ _ ho9.1 (own_z ho9.1) (by rw [ho9.2]; rfl)).trans (show Fx (ch) (8 : Int) = F (ch) (8 : Int) from hMx _ _ ho9.1 (own_z ho9.1) (by rw [ho9.2]; rfl)))] at z; exact z
        have z37 := mz_n hC c_NT sx_ch (own_z ho9.1)
        refine jx_ld (pc_q := 78) (l_q := jSto1 L29 4 (rv (F (ch) (8 : Int)))) (st_q := []) rfl (js_rv (by decide)) ?_
        obtain ⟨L38, eL38⟩ : ∃ q : jL, q = jSto1 L29 4 (rv (F (ch) (8 : Int))) := ⟨_, rfl⟩
        rw [← eL38]
        have g39 : jGet L38 0 = some (rv (me)) := eL38 ▸ jg_nr (by decide) g30
        have g40 : jGet L38 1 = some (rv (p)) := eL38 ▸ jg_nr (by decide) g31
        have g41 : jGet L38 2 = some (.int (i32 (wd))) := eL38 ▸ jg_ne (by decide) g32 rfl
        have g42 : jGet L38 5 = some (.int (i32 (z18))) := eL38 ▸ jg_ne (by decide) g34 rfl
        have g43 : jGet L38 3 = some (.int (i32 (z28))) := eL38 ▸ jg_ne (by decide) g35 rfl
        have g44 : jGet L38 4 = some (rv (F (ch) (8 : Int))) := eL38 ▸ jg_eq
        clear eL38
        refine jx_go (tg := 20) rfl rfl ?_
        exact ih _ (by omega) L38 F11 (z28) (F (ch) (8 : Int)) rfl g39 g40 g41 g43 g44 hC12 hM14 (by omega) y36 (SN_w (SN_n hC c_NT sx_ch (own_z ho9.1)) (by omega))
      · have _q := h27
        refine jx_ld (pc_q := 59) (l_q := L19) (st_q := [.int (i32 (z18)), .int (i32 (dp))]) rfl (jl_iload g25) ?_
        refine jx_ld (pc_q := 60) (l_q := L19) (st_q := [rv (p), .int (i32 (z18)), .int (i32 (dp))]) rfl (jl_rvn g21) ?_
        refine cx_gi (pc_q := 63) (c := 7) (q := 2) (v := F (p) (2 : Int)) rfl rfl (by decide) (by decide) (Or.inl rfl) rfl o_p t_p ((show F11 (p) (2 : Int) = Fx (p) (2 : Int) from hM13 _ _ o_p (own_z o_p) (by rw [t_p]; rfl)).trans (show Fx (p) (2 : Int) = F (p) (2 : Int) from hMx _ _ o_p (own_z o_p) (by rw [t_p]; rfl))) ?_
        have b45 : (-2147483648 : Int) ≤ F (p) (2 : Int) ∧ F (p) (2 : Int) ≤ 2147483647 := by have z := HC_i (c := 7) (q := 2) hC12 o_p t_p (by decide) rfl; rw [show F11 (p) ((2 : Nat) : Int) = F (p) (2 : Int) from ((show F11 (p) (2 : Int) = Fx (p) (2 : Int) from hM13 _ _ o_p (own_z o_p) (by rw [t_p]; rfl)).trans (show Fx (p) (2 : Int) = F (p) (2 : Int) from hMx _ _ o_p (own_z o_p) (by rw [t_p]; rfl)))] at z; exact z
        refine jx_mul (pc_q := 64) rfl rfl ?_
        obtain ⟨z46, ez46⟩ : ∃ q, q = (i32 ((z18 * F (p) (2 : Int)))).toInt := ⟨_, rfl⟩
        have bz46 : (-2147483648 : Int) ≤ z46 ∧ z46 ≤ 2147483647 := ez46 ▸ i32_rg _
        rw [show i32 ((z18 * F (p) (2 : Int))) = i32 z46 by rw [ez46, i32_of]]
        clear ez46
        refine jx_go (tg := 69) rfl rfl ?_
        refine jx_add (pc_q := 70) rfl rfl ?_
        obtain ⟨z47, ez47⟩ : ∃ q, q = (i32 ((dp + z46))).toInt := ⟨_, rfl⟩
        have bz47 : (-2147483648 : Int) ≤ z47 ∧ z47 ≤ 2147483647 := ez47 ▸ i32_rg _
        rw [show i32 ((dp + z46)) = i32 z47 by rw [ez47, i32_of]]
        clear ez47
        refine jx_ld (pc_q := 71) (l_q := jSto1 L19 3 (.int (i32 (z47)))) (st_q := []) rfl rfl ?_
        obtain ⟨L48, eL48⟩ : ∃ q : jL, q = jSto1 L19 3 (.int (i32 (z47))) := ⟨_, rfl⟩
        rw [← eL48]
        have g49 : jGet L48 0 = some (rv (me)) := eL48 ▸ jg_nr (by decide) g20
        have g50 : jGet L48 1 = some (rv (p)) := eL48 ▸ jg_nr (by decide) g21
        have g51 : jGet L48 2 = some (.int (i32 (wd))) := eL48 ▸ jg_ne (by decide) g22 rfl
        have g52 : jGet L48 4 = some (rv (ch)) := eL48 ▸ jg_nr (by decide) g24
        have g53 : jGet L48 5 = some (.int (i32 (z18))) := eL48 ▸ jg_ne (by decide) g25 rfl
        have g54 : jGet L48 3 = some (.int (i32 (z47))) := eL48 ▸ jg_eq
        clear eL48
        refine jx_ld (pc_q := 73) (l_q := L48) (st_q := [rv (ch)]) rfl (jl_rv g52) ?_
        refine cx_gr (pc_q := 76) (c := 7) (q := 8) (v := F (ch) (8 : Int)) rfl rfl (by decide) (by decide) rfl rfl ho9.1 ho9.2 ((show F11 (ch) (8 : Int) = Fx (ch) (8 : Int) from hM13 _ _ ho9.1 (own_z ho9.1) (by rw [ho9.2]; rfl)).trans (show Fx (ch) (8 : Int) = F (ch) (8 : Int) from hMx _ _ ho9.1 (own_z ho9.1) (by rw [ho9.2]; rfl))) ?_
        have y55 : F (ch) (8 : Int) = 0 ∨ (own m (F (ch) (8 : Int)) ∧ tg (F (ch) (8 : Int)) = 8) := by have z := HC_r (c := 7) (q := 8) hC12 ho9.1 ho9.2 (by decide) rfl; rw [show F11 (ch) ((8 : Nat) : Int) = F (ch) (8 : Int) from ((show F11 (ch) (8 : Int) = Fx (ch) (8 : Int) from hM13 _ _ ho9.1 (own_z ho9.1) (by rw [ho9.2]; rfl)).trans (show Fx (ch) (8 : Int) = F (ch) (8 : Int) from hMx _ _ ho9.1 (own_z ho9.1) (by rw [ho9.2]; rfl)))] at z; exact z
        have z56 := mz_n hC c_NT sx_ch (own_z ho9.1)
        refine jx_ld (pc_q := 78) (l_q := jSto1 L48 4 (rv (F (ch) (8 : Int)))) (st_q := []) rfl (js_rv (by decide)) ?_
        obtain ⟨L57, eL57⟩ : ∃ q : jL, q = jSto1 L48 4 (rv (F (ch) (8 : Int))) := ⟨_, rfl⟩
        rw [← eL57]
        have g58 : jGet L57 0 = some (rv (me)) := eL57 ▸ jg_nr (by decide) g49
        have g59 : jGet L57 1 = some (rv (p)) := eL57 ▸ jg_nr (by decide) g50
        have g60 : jGet L57 2 = some (.int (i32 (wd))) := eL57 ▸ jg_ne (by decide) g51 rfl
        have g61 : jGet L57 5 = some (.int (i32 (z18))) := eL57 ▸ jg_ne (by decide) g53 rfl
        have g62 : jGet L57 3 = some (.int (i32 (z47))) := eL57 ▸ jg_ne (by decide) g54 rfl
        have g63 : jGet L57 4 = some (rv (F (ch) (8 : Int))) := eL57 ▸ jg_eq
        clear eL57
        refine jx_go (tg := 20) rfl rfl ?_
        exact ih _ (by omega) L57 F11 (z47) (F (ch) (8 : Int)) rfl g58 g59 g60 g62 g63 hC12 hM14 (by omega) y55 (SN_w (SN_n hC c_NT sx_ch (own_z ho9.1)) (by omega))
set_option maxRecDepth 20000 in
set_option maxHeartbeats 4000000 in
theorem k_LLayout_branches {X : jX} {kk : Nat} (hE : 1 ≤ kk → LPx X (kk - 1)) {dd : Nat} {R : Nat → jC} {m : Nat} {tg ln : Int → Int} {F : Int → Int → Int} {me p wd : Int} (hd : 3 * kk + 11 ≤ dd) (hC : HC 0 m tg ln F) (o_me : own m me) (t_me : tg me = 4) (o_p : own m p) (t_p : tg p = 8) (h_wd : (-2147483648 : Int) ≤ wd ∧ wd ≤ 2147483647) (c_NT : NT m tg F) (n_p : SN m tg F p (kk)) : wk X dd 131 [rv me, rv p, .int (i32 wd)] (cV R m tg ln F) (fun o V_q => ∃ (F_q : Int → Int → Int) (r : Int), V_q = cV R m tg ln F_q ∧ o = .inl (some (.int (i32 r))) ∧ HC 0 m tg ln F_q ∧ Fq 0 [(4, 0), (7, 5), (8, 10), (8, 11), (8, 12)] m tg F F_q ∧ (-2147483648 ≤ r ∧ r ≤ 2147483647) ∧ True) := by
  obtain ⟨d, rfl⟩ : ∃ d, dd = d + 1 := ⟨dd - 1, by omega⟩
  refine wk_of (e := jm131) rfl (by rw [jS_r, jS_r, jS_i, jS_0]; exact Nat.le_of_ble_eq_true rfl) ?_
  rw [la_r, la_r, la_i, la_0]
  show wj X d jm131 (0, [(0, rv (me)), (1, rv (p)), (2, .int (i32 (wd)))], [], cV R m tg ln F) _
  have hM0 : Fq 0 [(4, 0), (7, 5), (8, 10), (8, 11), (8, 12)] m tg F F := Fq_r
  obtain ⟨L0, eL0⟩ : ∃ q : jL, q = [(0, rv (me)), (1, rv (p)), (2, .int (i32 (wd)))] := ⟨_, rfl⟩
  rw [← eL0]
  have g64 : jGet L0 0 = some (rv (me)) := eL0 ▸ (rfl : jGet [(0, rv (me)), (1, rv (p)), (2, .int (i32 (wd)))] 0 = some (rv (me)))
  have g65 : jGet L0 1 = some (rv (p)) := eL0 ▸ (rfl : jGet [(0, rv (me)), (1, rv (p)), (2, .int (i32 (wd)))] 1 = some (rv (p)))
  have g66 : jGet L0 2 = some (.int (i32 (wd))) := eL0 ▸ (rfl : jGet [(0, rv (me)), (1, rv (p)), (2, .int (i32 (wd)))] 2 = some (.int (i32 (wd))))
  clear eL0
  have k67 := SN_p n_p (own_z o_p)
  have hE68 := hE (by omega)
  refine jx_ld (pc_q := 1) (l_q := L0) (st_q := [rv (p)]) rfl (jl_rvn g65) ?_
  refine jx_ld (pc_q := 2) (l_q := L0) (st_q := [.int (i32 (wd)), rv (p)]) rfl (jl_iloadn g66) ?_
  refine cx_pi (pc_q := 5) (c := 7) (q := 10) (qi := (10 : Int)) (z := wd) rfl rfl (by decide) (by decide) rfl rfl rfl (by decide) rfl o_p t_p rfl ?_
  obtain ⟨F69, eF69⟩ : ∃ q, q = uF F (p) (10 : Int) (wd) := ⟨_, rfl⟩
  rw [← eF69]
  have hC70 : HC 0 m tg ln F69 := by rw [eF69]; exact HC_fi (c := 7) (q := 10) hC t_p (by decide) rfl (by omega) (by omega) ⟨fun w => absurd w (by decide), fun w => absurd w (by decide)⟩
  have hM71 : Fq 0 [(4, 0), (7, 5), (8, 10), (8, 11), (8, 12)] m tg F F69 := by rw [eF69]; exact Fq_p hM0 t_p (fun _ => rfl) rfl
  refine jx_ld (pc_q := 6) (l_q := L0) (st_q := [rv (me)]) rfl (jl_rvn g64) ?_
  refine jx_ld (pc_q := 7) (l_q := L0) (st_q := [.int (i32 (wd)), rv (me)]) rfl (jl_iloadn g66) ?_
  refine jx_ar (pc_q := 8) (st_q := [.int (i32 (3)), .int (i32 (wd)), rv (me)]) rfl rfl rfl rfl ?_
  refine jx_add (pc_q := 9) rfl rfl ?_
  obtain ⟨z72, ez72⟩ : ∃ q, q = (i32 ((wd + 3))).toInt := ⟨_, rfl⟩
  have bz72 : (-2147483648 : Int) ≤ z72 ∧ z72 ≤ 2147483647 := ez72 ▸ i32_rg _
  rw [show i32 ((wd + 3)) = i32 z72 by rw [ez72, i32_of]]
  clear ez72
  refine cx_vi (c := 3) (a := me) (st := []) (as := [.int (i32 (z72))]) rfl rfl rfl o_me t_me (by decide) rfl ⟨rfl, rfl, (Nat.le_of_ble_eq_true rfl)⟩ rfl (k_LLayout_grow (dd := d) (R := R) (m := m) (tg := tg) (ln := ln) (F := F69) (me := me) (wd := z72) (hd := by omega) (hC := hC70) (o_me := o_me) (t_me := t_me) (h_wd := by omega)) (fun o V_q hq => ?_)
  obtain ⟨F73, rfl, rfl, hC74, hM75, -⟩ := hq
  have hM76 : Fq 0 [(4, 0), (7, 5), (8, 10), (8, 11), (8, 12)] m tg F F73 := Fq_t (ln := ln) (ln1 := ln) hM71 Ex_r hM75 (by decide) (Or.inl rfl)
  refine Or.inl ⟨rfl, ?_⟩
  refine jx_ar (pc_q := 13) (st_q := [.int (i32 (3))]) rfl rfl rfl rfl ?_
  refine jx_ld (pc_q := 14) (l_q := jSto1 L0 3 (.int (i32 (3)))) (st_q := []) rfl rfl ?_
  obtain ⟨L77, eL77⟩ : ∃ q : jL, q = jSto1 L0 3 (.int (i32 (3))) := ⟨_, rfl⟩
  rw [← eL77]
  have g78 : jGet L77 0 = some (rv (me)) := eL77 ▸ jg_nr (by decide) g64
  have g79 : jGet L77 1 = some (rv (p)) := eL77 ▸ jg_nr (by decide) g65
  have g80 : jGet L77 2 = some (.int (i32 (wd))) := eL77 ▸ jg_ne (by decide) g66 rfl
  have g81 : jGet L77 3 = some (.int (i32 (3))) := eL77 ▸ jg_eq
  clear eL77
  refine jx_ld (pc_q := 15) (l_q := L77) (st_q := [rv (p)]) rfl (jl_rvn g79) ?_
  refine cx_gr (pc_q := 18) (c := 7) (q := 4) (v := F (p) (4 : Int)) rfl rfl (by decide) (by decide) rfl rfl o_p t_p ((show F73 (p) (4 : Int) = F69 (p) (4 : Int) from hM75 _ _ o_p (own_z o_p) (by rw [t_p]; rfl)).trans (show F69 (p) (4 : Int) = F (p) (4 : Int) from by rw [eF69]; exact uF_j (by decide))) ?_
  have y82 : F (p) (4 : Int) = 0 ∨ (own m (F (p) (4 : Int)) ∧ tg (F (p) (4 : Int)) = 8) := by have z := HC_r (c := 7) (q := 4) hC74 o_p t_p (by decide) rfl; rw [show F73 (p) ((4 : Nat) : Int) = F (p) (4 : Int) from ((show F73 (p) (4 : Int) = F69 (p) (4 : Int) from hM75 _ _ o_p (own_z o_p) (by rw [t_p]; rfl)).trans (show F69 (p) (4 : Int) = F (p) (4 : Int) from by rw [eF69]; exact uF_j (by decide)))] at z; exact z
  refine jx_ld (pc_q := 20) (l_q := jSto1 L77 4 (rv (F (p) (4 : Int)))) (st_q := []) rfl (js_rv (by decide)) ?_
  obtain ⟨L83, eL83⟩ : ∃ q : jL, q = jSto1 L77 4 (rv (F (p) (4 : Int))) := ⟨_, rfl⟩
  rw [← eL83]
  have g84 : jGet L83 0 = some (rv (me)) := eL83 ▸ jg_nr (by decide) g78
  have g85 : jGet L83 1 = some (rv (p)) := eL83 ▸ jg_nr (by decide) g79
  have g86 : jGet L83 2 = some (.int (i32 (wd))) := eL83 ▸ jg_ne (by decide) g80 rfl
  have g87 : jGet L83 3 = some (.int (i32 (3))) := eL83 ▸ jg_ne (by decide) g81 rfl
  have g88 : jGet L83 4 = some (rv (F (p) (4 : Int))) := eL83 ▸ jg_eq
  clear eL83
  exact k_LLayout_branches_at_20 (X := X) (kk := kk) (hE := hE) (d := d) (R := R) (m := m) (tg := tg) (ln := ln) (F := F) (me := me) (p := p) (wd := wd) (hd := hd) (hC := hC) (o_me := o_me) (t_me := t_me) (o_p := o_p) (t_p := t_p) (h_wd := h_wd) (c_NT := c_NT) (n_p := n_p) _ L83 F73 (3) (F (p) (4 : Int)) rfl g84 g85 g86 g87 g88 hC74 hM76 (by omega) y82 (SN_w (SN_c hC c_NT n_p (own_z o_p) (by omega)) (by omega))
set_option maxRecDepth 20000 in
set_option maxHeartbeats 4000000 in
theorem k_LLayout_choices_at_13 {X : jX} {kk : Nat} (hE : 1 ≤ kk → LPx X (kk - 1)) {d : Nat} {R : Nat → jC} {m : Nat} {tg ln : Int → Int} {F : Int → Int → Int} {me p wd : Int} (hd : 3 * kk + 11 ≤ d + 1) (hC : HC 0 m tg ln F) (o_me : own m me) (t_me : tg me = 4) (o_p : own m p) (t_p : tg p = 8) (h_wd : (-2147483648 : Int) ≤ wd ∧ wd ≤ 2147483647) (c_NT : NT m tg F) (n_p : SN m tg F p (kk)) : ∀ (mm : Nat) (L : jL) (Fx : Int → Int → Int) (dp ch : Int), (mz m ch).toNat = mm → jGet L 0 = some (rv (me)) → jGet L 1 = some (rv (p)) → jGet L 2 = some (.int (i32 (wd))) → jGet L 3 = some (.int (i32 dp)) → jGet L 4 = some (rv ch) → HC 0 m tg ln Fx → Fq 0 [(4, 0), (7, 5), (8, 10), (8, 11), (8, 12)] m tg F Fx → ((-2147483648 : Int) ≤ dp ∧ dp ≤ 2147483647) → (ch = 0 ∨ (own m ch ∧ tg ch = 8)) → (SN m tg F ch (kk - 1)) → wj X d jm132 (13, L, [], cV R m tg ln Fx) (fun o V_q => ∃ (F_q : Int → Int → Int) (r : Int), V_q = cV R m tg ln F_q ∧ o = .inl (some (.int (i32 r))) ∧ HC 0 m tg ln F_q ∧ Fq 0 [(4, 0), (7, 5), (8, 10), (8, 11), (8, 12)] m tg F F_q ∧ (-2147483648 ≤ r ∧ r ≤ 2147483647) ∧ True) := by
  intro mm
  induction mm using Nat.strongRecOn with
  | ind mm ih =>
    intro L Fx dp ch hmm gL_0 gL_1 gL_2 gL_3 gL_4 hCx hMx rx_dp yx_ch sx_ch
    have k1 := SN_p n_p (own_z o_p)
    have hE2 := hE (by omega)
    refine jx_ld (pc_q := 15) (l_q := L) (st_q := [rv (ch)]) rfl (jl_rv gL_4) ?_
    refine cx_nul (pc_q := 18) (tg_q := 70) rfl rfl rfl (fun h3 => ?_) (fun h3 => ?_)
    · have _q := h3
      refine jx_ld (pc_q := 71) (l_q := L) (st_q := [.int (i32 (dp))]) rfl (jl_iloadn gL_3) ?_
      refine jx_rt (v := some (.int (i32 (dp)))) rfl rfl rfl rfl rfl rfl ?_
      exact ⟨Fx, (dp), rfl, rfl, hCx, hMx, by omega, trivial⟩
    · have _q := h3
      have ho4 : own m (ch) ∧ tg (ch) = 8 := yx_ch.resolve_left h3
      have k5 := SN_p sx_ch h3
      refine jx_ld (pc_q := 19) (l_q := L) (st_q := [rv (me)]) rfl (jl_rvn gL_0) ?_
      refine jx_ld (pc_q := 21) (l_q := L) (st_q := [rv (ch), rv (me)]) rfl (jl_rv gL_4) ?_
      refine cx_gr (pc_q := 24) (c := 7) (q := 4) (v := F (ch) (4 : Int)) rfl rfl (by decide) (by decide) rfl rfl ho4.1 ho4.2 (show Fx (ch) (4 : Int) = F (ch) (4 : Int) from hMx _ _ ho4.1 (own_z ho4.1) (by rw [ho4.2]; rfl)) ?_
      have y6 : F (ch) (4 : Int) = 0 ∨ (own m (F (ch) (4 : Int)) ∧ tg (F (ch) (4 : Int)) = 8) := by have z := HC_r (c := 7) (q := 4) hCx ho4.1 ho4.2 (by decide) rfl; rw [show Fx (ch) ((4 : Nat) : Int) = F (ch) (4 : Int) from (show Fx (ch) (4 : Int) = F (ch) (4 : Int) from hMx _ _ ho4.1 (own_z ho4.1) (by rw [ho4.2]; rfl))] at z; exact z
      refine jx_ld (pc_q := 25) (l_q := L) (st_q := [.int (i32 (wd)), rv (F (ch) (4 : Int)), rv (me)]) rfl (jl_iloadn gL_2) ?_
      refine cx_vi (c := 3) (a := me) (st := []) (as := [rv (F (ch) (4 : Int)), .int (i32 (wd))]) rfl rfl rfl o_me t_me (by decide) rfl ⟨rfl, rfl, (Nat.le_of_ble_eq_true rfl)⟩ rfl (LKx_all X ((kk - 1) - 1) (dd := d) (R := R) (m := m) (tg := tg) (ln := ln) (F := Fx) (me := me) (e := F (ch) (4 : Int)) (wd := wd) (hd := by omega) (hC := hCx) (o_me := o_me) (t_me := t_me) (y_e := y6) (h_wd := by omega) (c_NT := NT_q hC c_NT hMx rfl) (n_e := (SN_q (SN_w (SN_c hC c_NT sx_ch (own_z ho4.1) (by omega)) (by omega)) hMx rfl rfl))) (fun o V_q hq => ?_)
      obtain ⟨F7, rfl, rfl, hC8, hM9, -⟩ := hq
      have hM10 : Fq 0 [(4, 0), (7, 5), (8, 10), (8, 11), (8, 12)] m tg F F7 := Fq_t (ln := ln) (ln1 := ln) hMx Ex_r hM9 (by decide) (Or.inl rfl)
      refine Or.inl ⟨rfl, ?_⟩
      refine jx_ld (pc_q := 29) (l_q := L) (st_q := [rv (me)]) rfl (jl_rvn gL_0) ?_
      refine jx_ld (pc_q := 31) (l_q := L) (st_q := [rv (ch), rv (me)]) rfl (jl_rv gL_4) ?_
      refine cx_gr (pc_q := 34) (c := 7) (q := 5) (v := F (ch) (5 : Int)) rfl rfl (by decide) (by decide) rfl rfl ho4.1 ho4.2 ((show F7 (ch) (5 : Int) = Fx (ch) (5 : Int) from hM9 _ _ ho4.1 (own_z ho4.1) (by rw [ho4.2]; rfl)).trans (show Fx (ch) (5 : Int) = F (ch) (5 : Int) from hMx _ _ ho4.1 (own_z ho4.1) (by rw [ho4.2]; rfl))) ?_
      have y11 : F (ch) (5 : Int) = 0 ∨ (own m (F (ch) (5 : Int)) ∧ tg (F (ch) (5 : Int)) = 8) := by have z := HC_r (c := 7) (q := 5) hC8 ho4.1 ho4.2 (by decide) rfl; rw [show F7 (ch) ((5 : Nat) : Int) = F (ch) (5 : Int) from ((show F7 (ch) (5 : Int) = Fx (ch) (5 : Int) from hM9 _ _ ho4.1 (own_z ho4.1) (by rw [ho4.2]; rfl)).trans (show Fx (ch) (5 : Int) = F (ch) (5 : Int) from hMx _ _ ho4.1 (own_z ho4.1) (by rw [ho4.2]; rfl)))] at z; exact z
      refine jx_ld (pc_q := 35) (l_q := L) (st_q := [.int (i32 (wd)), rv (F (ch) (5 : Int)), rv (me)]) rfl (jl_iloadn gL_2) ?_
      refine cx_vi (c := 3) (a := me) (st := []) (as := [rv (F (ch) (5 : Int)), .int (i32 (wd))]) rfl rfl rfl o_me t_me (by decide) rfl ⟨rfl, rfl, (Nat.le_of_ble_eq_true rfl)⟩ rfl (LKx_all X ((kk - 1) - 1) (dd := d) (R := R) (m := m) (tg := tg) (ln := ln) (F := F7) (me := me) (e := F (ch) (5 : Int)) (wd := wd) (hd := by omega) (hC := hC8) (o_me := o_me) (t_me := t_me) (y_e := y11) (h_wd := by omega) (c_NT := NT_q hC c_NT hM10 rfl) (n_e := (SN_q (SN_w (SN_c hC c_NT sx_ch (own_z ho4.1) (by omega)) (by omega)) hM10 rfl rfl))) (fun o V_q hq => ?_)
      obtain ⟨F12, rfl, rfl, hC13, hM14, -⟩ := hq
      have hM15 : Fq 0 [(4, 0), (7, 5), (8, 10), (8, 11), (8, 12)] m tg F F12 := Fq_t (ln := ln) (ln1 := ln) hM10 Ex_r hM14 (by decide) (Or.inl rfl)
      refine Or.inl ⟨rfl, ?_⟩
      refine jx_ld (pc_q := 39) (l_q := L) (st_q := [rv (me)]) rfl (jl_rvn gL_0) ?_
      refine jx_ld (pc_q := 41) (l_q := L) (st_q := [rv (ch), rv (me)]) rfl (jl_rv gL_4) ?_
      refine cx_gr (pc_q := 44) (c := 7) (q := 6) (v := F (ch) (6 : Int)) rfl rfl (by decide) (by decide) rfl rfl ho4.1 ho4.2 ((show F12 (ch) (6 : Int) = F7 (ch) (6 : Int) from hM14 _ _ ho4.1 (own_z ho4.1) (by rw [ho4.2]; rfl)).trans ((show F7 (ch) (6 : Int) = Fx (ch) (6 : Int) from hM9 _ _ ho4.1 (own_z ho4.1) (by rw [ho4.2]; rfl)).trans (show Fx (ch) (6 : Int) = F (ch) (6 : Int) from hMx _ _ ho4.1 (own_z ho4.1) (by rw [ho4.2]; rfl)))) ?_
      have y16 : F (ch) (6 : Int) = 0 ∨ (own m (F (ch) (6 : Int)) ∧ tg (F (ch) (6 : Int)) = 8) := by have z := HC_r (c := 7) (q := 6) hC13 ho4.1 ho4.2 (by decide) rfl; rw [show F12 (ch) ((6 : Nat) : Int) = F (ch) (6 : Int) from ((show F12 (ch) (6 : Int) = F7 (ch) (6 : Int) from hM14 _ _ ho4.1 (own_z ho4.1) (by rw [ho4.2]; rfl)).trans ((show F7 (ch) (6 : Int) = Fx (ch) (6 : Int) from hM9 _ _ ho4.1 (own_z ho4.1) (by rw [ho4.2]; rfl)).trans (show Fx (ch) (6 : Int) = F (ch) (6 : Int) from hMx _ _ ho4.1 (own_z ho4.1) (by rw [ho4.2]; rfl))))] at z; exact z
      refine jx_ld (pc_q := 45) (l_q := L) (st_q := [.int (i32 (wd)), rv (F (ch) (6 : Int)), rv (me)]) rfl (jl_iloadn gL_2) ?_
      refine cx_vi (c := 3) (a := me) (st := []) (as := [rv (F (ch) (6 : Int)), .int (i32 (wd))]) rfl rfl rfl o_me t_me (by decide) rfl ⟨rfl, rfl, (Nat.le_of_ble_eq_true rfl)⟩ rfl (LKx_all X ((kk - 1) - 1) (dd := d) (R := R) (m := m) (tg := tg) (ln := ln) (F := F12) (me := me) (e := F (ch) (6 : Int)) (wd := wd) (hd := by omega) (hC := hC13) (o_me := o_me) (t_me := t_me) (y_e := y16) (h_wd := by omega) (c_NT := NT_q hC c_NT hM15 rfl) (n_e := (SN_q (SN_w (SN_c hC c_NT sx_ch (own_z ho4.1) (by omega)) (by omega)) hM15 rfl rfl))) (fun o V_q hq => ?_)
      obtain ⟨F17, rfl, rfl, hC18, hM19, -⟩ := hq
      have hM20 : Fq 0 [(4, 0), (7, 5), (8, 10), (8, 11), (8, 12)] m tg F F17 := Fq_t (ln := ln) (ln1 := ln) hM15 Ex_r hM19 (by decide) (Or.inl rfl)
      refine Or.inl ⟨rfl, ?_⟩
      refine jx_ld (pc_q := 49) (l_q := L) (st_q := [rv (me)]) rfl (jl_rvn gL_0) ?_
      refine jx_ld (pc_q := 50) (l_q := L) (st_q := [.int (i32 (dp)), rv (me)]) rfl (jl_iloadn gL_3) ?_
      refine jx_ld (pc_q := 52) (l_q := L) (st_q := [rv (ch), .int (i32 (dp)), rv (me)]) rfl (jl_rv gL_4) ?_
      refine cx_gr (pc_q := 55) (c := 7) (q := 7) (v := F (ch) (7 : Int)) rfl rfl (by decide) (by decide) rfl rfl ho4.1 ho4.2 ((show F17 (ch) (7 : Int) = F12 (ch) (7 : Int) from hM19 _ _ ho4.1 (own_z ho4.1) (by rw [ho4.2]; rfl)).trans ((show F12 (ch) (7 : Int) = F7 (ch) (7 : Int) from hM14 _ _ ho4.1 (own_z ho4.1) (by rw [ho4.2]; rfl)).trans ((show F7 (ch) (7 : Int) = Fx (ch) (7 : Int) from hM9 _ _ ho4.1 (own_z ho4.1) (by rw [ho4.2]; rfl)).trans (show Fx (ch) (7 : Int) = F (ch) (7 : Int) from hMx _ _ ho4.1 (own_z ho4.1) (by rw [ho4.2]; rfl))))) ?_
      have y21 : F (ch) (7 : Int) = 0 ∨ (own m (F (ch) (7 : Int)) ∧ tg (F (ch) (7 : Int)) = 8) := by have z := HC_r (c := 7) (q := 7) hC18 ho4.1 ho4.2 (by decide) rfl; rw [show F17 (ch) ((7 : Nat) : Int) = F (ch) (7 : Int) from ((show F17 (ch) (7 : Int) = F12 (ch) (7 : Int) from hM19 _ _ ho4.1 (own_z ho4.1) (by rw [ho4.2]; rfl)).trans ((show F12 (ch) (7 : Int) = F7 (ch) (7 : Int) from hM14 _ _ ho4.1 (own_z ho4.1) (by rw [ho4.2]; rfl)).trans ((show F7 (ch) (7 : Int) = Fx (ch) (7 : Int) from hM9 _ _ ho4.1 (own_z ho4.1) (by rw [ho4.2]; rfl)).trans (show Fx (ch) (7 : Int) = F (ch) (7 : Int) from hMx _ _ ho4.1 (own_z ho4.1) (by rw [ho4.2]; rfl)))))] at z; exact z
      refine jx_ld (pc_q := 56) (l_q := L) (st_q := [.int (i32 (wd)), rv (F (ch) (7 : Int)), .int (i32 (dp)), rv (me)]) rfl (jl_iloadn gL_2) ?_
      refine cx_vi (c := 3) (a := me) (st := []) (as := [.int (i32 (dp)), rv (F (ch) (7 : Int)), .int (i32 (wd))]) rfl rfl rfl o_me t_me (by decide) rfl ⟨rfl, rfl, (Nat.le_of_ble_eq_true rfl)⟩ rfl (k_LLayout_deeper (dd := d) (R := R) (m := m) (tg := tg) (ln := ln) (F := F17) (kk := kk) (hE := hE) (me := me) (dp := dp) (p := F (ch) (7 : Int)) (wd := wd) (hd := by omega) (hC := hC18) (o_me := o_me) (t_me := t_me) (h_dp := by omega) (y_p := y21) (h_wd := by omega) (p_0 := by omega) (c_NT := NT_q hC c_NT hM20 rfl) (n_p := (SN_q (SN_w (SN_c hC c_NT sx_ch (own_z ho4.1) (by omega)) (by omega)) hM20 rfl rfl))) (fun o V_q hq => ?_)
      obtain ⟨F22, r23, rfl, rfl, hC24, hM25, b26, -⟩ := hq
      have hM27 : Fq 0 [(4, 0), (7, 5), (8, 10), (8, 11), (8, 12)] m tg F F22 := Fq_t (ln := ln) (ln1 := ln) hM20 Ex_r hM25 (by decide) (Or.inl rfl)
      refine Or.inr (Or.inl ⟨_, rfl, ?_⟩)
      refine jx_ld (pc_q := 60) (l_q := jSto1 L 3 (.int (i32 (r23)))) (st_q := []) rfl rfl ?_
      obtain ⟨L28, eL28⟩ : ∃ q : jL, q = jSto1 L 3 (.int (i32 (r23))) := ⟨_, rfl⟩
      rw [← eL28]
      have g29 : jGet L28 0 = some (rv (me)) := eL28 ▸ jg_nr (by decide) gL_0
      have g30 : jGet L28 1 = some (rv (p)) := eL28 ▸ jg_nr (by decide) gL_1
      have g31 : jGet L28 2 = some (.int (i32 (wd))) := eL28 ▸ jg_ne (by decide) gL_2 rfl
      have g32 : jGet L28 4 = some (rv (ch)) := eL28 ▸ jg_nr (by decide) gL_4
      have g33 : jGet L28 3 = some (.int (i32 (r23))) := eL28 ▸ jg_eq
      clear eL28
      refine jx_ld (pc_q := 62) (l_q := L28) (st_q := [rv (ch)]) rfl (jl_rv g32) ?_
      refine cx_gr (pc_q := 65) (c := 7) (q := 8) (v := F (ch) (8 : Int)) rfl rfl (by decide) (by decide) rfl rfl ho4.1 ho4.2 ((show F22 (ch) (8 : Int) = F17 (ch) (8 : Int) from hM25 _ _ ho4.1 (own_z ho4.1) (by rw [ho4.2]; rfl)).trans ((show F17 (ch) (8 : Int) = F12 (ch) (8 : Int) from hM19 _ _ ho4.1 (own_z ho4.1) (by rw [ho4.2]; rfl)).trans ((show F12 (ch) (8 : Int) = F7 (ch) (8 : Int) from hM14 _ _ ho4.1 (own_z ho4.1) (by rw [ho4.2]; rfl)).trans ((show F7 (ch) (8 : Int) = Fx (ch) (8 : Int) from hM9 _ _ ho4.1 (own_z ho4.1) (by rw [ho4.2]; rfl)).trans (show Fx (ch) (8 : Int) = F (ch) (8 : Int) from hMx _ _ ho4.1 (own_z ho4.1) (by rw [ho4.2]; rfl)))))) ?_
      have y34 : F (ch) (8 : Int) = 0 ∨ (own m (F (ch) (8 : Int)) ∧ tg (F (ch) (8 : Int)) = 8) := by have z := HC_r (c := 7) (q := 8) hC24 ho4.1 ho4.2 (by decide) rfl; rw [show F22 (ch) ((8 : Nat) : Int) = F (ch) (8 : Int) from ((show F22 (ch) (8 : Int) = F17 (ch) (8 : Int) from hM25 _ _ ho4.1 (own_z ho4.1) (by rw [ho4.2]; rfl)).trans ((show F17 (ch) (8 : Int) = F12 (ch) (8 : Int) from hM19 _ _ ho4.1 (own_z ho4.1) (by rw [ho4.2]; rfl)).trans ((show F12 (ch) (8 : Int) = F7 (ch) (8 : Int) from hM14 _ _ ho4.1 (own_z ho4.1) (by rw [ho4.2]; rfl)).trans ((show F7 (ch) (8 : Int) = Fx (ch) (8 : Int) from hM9 _ _ ho4.1 (own_z ho4.1) (by rw [ho4.2]; rfl)).trans (show Fx (ch) (8 : Int) = F (ch) (8 : Int) from hMx _ _ ho4.1 (own_z ho4.1) (by rw [ho4.2]; rfl))))))] at z; exact z
      have z35 := mz_n hC c_NT sx_ch (own_z ho4.1)
      refine jx_ld (pc_q := 67) (l_q := jSto1 L28 4 (rv (F (ch) (8 : Int)))) (st_q := []) rfl (js_rv (by decide)) ?_
      obtain ⟨L36, eL36⟩ : ∃ q : jL, q = jSto1 L28 4 (rv (F (ch) (8 : Int))) := ⟨_, rfl⟩
      rw [← eL36]
      have g37 : jGet L36 0 = some (rv (me)) := eL36 ▸ jg_nr (by decide) g29
      have g38 : jGet L36 1 = some (rv (p)) := eL36 ▸ jg_nr (by decide) g30
      have g39 : jGet L36 2 = some (.int (i32 (wd))) := eL36 ▸ jg_ne (by decide) g31 rfl
      have g40 : jGet L36 3 = some (.int (i32 (r23))) := eL36 ▸ jg_ne (by decide) g33 rfl
      have g41 : jGet L36 4 = some (rv (F (ch) (8 : Int))) := eL36 ▸ jg_eq
      clear eL36
      refine jx_go (tg := 13) rfl rfl ?_
      exact ih _ (by omega) L36 F22 (r23) (F (ch) (8 : Int)) rfl g37 g38 g39 g40 g41 hC24 hM27 (by omega) y34 (SN_w (SN_n hC c_NT sx_ch (own_z ho4.1)) (by omega))
set_option maxRecDepth 20000 in
set_option maxHeartbeats 4000000 in
theorem k_LLayout_choices {X : jX} {kk : Nat} (hE : 1 ≤ kk → LPx X (kk - 1)) {dd : Nat} {R : Nat → jC} {m : Nat} {tg ln : Int → Int} {F : Int → Int → Int} {me p wd : Int} (hd : 3 * kk + 11 ≤ dd) (hC : HC 0 m tg ln F) (o_me : own m me) (t_me : tg me = 4) (o_p : own m p) (t_p : tg p = 8) (h_wd : (-2147483648 : Int) ≤ wd ∧ wd ≤ 2147483647) (c_NT : NT m tg F) (n_p : SN m tg F p (kk)) : wk X dd 132 [rv me, rv p, .int (i32 wd)] (cV R m tg ln F) (fun o V_q => ∃ (F_q : Int → Int → Int) (r : Int), V_q = cV R m tg ln F_q ∧ o = .inl (some (.int (i32 r))) ∧ HC 0 m tg ln F_q ∧ Fq 0 [(4, 0), (7, 5), (8, 10), (8, 11), (8, 12)] m tg F F_q ∧ (-2147483648 ≤ r ∧ r ≤ 2147483647) ∧ True) := by
  obtain ⟨d, rfl⟩ : ∃ d, dd = d + 1 := ⟨dd - 1, by omega⟩
  refine wk_of (e := jm132) rfl (by rw [jS_r, jS_r, jS_i, jS_0]; exact Nat.le_of_ble_eq_true rfl) ?_
  rw [la_r, la_r, la_i, la_0]
  show wj X d jm132 (0, [(0, rv (me)), (1, rv (p)), (2, .int (i32 (wd)))], [], cV R m tg ln F) _
  have hM0 : Fq 0 [(4, 0), (7, 5), (8, 10), (8, 11), (8, 12)] m tg F F := Fq_r
  obtain ⟨L0, eL0⟩ : ∃ q : jL, q = [(0, rv (me)), (1, rv (p)), (2, .int (i32 (wd)))] := ⟨_, rfl⟩
  rw [← eL0]
  have g42 : jGet L0 0 = some (rv (me)) := eL0 ▸ (rfl : jGet [(0, rv (me)), (1, rv (p)), (2, .int (i32 (wd)))] 0 = some (rv (me)))
  have g43 : jGet L0 1 = some (rv (p)) := eL0 ▸ (rfl : jGet [(0, rv (me)), (1, rv (p)), (2, .int (i32 (wd)))] 1 = some (rv (p)))
  have g44 : jGet L0 2 = some (.int (i32 (wd))) := eL0 ▸ (rfl : jGet [(0, rv (me)), (1, rv (p)), (2, .int (i32 (wd)))] 2 = some (.int (i32 (wd))))
  clear eL0
  have k45 := SN_p n_p (own_z o_p)
  have hE46 := hE (by omega)
  refine jx_ld (pc_q := 1) (l_q := L0) (st_q := [rv (me)]) rfl (jl_rvn g42) ?_
  refine jx_ld (pc_q := 2) (l_q := L0) (st_q := [.int (i32 (wd)), rv (me)]) rfl (jl_iloadn g44) ?_
  refine cx_vi (c := 3) (a := me) (st := []) (as := [.int (i32 (wd))]) rfl rfl rfl o_me t_me (by decide) rfl ⟨rfl, rfl, (Nat.le_of_ble_eq_true rfl)⟩ rfl (k_LLayout_grow (dd := d) (R := R) (m := m) (tg := tg) (ln := ln) (F := F) (me := me) (wd := wd) (hd := by omega) (hC := hC) (o_me := o_me) (t_me := t_me) (h_wd := by omega)) (fun o V_q hq => ?_)
  obtain ⟨F47, rfl, rfl, hC48, hM49, -⟩ := hq
  have hM50 : Fq 0 [(4, 0), (7, 5), (8, 10), (8, 11), (8, 12)] m tg F F47 := Fq_t (ln := ln) (ln1 := ln) hM0 Ex_r hM49 (by decide) (Or.inl rfl)
  refine Or.inl ⟨rfl, ?_⟩
  refine jx_ar (pc_q := 6) (st_q := [.int (i32 (0))]) rfl rfl rfl rfl ?_
  refine jx_ld (pc_q := 7) (l_q := jSto1 L0 3 (.int (i32 (0)))) (st_q := []) rfl rfl ?_
  obtain ⟨L51, eL51⟩ : ∃ q : jL, q = jSto1 L0 3 (.int (i32 (0))) := ⟨_, rfl⟩
  rw [← eL51]
  have g52 : jGet L51 0 = some (rv (me)) := eL51 ▸ jg_nr (by decide) g42
  have g53 : jGet L51 1 = some (rv (p)) := eL51 ▸ jg_nr (by decide) g43
  have g54 : jGet L51 2 = some (.int (i32 (wd))) := eL51 ▸ jg_ne (by decide) g44 rfl
  have g55 : jGet L51 3 = some (.int (i32 (0))) := eL51 ▸ jg_eq
  clear eL51
  refine jx_ld (pc_q := 8) (l_q := L51) (st_q := [rv (p)]) rfl (jl_rvn g53) ?_
  refine cx_gr (pc_q := 11) (c := 7) (q := 4) (v := F (p) (4 : Int)) rfl rfl (by decide) (by decide) rfl rfl o_p t_p (show F47 (p) (4 : Int) = F (p) (4 : Int) from hM49 _ _ o_p (own_z o_p) (by rw [t_p]; rfl)) ?_
  have y56 : F (p) (4 : Int) = 0 ∨ (own m (F (p) (4 : Int)) ∧ tg (F (p) (4 : Int)) = 8) := by have z := HC_r (c := 7) (q := 4) hC48 o_p t_p (by decide) rfl; rw [show F47 (p) ((4 : Nat) : Int) = F (p) (4 : Int) from (show F47 (p) (4 : Int) = F (p) (4 : Int) from hM49 _ _ o_p (own_z o_p) (by rw [t_p]; rfl))] at z; exact z
  refine jx_ld (pc_q := 13) (l_q := jSto1 L51 4 (rv (F (p) (4 : Int)))) (st_q := []) rfl (js_rv (by decide)) ?_
  obtain ⟨L57, eL57⟩ : ∃ q : jL, q = jSto1 L51 4 (rv (F (p) (4 : Int))) := ⟨_, rfl⟩
  rw [← eL57]
  have g58 : jGet L57 0 = some (rv (me)) := eL57 ▸ jg_nr (by decide) g52
  have g59 : jGet L57 1 = some (rv (p)) := eL57 ▸ jg_nr (by decide) g53
  have g60 : jGet L57 2 = some (.int (i32 (wd))) := eL57 ▸ jg_ne (by decide) g54 rfl
  have g61 : jGet L57 3 = some (.int (i32 (0))) := eL57 ▸ jg_ne (by decide) g55 rfl
  have g62 : jGet L57 4 = some (rv (F (p) (4 : Int))) := eL57 ▸ jg_eq
  clear eL57
  exact k_LLayout_choices_at_13 (X := X) (kk := kk) (hE := hE) (d := d) (R := R) (m := m) (tg := tg) (ln := ln) (F := F) (me := me) (p := p) (wd := wd) (hd := hd) (hC := hC) (o_me := o_me) (t_me := t_me) (o_p := o_p) (t_p := t_p) (h_wd := h_wd) (c_NT := c_NT) (n_p := n_p) _ L57 F47 (0) (F (p) (4 : Int)) rfl g58 g59 g60 g61 g62 hC48 hM50 (by omega) y56 (SN_w (SN_c hC c_NT n_p (own_z o_p) (by omega)) (by omega))
set_option maxRecDepth 20000 in
set_option maxHeartbeats 4000000 in
theorem k_LLayout_process_at_134 {X : jX} {kk : Nat} (hE : 1 ≤ kk → LPx X (kk - 1)) {d : Nat} {R : Nat → jC} {m : Nat} {tg ln : Int → Int} {F : Int → Int → Int} {me p wd : Int} (hd : 3 * kk + 12 ≤ d + 1) (hC : HC 0 m tg ln F) (o_me : own m me) (t_me : tg me = 4) (o_p : own m p) (t_p : tg p = 8) (h_wd : (-2147483648 : Int) ≤ wd ∧ wd ≤ 2147483647) (c_NT : NT m tg F) (n_p : SN m tg F p (kk)) : ∀ (mm : Nat) (L : jL) (Fx : Int → Int → Int) (fr ar : Int), (mz m ar).toNat = mm → jGet L 0 = some (rv (me)) → jGet L 1 = some (rv (p)) → jGet L 2 = some (.int (i32 (wd))) → jGet L 3 = some (.int (i32 fr)) → jGet L 4 = some (rv ar) → HC 0 m tg ln Fx → Fq 0 [(4, 0), (7, 5), (8, 10), (8, 11), (8, 12)] m tg F Fx → ((-2147483648 : Int) ≤ fr ∧ fr ≤ 2147483647) → (ar = 0 ∨ (own m ar ∧ tg ar = 8)) → (SN m tg F ar (kk - 1)) → wj X d jm127 (134, L, [], cV R m tg ln Fx) (fun o V_q => ∃ (F_q : Int → Int → Int) (r : Int), V_q = cV R m tg ln F_q ∧ o = .inl (some (.int (i32 r))) ∧ HC 0 m tg ln F_q ∧ Fq 0 [(4, 0), (7, 5), (8, 10), (8, 11), (8, 12)] m tg F F_q ∧ (-2147483648 ≤ r ∧ r ≤ 2147483647) ∧ True) := by
  intro mm
  induction mm using Nat.strongRecOn with
  | ind mm ih =>
    intro L Fx fr ar hmm gL_0 gL_1 gL_2 gL_3 gL_4 hCx hMx rx_fr yx_ar sx_ar
    have k1 := SN_p n_p (own_z o_p)
    have hE2 := hE (by omega)
    refine jx_ld (pc_q := 136) (l_q := L) (st_q := [rv (ar)]) rfl (jl_rv gL_4) ?_
    refine cx_nul (pc_q := 139) (tg_q := 156) rfl rfl rfl (fun h3 => ?_) (fun h3 => ?_)
    · have _q := h3
      refine jx_ld (pc_q := 157) (l_q := L) (st_q := [rv (p)]) rfl (jl_rvn gL_1) ?_
      refine cx_gr (pc_q := 160) (c := 7) (q := 3) (v := F (p) (3 : Int)) rfl rfl (by decide) (by decide) rfl rfl o_p t_p (show Fx (p) (3 : Int) = F (p) (3 : Int) from hMx _ _ o_p (own_z o_p) (by rw [t_p]; rfl)) ?_
      have y4 : F (p) (3 : Int) = 0 ∨ (own m (F (p) (3 : Int)) ∧ tg (F (p) (3 : Int)) = 7) := by have z := HC_r (c := 7) (q := 3) hCx o_p t_p (by decide) rfl; rw [show Fx (p) ((3 : Nat) : Int) = F (p) (3 : Int) from (show Fx (p) (3 : Int) = F (p) (3 : Int) from hMx _ _ o_p (own_z o_p) (by rw [t_p]; rfl))] at z; exact z
      refine cx_non (pc_q := 163) (tg_q := 167) rfl rfl rfl (fun h5 => ?_) (fun h5 => ?_)
      · have _q := h5
        have ho6 : own m (F (p) (3 : Int)) ∧ tg (F (p) (3 : Int)) = 7 := y4.resolve_left h5
        refine jx_ar (pc_q := 169) (st_q := [.int (i32 (7))]) rfl rfl rfl rfl ?_
        refine jx_ld (pc_q := 170) (l_q := L) (st_q := [rv (p), .int (i32 (7))]) rfl (jl_rvn gL_1) ?_
        refine cx_gr (pc_q := 173) (c := 7) (q := 3) (v := F (p) (3 : Int)) rfl rfl (by decide) (by decide) rfl rfl o_p t_p (show Fx (p) (3 : Int) = F (p) (3 : Int) from hMx _ _ o_p (own_z o_p) (by rw [t_p]; rfl)) ?_
        refine cx_gi (pc_q := 176) (c := 6) (q := 3) (v := F (F (p) (3 : Int)) (3 : Int)) rfl rfl (by decide) (by decide) (Or.inl rfl) rfl ho6.1 ho6.2 (show Fx (F (p) (3 : Int)) (3 : Int) = F (F (p) (3 : Int)) (3 : Int) from hMx _ _ ho6.1 (own_z ho6.1) (by rw [ho6.2]; rfl)) ?_
        have b7 : (-2147483648 : Int) ≤ F (F (p) (3 : Int)) (3 : Int) ∧ F (F (p) (3 : Int)) (3 : Int) ≤ 2147483647 := by have z := HC_i (c := 6) (q := 3) hCx ho6.1 ho6.2 (by decide) rfl; rw [show Fx (F (p) (3 : Int)) ((3 : Nat) : Int) = F (F (p) (3 : Int)) (3 : Int) from (show Fx (F (p) (3 : Int)) (3 : Int) = F (F (p) (3 : Int)) (3 : Int) from hMx _ _ ho6.1 (own_z ho6.1) (by rw [ho6.2]; rfl))] at z; exact z
        refine jx_add (pc_q := 177) rfl rfl ?_
        obtain ⟨z8, ez8⟩ : ∃ q, q = (i32 ((7 + F (F (p) (3 : Int)) (3 : Int)))).toInt := ⟨_, rfl⟩
        have bz8 : (-2147483648 : Int) ≤ z8 ∧ z8 ≤ 2147483647 := ez8 ▸ i32_rg _
        rw [show i32 ((7 + F (F (p) (3 : Int)) (3 : Int))) = i32 z8 by rw [ez8, i32_of]]
        clear ez8
        refine jx_ld (pc_q := 178) (l_q := L) (st_q := [rv (p), .int (i32 (z8))]) rfl (jl_rvn gL_1) ?_
        refine cx_gr (pc_q := 181) (c := 7) (q := 3) (v := F (p) (3 : Int)) rfl rfl (by decide) (by decide) rfl rfl o_p t_p (show Fx (p) (3 : Int) = F (p) (3 : Int) from hMx _ _ o_p (own_z o_p) (by rw [t_p]; rfl)) ?_
        refine cx_gi (pc_q := 184) (c := 6) (q := 4) (v := F (F (p) (3 : Int)) (4 : Int)) rfl rfl (by decide) (by decide) (Or.inl rfl) rfl ho6.1 ho6.2 (show Fx (F (p) (3 : Int)) (4 : Int) = F (F (p) (3 : Int)) (4 : Int) from hMx _ _ ho6.1 (own_z ho6.1) (by rw [ho6.2]; rfl)) ?_
        have b9 : (-2147483648 : Int) ≤ F (F (p) (3 : Int)) (4 : Int) ∧ F (F (p) (3 : Int)) (4 : Int) ≤ 2147483647 := by have z := HC_i (c := 6) (q := 4) hCx ho6.1 ho6.2 (by decide) rfl; rw [show Fx (F (p) (3 : Int)) ((4 : Nat) : Int) = F (F (p) (3 : Int)) (4 : Int) from (show Fx (F (p) (3 : Int)) (4 : Int) = F (F (p) (3 : Int)) (4 : Int) from hMx _ _ ho6.1 (own_z ho6.1) (by rw [ho6.2]; rfl))] at z; exact z
        refine jx_add (pc_q := 185) rfl rfl ?_
        obtain ⟨z10, ez10⟩ : ∃ q, q = (i32 ((z8 + F (F (p) (3 : Int)) (4 : Int)))).toInt := ⟨_, rfl⟩
        have bz10 : (-2147483648 : Int) ≤ z10 ∧ z10 ≤ 2147483647 := ez10 ▸ i32_rg _
        rw [show i32 ((z8 + F (F (p) (3 : Int)) (4 : Int))) = i32 z10 by rw [ez10, i32_of]]
        clear ez10
        refine jx_hp (pc_q := 187) (st_q := [.int (i32 (1000000)), .int (i32 (z10))]) rfl rfl rfl rfl rfl rfl ?_
        refine cx_st (st := []) (as := [.int (i32 (z10)), .int (i32 (1000000))]) rfl rfl rfl ⟨rfl, (Nat.le_of_ble_eq_true rfl)⟩ rfl (k_java_lang_Math_min (dd := d) (R := R) (u := 0) (m := m) (tg := tg) (ln := ln) (F := Fx) (a := z10) (b := 1000000) (hd := by omega) (hC := hCx) (h_a := by omega) (h_b := by omega)) (fun o V_q hq => ?_)
        obtain ⟨r11, rfl, rfl, b12, p13, p14, p15, -⟩ := hq
        refine Or.inr (Or.inl ⟨_, rfl, ?_⟩)
        refine jx_rt (v := some (.int (i32 (r11)))) rfl rfl rfl rfl rfl rfl ?_
        exact ⟨Fx, (r11), rfl, rfl, hCx, hMx, by omega, trivial⟩
      · have _q := h5
        refine jx_ar (pc_q := 164) (st_q := [.int (i32 (0))]) rfl rfl rfl rfl ?_
        refine jx_go (tg := 190) rfl rfl ?_
        refine jx_rt (v := some (.int (i32 (0)))) rfl rfl rfl rfl rfl rfl ?_
        exact ⟨Fx, (0), rfl, rfl, hCx, hMx, by omega, trivial⟩
    · have _q := h3
      have ho16 : own m (ar) ∧ tg (ar) = 8 := yx_ar.resolve_left h3
      have k17 := SN_p sx_ar h3
      refine jx_ld (pc_q := 140) (l_q := L) (st_q := [rv (me)]) rfl (jl_rvn gL_0) ?_
      refine jx_ld (pc_q := 142) (l_q := L) (st_q := [rv (ar), rv (me)]) rfl (jl_rv gL_4) ?_
      refine jx_ld (pc_q := 143) (l_q := L) (st_q := [.int (i32 (fr)), rv (ar), rv (me)]) rfl (jl_iloadn gL_3) ?_
      refine cx_vi (c := 3) (a := me) (st := []) (as := [rv (ar), .int (i32 (fr))]) rfl rfl rfl o_me t_me (by decide) rfl ⟨rfl, rfl, (Nat.le_of_ble_eq_true rfl)⟩ rfl (LKx_all X (kk - 1) (dd := d) (R := R) (m := m) (tg := tg) (ln := ln) (F := Fx) (me := me) (e := ar) (wd := fr) (hd := by omega) (hC := hCx) (o_me := o_me) (t_me := t_me) (y_e := (Or.inr ⟨ho16.1, ho16.2⟩)) (h_wd := by omega) (c_NT := NT_q hC c_NT hMx rfl) (n_e := (SN_q (SN_w sx_ar (by omega)) hMx rfl rfl))) (fun o V_q hq => ?_)
      obtain ⟨F18, rfl, rfl, hC19, hM20, -⟩ := hq
      have hM21 : Fq 0 [(4, 0), (7, 5), (8, 10), (8, 11), (8, 12)] m tg F F18 := Fq_t (ln := ln) (ln1 := ln) hMx Ex_r hM20 (by decide) (Or.inl rfl)
      refine Or.inl ⟨rfl, ?_⟩
      refine jx_ld (pc_q := 148) (l_q := L) (st_q := [rv (ar)]) rfl (jl_rv gL_4) ?_
      refine cx_gr (pc_q := 151) (c := 7) (q := 8) (v := F (ar) (8 : Int)) rfl rfl (by decide) (by decide) rfl rfl ho16.1 ho16.2 ((show F18 (ar) (8 : Int) = Fx (ar) (8 : Int) from hM20 _ _ ho16.1 (own_z ho16.1) (by rw [ho16.2]; rfl)).trans (show Fx (ar) (8 : Int) = F (ar) (8 : Int) from hMx _ _ ho16.1 (own_z ho16.1) (by rw [ho16.2]; rfl))) ?_
      have y22 : F (ar) (8 : Int) = 0 ∨ (own m (F (ar) (8 : Int)) ∧ tg (F (ar) (8 : Int)) = 8) := by have z := HC_r (c := 7) (q := 8) hC19 ho16.1 ho16.2 (by decide) rfl; rw [show F18 (ar) ((8 : Nat) : Int) = F (ar) (8 : Int) from ((show F18 (ar) (8 : Int) = Fx (ar) (8 : Int) from hM20 _ _ ho16.1 (own_z ho16.1) (by rw [ho16.2]; rfl)).trans (show Fx (ar) (8 : Int) = F (ar) (8 : Int) from hMx _ _ ho16.1 (own_z ho16.1) (by rw [ho16.2]; rfl)))] at z; exact z
      have z23 := mz_n hC c_NT sx_ar (own_z ho16.1)
      refine jx_ld (pc_q := 153) (l_q := jSto1 L 4 (rv (F (ar) (8 : Int)))) (st_q := []) rfl (js_rv (by decide)) ?_
      obtain ⟨L24, eL24⟩ : ∃ q : jL, q = jSto1 L 4 (rv (F (ar) (8 : Int))) := ⟨_, rfl⟩
      rw [← eL24]
      have g25 : jGet L24 0 = some (rv (me)) := eL24 ▸ jg_nr (by decide) gL_0
      have g26 : jGet L24 1 = some (rv (p)) := eL24 ▸ jg_nr (by decide) gL_1
      have g27 : jGet L24 2 = some (.int (i32 (wd))) := eL24 ▸ jg_ne (by decide) gL_2 rfl
      have g28 : jGet L24 3 = some (.int (i32 (fr))) := eL24 ▸ jg_ne (by decide) gL_3 rfl
      have g29 : jGet L24 4 = some (rv (F (ar) (8 : Int))) := eL24 ▸ jg_eq
      clear eL24
      refine jx_go (tg := 134) rfl rfl ?_
      exact ih _ (by omega) L24 F18 (fr) (F (ar) (8 : Int)) rfl g25 g26 g27 g28 g29 hC19 hM21 (by omega) y22 (SN_w (SN_n hC c_NT sx_ar (own_z ho16.1)) (by omega))
set_option maxRecDepth 20000 in
set_option maxHeartbeats 4000000 in
theorem k_LLayout_process_at_8 {X : jX} {kk : Nat} (hE : 1 ≤ kk → LPx X (kk - 1)) {d : Nat} {R : Nat → jC} {m : Nat} {tg ln : Int → Int} {F : Int → Int → Int} {me p wd : Int} (hd : 3 * kk + 12 ≤ d + 1) (hC : HC 0 m tg ln F) (o_me : own m me) (t_me : tg me = 4) (o_p : own m p) (t_p : tg p = 8) (h_wd : (-2147483648 : Int) ≤ wd ∧ wd ≤ 2147483647) (c_NT : NT m tg F) (n_p : SN m tg F p (kk)) : ∀ (mm : Nat) (L : jL) (Fx : Int → Int → Int) (fr nm : Int), (mz m nm).toNat = mm → jGet L 0 = some (rv (me)) → jGet L 1 = some (rv (p)) → jGet L 2 = some (.int (i32 (wd))) → jGet L 3 = some (.int (i32 fr)) → jGet L 4 = some (rv nm) → HC 0 m tg ln Fx → Fq 0 [(4, 0), (7, 5), (8, 10), (8, 11), (8, 12)] m tg F Fx → ((-2147483648 : Int) ≤ fr ∧ fr ≤ 2147483647) → (nm = 0 ∨ (own m nm ∧ tg nm = 7)) → wj X d jm127 (8, L, [], cV R m tg ln Fx) (fun o V_q => ∃ (F_q : Int → Int → Int) (r : Int), V_q = cV R m tg ln F_q ∧ o = .inl (some (.int (i32 r))) ∧ HC 0 m tg ln F_q ∧ Fq 0 [(4, 0), (7, 5), (8, 10), (8, 11), (8, 12)] m tg F F_q ∧ (-2147483648 ≤ r ∧ r ≤ 2147483647) ∧ True) := by
  intro mm
  induction mm using Nat.strongRecOn with
  | ind mm ih =>
    intro L Fx fr nm hmm gL_0 gL_1 gL_2 gL_3 gL_4 hCx hMx rx_fr yx_nm
    have k30 := SN_p n_p (own_z o_p)
    have hE31 := hE (by omega)
    refine jx_ld (pc_q := 10) (l_q := L) (st_q := [rv (nm)]) rfl (jl_rv gL_4) ?_
    refine cx_nul (pc_q := 13) (tg_q := 37) rfl rfl rfl (fun h32 => ?_) (fun h32 => ?_)
    · have _q := h32
      refine jx_ld (pc_q := 38) (l_q := L) (st_q := [rv (me)]) rfl (jl_rvn gL_0) ?_
      refine jx_ld (pc_q := 39) (l_q := L) (st_q := [.int (i32 (fr)), rv (me)]) rfl (jl_iloadn gL_3) ?_
      refine cx_vi (c := 3) (a := me) (st := []) (as := [.int (i32 (fr))]) rfl rfl rfl o_me t_me (by decide) rfl ⟨rfl, rfl, (Nat.le_of_ble_eq_true rfl)⟩ rfl (k_LLayout_grow (dd := d) (R := R) (m := m) (tg := tg) (ln := ln) (F := Fx) (me := me) (wd := fr) (hd := by omega) (hC := hCx) (o_me := o_me) (t_me := t_me) (h_wd := by omega)) (fun o V_q hq => ?_)
      obtain ⟨F33, rfl, rfl, hC34, hM35, -⟩ := hq
      have hM36 : Fq 0 [(4, 0), (7, 5), (8, 10), (8, 11), (8, 12)] m tg F F33 := Fq_t (ln := ln) (ln1 := ln) hMx Ex_r hM35 (by decide) (Or.inl rfl)
      refine Or.inl ⟨rfl, ?_⟩
      refine jx_ld (pc_q := 43) (l_q := L) (st_q := [rv (p)]) rfl (jl_rvn gL_1) ?_
      refine cx_gi (pc_q := 46) (c := 7) (q := 0) (v := F (p) (0 : Int)) rfl rfl (by decide) (by decide) (Or.inl rfl) rfl o_p t_p ((show F33 (p) (0 : Int) = Fx (p) (0 : Int) from hM35 _ _ o_p (own_z o_p) (by rw [t_p]; rfl)).trans (show Fx (p) (0 : Int) = F (p) (0 : Int) from hMx _ _ o_p (own_z o_p) (by rw [t_p]; rfl))) ?_
      have b37 : (-2147483648 : Int) ≤ F (p) (0 : Int) ∧ F (p) (0 : Int) ≤ 2147483647 := by have z := HC_i (c := 7) (q := 0) hC34 o_p t_p (by decide) rfl; rw [show F33 (p) ((0 : Nat) : Int) = F (p) (0 : Int) from ((show F33 (p) (0 : Int) = Fx (p) (0 : Int) from hM35 _ _ o_p (own_z o_p) (by rw [t_p]; rfl)).trans (show Fx (p) (0 : Int) = F (p) (0 : Int) from hMx _ _ o_p (own_z o_p) (by rw [t_p]; rfl)))] at z; exact z
      by_cases h38 : F (p) (0 : Int) = 2
      · refine jx_swe (tg := 108) h38 rfl rfl rfl rfl ?_
        refine jx_ld (pc_q := 109) (l_q := L) (st_q := [rv (me)]) rfl (jl_rvn gL_0) ?_
        refine jx_ld (pc_q := 110) (l_q := L) (st_q := [rv (p), rv (me)]) rfl (jl_rvn gL_1) ?_
        refine cx_gr (pc_q := 113) (c := 7) (q := 4) (v := F (p) (4 : Int)) rfl rfl (by decide) (by decide) rfl rfl o_p t_p ((show F33 (p) (4 : Int) = Fx (p) (4 : Int) from hM35 _ _ o_p (own_z o_p) (by rw [t_p]; rfl)).trans (show Fx (p) (4 : Int) = F (p) (4 : Int) from hMx _ _ o_p (own_z o_p) (by rw [t_p]; rfl))) ?_
        have y39 : F (p) (4 : Int) = 0 ∨ (own m (F (p) (4 : Int)) ∧ tg (F (p) (4 : Int)) = 8) := by have z := HC_r (c := 7) (q := 4) hC34 o_p t_p (by decide) rfl; rw [show F33 (p) ((4 : Nat) : Int) = F (p) (4 : Int) from ((show F33 (p) (4 : Int) = Fx (p) (4 : Int) from hM35 _ _ o_p (own_z o_p) (by rw [t_p]; rfl)).trans (show Fx (p) (4 : Int) = F (p) (4 : Int) from hMx _ _ o_p (own_z o_p) (by rw [t_p]; rfl)))] at z; exact z
        refine jx_ld (pc_q := 114) (l_q := L) (st_q := [.int (i32 (fr)), rv (F (p) (4 : Int)), rv (me)]) rfl (jl_iloadn gL_3) ?_
        refine cx_vi (c := 3) (a := me) (st := []) (as := [rv (F (p) (4 : Int)), .int (i32 (fr))]) rfl rfl rfl o_me t_me (by decide) rfl ⟨rfl, rfl, (Nat.le_of_ble_eq_true rfl)⟩ rfl (LKx_all X ((kk) - 1) (dd := d) (R := R) (m := m) (tg := tg) (ln := ln) (F := F33) (me := me) (e := F (p) (4 : Int)) (wd := fr) (hd := by omega) (hC := hC34) (o_me := o_me) (t_me := t_me) (y_e := y39) (h_wd := by omega) (c_NT := NT_q hC c_NT hM36 rfl) (n_e := (SN_q (SN_w (SN_c hC c_NT n_p (own_z o_p) (by omega)) (by omega)) hM36 rfl rfl))) (fun o V_q hq => ?_)
        obtain ⟨F40, rfl, rfl, hC41, hM42, -⟩ := hq
        have hM43 : Fq 0 [(4, 0), (7, 5), (8, 10), (8, 11), (8, 12)] m tg F F40 := Fq_t (ln := ln) (ln1 := ln) hM36 Ex_r hM42 (by decide) (Or.inl rfl)
        refine Or.inl ⟨rfl, ?_⟩
        refine jx_ld (pc_q := 118) (l_q := L) (st_q := [rv (me)]) rfl (jl_rvn gL_0) ?_
        refine jx_ld (pc_q := 119) (l_q := L) (st_q := [rv (p), rv (me)]) rfl (jl_rvn gL_1) ?_
        refine cx_gr (pc_q := 122) (c := 7) (q := 5) (v := F (p) (5 : Int)) rfl rfl (by decide) (by decide) rfl rfl o_p t_p ((show F40 (p) (5 : Int) = F33 (p) (5 : Int) from hM42 _ _ o_p (own_z o_p) (by rw [t_p]; rfl)).trans ((show F33 (p) (5 : Int) = Fx (p) (5 : Int) from hM35 _ _ o_p (own_z o_p) (by rw [t_p]; rfl)).trans (show Fx (p) (5 : Int) = F (p) (5 : Int) from hMx _ _ o_p (own_z o_p) (by rw [t_p]; rfl)))) ?_
        have y44 : F (p) (5 : Int) = 0 ∨ (own m (F (p) (5 : Int)) ∧ tg (F (p) (5 : Int)) = 8) := by have z := HC_r (c := 7) (q := 5) hC41 o_p t_p (by decide) rfl; rw [show F40 (p) ((5 : Nat) : Int) = F (p) (5 : Int) from ((show F40 (p) (5 : Int) = F33 (p) (5 : Int) from hM42 _ _ o_p (own_z o_p) (by rw [t_p]; rfl)).trans ((show F33 (p) (5 : Int) = Fx (p) (5 : Int) from hM35 _ _ o_p (own_z o_p) (by rw [t_p]; rfl)).trans (show Fx (p) (5 : Int) = F (p) (5 : Int) from hMx _ _ o_p (own_z o_p) (by rw [t_p]; rfl))))] at z; exact z
        refine jx_ld (pc_q := 123) (l_q := L) (st_q := [.int (i32 (fr)), rv (F (p) (5 : Int)), rv (me)]) rfl (jl_iloadn gL_3) ?_
        refine cx_vi (c := 3) (a := me) (st := []) (as := [rv (F (p) (5 : Int)), .int (i32 (fr))]) rfl rfl rfl o_me t_me (by decide) rfl ⟨rfl, rfl, (Nat.le_of_ble_eq_true rfl)⟩ rfl (LKx_all X ((kk) - 1) (dd := d) (R := R) (m := m) (tg := tg) (ln := ln) (F := F40) (me := me) (e := F (p) (5 : Int)) (wd := fr) (hd := by omega) (hC := hC41) (o_me := o_me) (t_me := t_me) (y_e := y44) (h_wd := by omega) (c_NT := NT_q hC c_NT hM43 rfl) (n_e := (SN_q (SN_w (SN_c hC c_NT n_p (own_z o_p) (by omega)) (by omega)) hM43 rfl rfl))) (fun o V_q hq => ?_)
        obtain ⟨F45, rfl, rfl, hC46, hM47, -⟩ := hq
        have hM48 : Fq 0 [(4, 0), (7, 5), (8, 10), (8, 11), (8, 12)] m tg F F45 := Fq_t (ln := ln) (ln1 := ln) hM43 Ex_r hM47 (by decide) (Or.inl rfl)
        refine Or.inl ⟨rfl, ?_⟩
        refine jx_ar (pc_q := 127) (st_q := [.int (i32 (0))]) rfl rfl rfl rfl ?_
        refine jx_rt (v := some (.int (i32 (0)))) rfl rfl rfl rfl rfl rfl ?_
        exact ⟨F45, (0), rfl, rfl, hC46, hM48, by omega, trivial⟩
      by_cases h49 : F (p) (0 : Int) = 3
      · refine jx_swe (tg := 108) h49 rfl rfl rfl rfl ?_
        refine jx_ld (pc_q := 109) (l_q := L) (st_q := [rv (me)]) rfl (jl_rvn gL_0) ?_
        refine jx_ld (pc_q := 110) (l_q := L) (st_q := [rv (p), rv (me)]) rfl (jl_rvn gL_1) ?_
        refine cx_gr (pc_q := 113) (c := 7) (q := 4) (v := F (p) (4 : Int)) rfl rfl (by decide) (by decide) rfl rfl o_p t_p ((show F33 (p) (4 : Int) = Fx (p) (4 : Int) from hM35 _ _ o_p (own_z o_p) (by rw [t_p]; rfl)).trans (show Fx (p) (4 : Int) = F (p) (4 : Int) from hMx _ _ o_p (own_z o_p) (by rw [t_p]; rfl))) ?_
        have y50 : F (p) (4 : Int) = 0 ∨ (own m (F (p) (4 : Int)) ∧ tg (F (p) (4 : Int)) = 8) := by have z := HC_r (c := 7) (q := 4) hC34 o_p t_p (by decide) rfl; rw [show F33 (p) ((4 : Nat) : Int) = F (p) (4 : Int) from ((show F33 (p) (4 : Int) = Fx (p) (4 : Int) from hM35 _ _ o_p (own_z o_p) (by rw [t_p]; rfl)).trans (show Fx (p) (4 : Int) = F (p) (4 : Int) from hMx _ _ o_p (own_z o_p) (by rw [t_p]; rfl)))] at z; exact z
        refine jx_ld (pc_q := 114) (l_q := L) (st_q := [.int (i32 (fr)), rv (F (p) (4 : Int)), rv (me)]) rfl (jl_iloadn gL_3) ?_
        refine cx_vi (c := 3) (a := me) (st := []) (as := [rv (F (p) (4 : Int)), .int (i32 (fr))]) rfl rfl rfl o_me t_me (by decide) rfl ⟨rfl, rfl, (Nat.le_of_ble_eq_true rfl)⟩ rfl (LKx_all X ((kk) - 1) (dd := d) (R := R) (m := m) (tg := tg) (ln := ln) (F := F33) (me := me) (e := F (p) (4 : Int)) (wd := fr) (hd := by omega) (hC := hC34) (o_me := o_me) (t_me := t_me) (y_e := y50) (h_wd := by omega) (c_NT := NT_q hC c_NT hM36 rfl) (n_e := (SN_q (SN_w (SN_c hC c_NT n_p (own_z o_p) (by omega)) (by omega)) hM36 rfl rfl))) (fun o V_q hq => ?_)
        obtain ⟨F51, rfl, rfl, hC52, hM53, -⟩ := hq
        have hM54 : Fq 0 [(4, 0), (7, 5), (8, 10), (8, 11), (8, 12)] m tg F F51 := Fq_t (ln := ln) (ln1 := ln) hM36 Ex_r hM53 (by decide) (Or.inl rfl)
        refine Or.inl ⟨rfl, ?_⟩
        refine jx_ld (pc_q := 118) (l_q := L) (st_q := [rv (me)]) rfl (jl_rvn gL_0) ?_
        refine jx_ld (pc_q := 119) (l_q := L) (st_q := [rv (p), rv (me)]) rfl (jl_rvn gL_1) ?_
        refine cx_gr (pc_q := 122) (c := 7) (q := 5) (v := F (p) (5 : Int)) rfl rfl (by decide) (by decide) rfl rfl o_p t_p ((show F51 (p) (5 : Int) = F33 (p) (5 : Int) from hM53 _ _ o_p (own_z o_p) (by rw [t_p]; rfl)).trans ((show F33 (p) (5 : Int) = Fx (p) (5 : Int) from hM35 _ _ o_p (own_z o_p) (by rw [t_p]; rfl)).trans (show Fx (p) (5 : Int) = F (p) (5 : Int) from hMx _ _ o_p (own_z o_p) (by rw [t_p]; rfl)))) ?_
        have y55 : F (p) (5 : Int) = 0 ∨ (own m (F (p) (5 : Int)) ∧ tg (F (p) (5 : Int)) = 8) := by have z := HC_r (c := 7) (q := 5) hC52 o_p t_p (by decide) rfl; rw [show F51 (p) ((5 : Nat) : Int) = F (p) (5 : Int) from ((show F51 (p) (5 : Int) = F33 (p) (5 : Int) from hM53 _ _ o_p (own_z o_p) (by rw [t_p]; rfl)).trans ((show F33 (p) (5 : Int) = Fx (p) (5 : Int) from hM35 _ _ o_p (own_z o_p) (by rw [t_p]; rfl)).trans (show Fx (p) (5 : Int) = F (p) (5 : Int) from hMx _ _ o_p (own_z o_p) (by rw [t_p]; rfl))))] at z; exact z
        refine jx_ld (pc_q := 123) (l_q := L) (st_q := [.int (i32 (fr)), rv (F (p) (5 : Int)), rv (me)]) rfl (jl_iloadn gL_3) ?_
        refine cx_vi (c := 3) (a := me) (st := []) (as := [rv (F (p) (5 : Int)), .int (i32 (fr))]) rfl rfl rfl o_me t_me (by decide) rfl ⟨rfl, rfl, (Nat.le_of_ble_eq_true rfl)⟩ rfl (LKx_all X ((kk) - 1) (dd := d) (R := R) (m := m) (tg := tg) (ln := ln) (F := F51) (me := me) (e := F (p) (5 : Int)) (wd := fr) (hd := by omega) (hC := hC52) (o_me := o_me) (t_me := t_me) (y_e := y55) (h_wd := by omega) (c_NT := NT_q hC c_NT hM54 rfl) (n_e := (SN_q (SN_w (SN_c hC c_NT n_p (own_z o_p) (by omega)) (by omega)) hM54 rfl rfl))) (fun o V_q hq => ?_)
        obtain ⟨F56, rfl, rfl, hC57, hM58, -⟩ := hq
        have hM59 : Fq 0 [(4, 0), (7, 5), (8, 10), (8, 11), (8, 12)] m tg F F56 := Fq_t (ln := ln) (ln1 := ln) hM54 Ex_r hM58 (by decide) (Or.inl rfl)
        refine Or.inl ⟨rfl, ?_⟩
        refine jx_ar (pc_q := 127) (st_q := [.int (i32 (0))]) rfl rfl rfl rfl ?_
        refine jx_rt (v := some (.int (i32 (0)))) rfl rfl rfl rfl rfl rfl ?_
        exact ⟨F56, (0), rfl, rfl, hC57, hM59, by omega, trivial⟩
      by_cases h60 : F (p) (0 : Int) = 4
      · refine jx_swe (tg := 108) h60 rfl rfl rfl rfl ?_
        refine jx_ld (pc_q := 109) (l_q := L) (st_q := [rv (me)]) rfl (jl_rvn gL_0) ?_
        refine jx_ld (pc_q := 110) (l_q := L) (st_q := [rv (p), rv (me)]) rfl (jl_rvn gL_1) ?_
        refine cx_gr (pc_q := 113) (c := 7) (q := 4) (v := F (p) (4 : Int)) rfl rfl (by decide) (by decide) rfl rfl o_p t_p ((show F33 (p) (4 : Int) = Fx (p) (4 : Int) from hM35 _ _ o_p (own_z o_p) (by rw [t_p]; rfl)).trans (show Fx (p) (4 : Int) = F (p) (4 : Int) from hMx _ _ o_p (own_z o_p) (by rw [t_p]; rfl))) ?_
        have y61 : F (p) (4 : Int) = 0 ∨ (own m (F (p) (4 : Int)) ∧ tg (F (p) (4 : Int)) = 8) := by have z := HC_r (c := 7) (q := 4) hC34 o_p t_p (by decide) rfl; rw [show F33 (p) ((4 : Nat) : Int) = F (p) (4 : Int) from ((show F33 (p) (4 : Int) = Fx (p) (4 : Int) from hM35 _ _ o_p (own_z o_p) (by rw [t_p]; rfl)).trans (show Fx (p) (4 : Int) = F (p) (4 : Int) from hMx _ _ o_p (own_z o_p) (by rw [t_p]; rfl)))] at z; exact z
        refine jx_ld (pc_q := 114) (l_q := L) (st_q := [.int (i32 (fr)), rv (F (p) (4 : Int)), rv (me)]) rfl (jl_iloadn gL_3) ?_
        refine cx_vi (c := 3) (a := me) (st := []) (as := [rv (F (p) (4 : Int)), .int (i32 (fr))]) rfl rfl rfl o_me t_me (by decide) rfl ⟨rfl, rfl, (Nat.le_of_ble_eq_true rfl)⟩ rfl (LKx_all X ((kk) - 1) (dd := d) (R := R) (m := m) (tg := tg) (ln := ln) (F := F33) (me := me) (e := F (p) (4 : Int)) (wd := fr) (hd := by omega) (hC := hC34) (o_me := o_me) (t_me := t_me) (y_e := y61) (h_wd := by omega) (c_NT := NT_q hC c_NT hM36 rfl) (n_e := (SN_q (SN_w (SN_c hC c_NT n_p (own_z o_p) (by omega)) (by omega)) hM36 rfl rfl))) (fun o V_q hq => ?_)
        obtain ⟨F62, rfl, rfl, hC63, hM64, -⟩ := hq
        have hM65 : Fq 0 [(4, 0), (7, 5), (8, 10), (8, 11), (8, 12)] m tg F F62 := Fq_t (ln := ln) (ln1 := ln) hM36 Ex_r hM64 (by decide) (Or.inl rfl)
        refine Or.inl ⟨rfl, ?_⟩
        refine jx_ld (pc_q := 118) (l_q := L) (st_q := [rv (me)]) rfl (jl_rvn gL_0) ?_
        refine jx_ld (pc_q := 119) (l_q := L) (st_q := [rv (p), rv (me)]) rfl (jl_rvn gL_1) ?_
        refine cx_gr (pc_q := 122) (c := 7) (q := 5) (v := F (p) (5 : Int)) rfl rfl (by decide) (by decide) rfl rfl o_p t_p ((show F62 (p) (5 : Int) = F33 (p) (5 : Int) from hM64 _ _ o_p (own_z o_p) (by rw [t_p]; rfl)).trans ((show F33 (p) (5 : Int) = Fx (p) (5 : Int) from hM35 _ _ o_p (own_z o_p) (by rw [t_p]; rfl)).trans (show Fx (p) (5 : Int) = F (p) (5 : Int) from hMx _ _ o_p (own_z o_p) (by rw [t_p]; rfl)))) ?_
        have y66 : F (p) (5 : Int) = 0 ∨ (own m (F (p) (5 : Int)) ∧ tg (F (p) (5 : Int)) = 8) := by have z := HC_r (c := 7) (q := 5) hC63 o_p t_p (by decide) rfl; rw [show F62 (p) ((5 : Nat) : Int) = F (p) (5 : Int) from ((show F62 (p) (5 : Int) = F33 (p) (5 : Int) from hM64 _ _ o_p (own_z o_p) (by rw [t_p]; rfl)).trans ((show F33 (p) (5 : Int) = Fx (p) (5 : Int) from hM35 _ _ o_p (own_z o_p) (by rw [t_p]; rfl)).trans (show Fx (p) (5 : Int) = F (p) (5 : Int) from hMx _ _ o_p (own_z o_p) (by rw [t_p]; rfl))))] at z; exact z
        refine jx_ld (pc_q := 123) (l_q := L) (st_q := [.int (i32 (fr)), rv (F (p) (5 : Int)), rv (me)]) rfl (jl_iloadn gL_3) ?_
        refine cx_vi (c := 3) (a := me) (st := []) (as := [rv (F (p) (5 : Int)), .int (i32 (fr))]) rfl rfl rfl o_me t_me (by decide) rfl ⟨rfl, rfl, (Nat.le_of_ble_eq_true rfl)⟩ rfl (LKx_all X ((kk) - 1) (dd := d) (R := R) (m := m) (tg := tg) (ln := ln) (F := F62) (me := me) (e := F (p) (5 : Int)) (wd := fr) (hd := by omega) (hC := hC63) (o_me := o_me) (t_me := t_me) (y_e := y66) (h_wd := by omega) (c_NT := NT_q hC c_NT hM65 rfl) (n_e := (SN_q (SN_w (SN_c hC c_NT n_p (own_z o_p) (by omega)) (by omega)) hM65 rfl rfl))) (fun o V_q hq => ?_)
        obtain ⟨F67, rfl, rfl, hC68, hM69, -⟩ := hq
        have hM70 : Fq 0 [(4, 0), (7, 5), (8, 10), (8, 11), (8, 12)] m tg F F67 := Fq_t (ln := ln) (ln1 := ln) hM65 Ex_r hM69 (by decide) (Or.inl rfl)
        refine Or.inl ⟨rfl, ?_⟩
        refine jx_ar (pc_q := 127) (st_q := [.int (i32 (0))]) rfl rfl rfl rfl ?_
        refine jx_rt (v := some (.int (i32 (0)))) rfl rfl rfl rfl rfl rfl ?_
        exact ⟨F67, (0), rfl, rfl, hC68, hM70, by omega, trivial⟩
      by_cases h71 : F (p) (0 : Int) = 5
      · refine jx_swe (tg := 128) h71 rfl rfl rfl rfl ?_
        refine jx_ld (pc_q := 129) (l_q := L) (st_q := [rv (p)]) rfl (jl_rvn gL_1) ?_
        refine cx_gr (pc_q := 132) (c := 7) (q := 4) (v := F (p) (4 : Int)) rfl rfl (by decide) (by decide) rfl rfl o_p t_p ((show F33 (p) (4 : Int) = Fx (p) (4 : Int) from hM35 _ _ o_p (own_z o_p) (by rw [t_p]; rfl)).trans (show Fx (p) (4 : Int) = F (p) (4 : Int) from hMx _ _ o_p (own_z o_p) (by rw [t_p]; rfl))) ?_
        have y72 : F (p) (4 : Int) = 0 ∨ (own m (F (p) (4 : Int)) ∧ tg (F (p) (4 : Int)) = 8) := by have z := HC_r (c := 7) (q := 4) hC34 o_p t_p (by decide) rfl; rw [show F33 (p) ((4 : Nat) : Int) = F (p) (4 : Int) from ((show F33 (p) (4 : Int) = Fx (p) (4 : Int) from hM35 _ _ o_p (own_z o_p) (by rw [t_p]; rfl)).trans (show Fx (p) (4 : Int) = F (p) (4 : Int) from hMx _ _ o_p (own_z o_p) (by rw [t_p]; rfl)))] at z; exact z
        refine jx_ld (pc_q := 134) (l_q := jSto1 L 4 (rv (F (p) (4 : Int)))) (st_q := []) rfl (js_rv (by decide)) ?_
        obtain ⟨L73, eL73⟩ : ∃ q : jL, q = jSto1 L 4 (rv (F (p) (4 : Int))) := ⟨_, rfl⟩
        rw [← eL73]
        have g74 : jGet L73 0 = some (rv (me)) := eL73 ▸ jg_nr (by decide) gL_0
        have g75 : jGet L73 1 = some (rv (p)) := eL73 ▸ jg_nr (by decide) gL_1
        have g76 : jGet L73 2 = some (.int (i32 (wd))) := eL73 ▸ jg_ne (by decide) gL_2 rfl
        have g77 : jGet L73 3 = some (.int (i32 (fr))) := eL73 ▸ jg_ne (by decide) gL_3 rfl
        have g78 : jGet L73 4 = some (rv (F (p) (4 : Int))) := eL73 ▸ jg_eq
        clear eL73
        exact k_LLayout_process_at_134 (X := X) (kk := kk) (hE := hE) (d := d) (R := R) (m := m) (tg := tg) (ln := ln) (F := F) (me := me) (p := p) (wd := wd) (hd := hd) (hC := hC) (o_me := o_me) (t_me := t_me) (o_p := o_p) (t_p := t_p) (h_wd := h_wd) (c_NT := c_NT) (n_p := n_p) _ L73 F33 (fr) (F (p) (4 : Int)) rfl g74 g75 g76 g77 g78 hC34 hM36 (by omega) y72 (SN_w (SN_c hC c_NT n_p (own_z o_p) (by omega)) (by omega))
      by_cases h79 : F (p) (0 : Int) = 6
      · refine jx_swe (tg := 251) h79 rfl rfl rfl rfl ?_
        refine jx_ld (pc_q := 252) (l_q := L) (st_q := [rv (me)]) rfl (jl_rvn gL_0) ?_
        refine jx_ld (pc_q := 253) (l_q := L) (st_q := [rv (p), rv (me)]) rfl (jl_rvn gL_1) ?_
        refine jx_ld (pc_q := 254) (l_q := L) (st_q := [.int (i32 (fr)), rv (p), rv (me)]) rfl (jl_iloadn gL_3) ?_
        refine cx_vi (c := 3) (a := me) (st := []) (as := [rv (p), .int (i32 (fr))]) rfl rfl rfl o_me t_me (by decide) rfl ⟨rfl, rfl, (Nat.le_of_ble_eq_true rfl)⟩ rfl (k_LLayout_children (dd := d) (R := R) (m := m) (tg := tg) (ln := ln) (F := F33) (kk := kk) (hE := hE) (me := me) (p := p) (wd := fr) (hd := by omega) (hC := hC34) (o_me := o_me) (t_me := t_me) (o_p := o_p) (t_p := t_p) (h_wd := by omega) (c_NT := NT_q hC c_NT hM36 rfl) (n_p := (SN_q (SN_w n_p (by omega)) hM36 rfl rfl))) (fun o V_q hq => ?_)
        obtain ⟨F80, r81, rfl, rfl, hC82, hM83, b84, -⟩ := hq
        have hM85 : Fq 0 [(4, 0), (7, 5), (8, 10), (8, 11), (8, 12)] m tg F F80 := Fq_t (ln := ln) (ln1 := ln) hM36 Ex_r hM83 (by decide) (Or.inl rfl)
        refine Or.inr (Or.inl ⟨_, rfl, ?_⟩)
        refine jx_rt (v := some (.int (i32 (r81)))) rfl rfl rfl rfl rfl rfl ?_
        exact ⟨F80, (r81), rfl, rfl, hC82, hM85, by omega, trivial⟩
      by_cases h86 : F (p) (0 : Int) = 7
      · refine jx_swe (tg := 191) h86 rfl rfl rfl rfl ?_
        refine jx_ld (pc_q := 192) (l_q := L) (st_q := [rv (me)]) rfl (jl_rvn gL_0) ?_
        refine jx_ld (pc_q := 193) (l_q := L) (st_q := [rv (p), rv (me)]) rfl (jl_rvn gL_1) ?_
        refine jx_ld (pc_q := 194) (l_q := L) (st_q := [.int (i32 (fr)), rv (p), rv (me)]) rfl (jl_iloadn gL_3) ?_
        refine cx_vi (c := 3) (a := me) (st := []) (as := [rv (p), .int (i32 (fr))]) rfl rfl rfl o_me t_me (by decide) rfl ⟨rfl, rfl, (Nat.le_of_ble_eq_true rfl)⟩ rfl (k_LLayout_loop (dd := d) (R := R) (m := m) (tg := tg) (ln := ln) (F := F33) (kk := kk) (hE := hE) (me := me) (p := p) (wd := fr) (hd := by omega) (hC := hC34) (o_me := o_me) (t_me := t_me) (o_p := o_p) (t_p := t_p) (h_wd := by omega) (c_NT := NT_q hC c_NT hM36 rfl) (n_p := (SN_q (SN_w n_p (by omega)) hM36 rfl rfl))) (fun o V_q hq => ?_)
        obtain ⟨F87, r88, rfl, rfl, hC89, hM90, b91, -⟩ := hq
        have hM92 : Fq 0 [(4, 0), (7, 5), (8, 10), (8, 11), (8, 12)] m tg F F87 := Fq_t (ln := ln) (ln1 := ln) hM36 Ex_r hM90 (by decide) (Or.inl rfl)
        refine Or.inr (Or.inl ⟨_, rfl, ?_⟩)
        refine jx_rt (v := some (.int (i32 (r88)))) rfl rfl rfl rfl rfl rfl ?_
        exact ⟨F87, (r88), rfl, rfl, hC89, hM92, by omega, trivial⟩
      by_cases h93 : F (p) (0 : Int) = 8
      · refine jx_swe (tg := 218) h93 rfl rfl rfl rfl ?_
        refine jx_ld (pc_q := 219) (l_q := L) (st_q := [rv (me)]) rfl (jl_rvn gL_0) ?_
        refine jx_ld (pc_q := 220) (l_q := L) (st_q := [rv (p), rv (me)]) rfl (jl_rvn gL_1) ?_
        refine jx_ld (pc_q := 221) (l_q := L) (st_q := [.int (i32 (fr)), rv (p), rv (me)]) rfl (jl_iloadn gL_3) ?_
        refine cx_vi (c := 3) (a := me) (st := []) (as := [rv (p), .int (i32 (fr))]) rfl rfl rfl o_me t_me (by decide) rfl ⟨rfl, rfl, (Nat.le_of_ble_eq_true rfl)⟩ rfl (k_LLayout_branches (dd := d) (R := R) (m := m) (tg := tg) (ln := ln) (F := F33) (kk := kk) (hE := hE) (me := me) (p := p) (wd := fr) (hd := by omega) (hC := hC34) (o_me := o_me) (t_me := t_me) (o_p := o_p) (t_p := t_p) (h_wd := by omega) (c_NT := NT_q hC c_NT hM36 rfl) (n_p := (SN_q (SN_w n_p (by omega)) hM36 rfl rfl))) (fun o V_q hq => ?_)
        obtain ⟨F94, r95, rfl, rfl, hC96, hM97, b98, -⟩ := hq
        have hM99 : Fq 0 [(4, 0), (7, 5), (8, 10), (8, 11), (8, 12)] m tg F F94 := Fq_t (ln := ln) (ln1 := ln) hM36 Ex_r hM97 (by decide) (Or.inl rfl)
        refine Or.inr (Or.inl ⟨_, rfl, ?_⟩)
        refine jx_rt (v := some (.int (i32 (r95)))) rfl rfl rfl rfl rfl rfl ?_
        exact ⟨F94, (r95), rfl, rfl, hC96, hM99, by omega, trivial⟩
      by_cases h100 : F (p) (0 : Int) = 9
      · refine jx_swe (tg := 218) h100 rfl rfl rfl rfl ?_
        refine jx_ld (pc_q := 219) (l_q := L) (st_q := [rv (me)]) rfl (jl_rvn gL_0) ?_
        refine jx_ld (pc_q := 220) (l_q := L) (st_q := [rv (p), rv (me)]) rfl (jl_rvn gL_1) ?_
        refine jx_ld (pc_q := 221) (l_q := L) (st_q := [.int (i32 (fr)), rv (p), rv (me)]) rfl (jl_iloadn gL_3) ?_
        refine cx_vi (c := 3) (a := me) (st := []) (as := [rv (p), .int (i32 (fr))]) rfl rfl rfl o_me t_me (by decide) rfl ⟨rfl, rfl, (Nat.le_of_ble_eq_true rfl)⟩ rfl (k_LLayout_branches (dd := d) (R := R) (m := m) (tg := tg) (ln := ln) (F := F33) (kk := kk) (hE := hE) (me := me) (p := p) (wd := fr) (hd := by omega) (hC := hC34) (o_me := o_me) (t_me := t_me) (o_p := o_p) (t_p := t_p) (h_wd := by omega) (c_NT := NT_q hC c_NT hM36 rfl) (n_p := (SN_q (SN_w n_p (by omega)) hM36 rfl rfl))) (fun o V_q hq => ?_)
        obtain ⟨F101, r102, rfl, rfl, hC103, hM104, b105, -⟩ := hq
        have hM106 : Fq 0 [(4, 0), (7, 5), (8, 10), (8, 11), (8, 12)] m tg F F101 := Fq_t (ln := ln) (ln1 := ln) hM36 Ex_r hM104 (by decide) (Or.inl rfl)
        refine Or.inr (Or.inl ⟨_, rfl, ?_⟩)
        refine jx_rt (v := some (.int (i32 (r102)))) rfl rfl rfl rfl rfl rfl ?_
        exact ⟨F101, (r102), rfl, rfl, hC103, hM106, by omega, trivial⟩
      by_cases h107 : F (p) (0 : Int) = 10
      · refine jx_swe (tg := 218) h107 rfl rfl rfl rfl ?_
        refine jx_ld (pc_q := 219) (l_q := L) (st_q := [rv (me)]) rfl (jl_rvn gL_0) ?_
        refine jx_ld (pc_q := 220) (l_q := L) (st_q := [rv (p), rv (me)]) rfl (jl_rvn gL_1) ?_
        refine jx_ld (pc_q := 221) (l_q := L) (st_q := [.int (i32 (fr)), rv (p), rv (me)]) rfl (jl_iloadn gL_3) ?_
        refine cx_vi (c := 3) (a := me) (st := []) (as := [rv (p), .int (i32 (fr))]) rfl rfl rfl o_me t_me (by decide) rfl ⟨rfl, rfl, (Nat.le_of_ble_eq_true rfl)⟩ rfl (k_LLayout_branches (dd := d) (R := R) (m := m) (tg := tg) (ln := ln) (F := F33) (kk := kk) (hE := hE) (me := me) (p := p) (wd := fr) (hd := by omega) (hC := hC34) (o_me := o_me) (t_me := t_me) (o_p := o_p) (t_p := t_p) (h_wd := by omega) (c_NT := NT_q hC c_NT hM36 rfl) (n_p := (SN_q (SN_w n_p (by omega)) hM36 rfl rfl))) (fun o V_q hq => ?_)
        obtain ⟨F108, r109, rfl, rfl, hC110, hM111, b112, -⟩ := hq
        have hM113 : Fq 0 [(4, 0), (7, 5), (8, 10), (8, 11), (8, 12)] m tg F F108 := Fq_t (ln := ln) (ln1 := ln) hM36 Ex_r hM111 (by decide) (Or.inl rfl)
        refine Or.inr (Or.inl ⟨_, rfl, ?_⟩)
        refine jx_rt (v := some (.int (i32 (r109)))) rfl rfl rfl rfl rfl rfl ?_
        exact ⟨F108, (r109), rfl, rfl, hC110, hM113, by omega, trivial⟩
      by_cases h114 : F (p) (0 : Int) = 11
      · refine jx_swe (tg := 244) h114 rfl rfl rfl rfl ?_
        refine jx_ld (pc_q := 245) (l_q := L) (st_q := [rv (me)]) rfl (jl_rvn gL_0) ?_
        refine jx_ld (pc_q := 246) (l_q := L) (st_q := [rv (p), rv (me)]) rfl (jl_rvn gL_1) ?_
        refine jx_ld (pc_q := 247) (l_q := L) (st_q := [.int (i32 (fr)), rv (p), rv (me)]) rfl (jl_iloadn gL_3) ?_
        refine cx_vi (c := 3) (a := me) (st := []) (as := [rv (p), .int (i32 (fr))]) rfl rfl rfl o_me t_me (by decide) rfl ⟨rfl, rfl, (Nat.le_of_ble_eq_true rfl)⟩ rfl (k_LLayout_choices (dd := d) (R := R) (m := m) (tg := tg) (ln := ln) (F := F33) (kk := kk) (hE := hE) (me := me) (p := p) (wd := fr) (hd := by omega) (hC := hC34) (o_me := o_me) (t_me := t_me) (o_p := o_p) (t_p := t_p) (h_wd := by omega) (c_NT := NT_q hC c_NT hM36 rfl) (n_p := (SN_q (SN_w n_p (by omega)) hM36 rfl rfl))) (fun o V_q hq => ?_)
        obtain ⟨F115, r116, rfl, rfl, hC117, hM118, b119, -⟩ := hq
        have hM120 : Fq 0 [(4, 0), (7, 5), (8, 10), (8, 11), (8, 12)] m tg F F115 := Fq_t (ln := ln) (ln1 := ln) hM36 Ex_r hM118 (by decide) (Or.inl rfl)
        refine Or.inr (Or.inl ⟨_, rfl, ?_⟩)
        refine jx_rt (v := some (.int (i32 (r116)))) rfl rfl rfl rfl rfl rfl ?_
        exact ⟨F115, (r116), rfl, rfl, hC117, hM120, by omega, trivial⟩
      by_cases h121 : F (p) (0 : Int) = 12
      · refine jx_swe (tg := 198) h121 rfl rfl rfl rfl ?_
        refine jx_ld (pc_q := 199) (l_q := L) (st_q := [rv (me)]) rfl (jl_rvn gL_0) ?_
        refine jx_ld (pc_q := 200) (l_q := L) (st_q := [rv (p), rv (me)]) rfl (jl_rvn gL_1) ?_
        refine cx_gr (pc_q := 203) (c := 7) (q := 4) (v := F (p) (4 : Int)) rfl rfl (by decide) (by decide) rfl rfl o_p t_p ((show F33 (p) (4 : Int) = Fx (p) (4 : Int) from hM35 _ _ o_p (own_z o_p) (by rw [t_p]; rfl)).trans (show Fx (p) (4 : Int) = F (p) (4 : Int) from hMx _ _ o_p (own_z o_p) (by rw [t_p]; rfl))) ?_
        have y122 : F (p) (4 : Int) = 0 ∨ (own m (F (p) (4 : Int)) ∧ tg (F (p) (4 : Int)) = 8) := by have z := HC_r (c := 7) (q := 4) hC34 o_p t_p (by decide) rfl; rw [show F33 (p) ((4 : Nat) : Int) = F (p) (4 : Int) from ((show F33 (p) (4 : Int) = Fx (p) (4 : Int) from hM35 _ _ o_p (own_z o_p) (by rw [t_p]; rfl)).trans (show Fx (p) (4 : Int) = F (p) (4 : Int) from hMx _ _ o_p (own_z o_p) (by rw [t_p]; rfl)))] at z; exact z
        refine jx_ld (pc_q := 204) (l_q := L) (st_q := [.int (i32 (fr)), rv (F (p) (4 : Int)), rv (me)]) rfl (jl_iloadn gL_3) ?_
        refine cx_vi (c := 3) (a := me) (st := []) (as := [rv (F (p) (4 : Int)), .int (i32 (fr))]) rfl rfl rfl o_me t_me (by decide) rfl ⟨rfl, rfl, (Nat.le_of_ble_eq_true rfl)⟩ rfl (LKx_all X ((kk) - 1) (dd := d) (R := R) (m := m) (tg := tg) (ln := ln) (F := F33) (me := me) (e := F (p) (4 : Int)) (wd := fr) (hd := by omega) (hC := hC34) (o_me := o_me) (t_me := t_me) (y_e := y122) (h_wd := by omega) (c_NT := NT_q hC c_NT hM36 rfl) (n_e := (SN_q (SN_w (SN_c hC c_NT n_p (own_z o_p) (by omega)) (by omega)) hM36 rfl rfl))) (fun o V_q hq => ?_)
        obtain ⟨F123, rfl, rfl, hC124, hM125, -⟩ := hq
        have hM126 : Fq 0 [(4, 0), (7, 5), (8, 10), (8, 11), (8, 12)] m tg F F123 := Fq_t (ln := ln) (ln1 := ln) hM36 Ex_r hM125 (by decide) (Or.inl rfl)
        refine Or.inl ⟨rfl, ?_⟩
        refine jx_ld (pc_q := 208) (l_q := L) (st_q := [rv (me)]) rfl (jl_rvn gL_0) ?_
        refine jx_ar (pc_q := 209) (st_q := [.int (i32 (0)), rv (me)]) rfl rfl rfl rfl ?_
        refine jx_ld (pc_q := 210) (l_q := L) (st_q := [rv (p), .int (i32 (0)), rv (me)]) rfl (jl_rvn gL_1) ?_
        refine cx_gr (pc_q := 213) (c := 7) (q := 7) (v := F (p) (7 : Int)) rfl rfl (by decide) (by decide) rfl rfl o_p t_p ((show F123 (p) (7 : Int) = F33 (p) (7 : Int) from hM125 _ _ o_p (own_z o_p) (by rw [t_p]; rfl)).trans ((show F33 (p) (7 : Int) = Fx (p) (7 : Int) from hM35 _ _ o_p (own_z o_p) (by rw [t_p]; rfl)).trans (show Fx (p) (7 : Int) = F (p) (7 : Int) from hMx _ _ o_p (own_z o_p) (by rw [t_p]; rfl)))) ?_
        have y127 : F (p) (7 : Int) = 0 ∨ (own m (F (p) (7 : Int)) ∧ tg (F (p) (7 : Int)) = 8) := by have z := HC_r (c := 7) (q := 7) hC124 o_p t_p (by decide) rfl; rw [show F123 (p) ((7 : Nat) : Int) = F (p) (7 : Int) from ((show F123 (p) (7 : Int) = F33 (p) (7 : Int) from hM125 _ _ o_p (own_z o_p) (by rw [t_p]; rfl)).trans ((show F33 (p) (7 : Int) = Fx (p) (7 : Int) from hM35 _ _ o_p (own_z o_p) (by rw [t_p]; rfl)).trans (show Fx (p) (7 : Int) = F (p) (7 : Int) from hMx _ _ o_p (own_z o_p) (by rw [t_p]; rfl))))] at z; exact z
        refine jx_ld (pc_q := 214) (l_q := L) (st_q := [.int (i32 (fr)), rv (F (p) (7 : Int)), .int (i32 (0)), rv (me)]) rfl (jl_iloadn gL_3) ?_
        refine cx_vi (c := 3) (a := me) (st := []) (as := [.int (i32 (0)), rv (F (p) (7 : Int)), .int (i32 (fr))]) rfl rfl rfl o_me t_me (by decide) rfl ⟨rfl, rfl, (Nat.le_of_ble_eq_true rfl)⟩ rfl (k_LLayout_deeper (dd := d) (R := R) (m := m) (tg := tg) (ln := ln) (F := F123) (kk := kk) (hE := hE) (me := me) (dp := 0) (p := F (p) (7 : Int)) (wd := fr) (hd := by omega) (hC := hC124) (o_me := o_me) (t_me := t_me) (h_dp := by omega) (y_p := y127) (h_wd := by omega) (p_0 := by omega) (c_NT := NT_q hC c_NT hM126 rfl) (n_p := (SN_q (SN_w (SN_c hC c_NT n_p (own_z o_p) (by omega)) (by omega)) hM126 rfl rfl))) (fun o V_q hq => ?_)
        obtain ⟨F128, r129, rfl, rfl, hC130, hM131, b132, -⟩ := hq
        have hM133 : Fq 0 [(4, 0), (7, 5), (8, 10), (8, 11), (8, 12)] m tg F F128 := Fq_t (ln := ln) (ln1 := ln) hM126 Ex_r hM131 (by decide) (Or.inl rfl)
        refine Or.inr (Or.inl ⟨_, rfl, ?_⟩)
        refine jx_rt (v := some (.int (i32 (r129)))) rfl rfl rfl rfl rfl rfl ?_
        exact ⟨F128, (r129), rfl, rfl, hC130, hM133, by omega, trivial⟩
      by_cases h134 : F (p) (0 : Int) = 13
      · refine jx_swe (tg := 225) h134 rfl rfl rfl rfl ?_
        refine jx_ld (pc_q := 226) (l_q := L) (st_q := [rv (p)]) rfl (jl_rvn gL_1) ?_
        refine jx_ld (pc_q := 227) (l_q := L) (st_q := [.int (i32 (fr)), rv (p)]) rfl (jl_iloadn gL_3) ?_
        refine cx_pi (pc_q := 230) (c := 7) (q := 10) (qi := (10 : Int)) (z := fr) rfl rfl (by decide) (by decide) rfl rfl rfl (by decide) rfl o_p t_p rfl ?_
        obtain ⟨F135, eF135⟩ : ∃ q, q = uF F33 (p) (10 : Int) (fr) := ⟨_, rfl⟩
        rw [← eF135]
        have hC136 : HC 0 m tg ln F135 := by rw [eF135]; exact HC_fi (c := 7) (q := 10) hC34 t_p (by decide) rfl (by omega) (by omega) ⟨fun w => absurd w (by decide), fun w => absurd w (by decide)⟩
        have hM137 : Fq 0 [(4, 0), (7, 5), (8, 10), (8, 11), (8, 12)] m tg F F135 := by rw [eF135]; exact Fq_p hM36 t_p (fun _ => rfl) rfl
        refine jx_ld (pc_q := 231) (l_q := L) (st_q := [rv (me)]) rfl (jl_rvn gL_0) ?_
        refine jx_ld (pc_q := 232) (l_q := L) (st_q := [rv (p), rv (me)]) rfl (jl_rvn gL_1) ?_
        refine jx_ld (pc_q := 233) (l_q := L) (st_q := [.int (i32 (fr)), rv (p), rv (me)]) rfl (jl_iloadn gL_3) ?_
        refine jx_ar (pc_q := 234) (st_q := [.int (i32 (2)), .int (i32 (fr)), rv (p), rv (me)]) rfl rfl rfl rfl ?_
        refine jx_ld (pc_q := 235) (l_q := L) (st_q := [rv (p), .int (i32 (2)), .int (i32 (fr)), rv (p), rv (me)]) rfl (jl_rvn gL_1) ?_
        refine cx_gi (pc_q := 238) (c := 7) (q := 2) (v := F (p) (2 : Int)) rfl rfl (by decide) (by decide) (Or.inl rfl) rfl o_p t_p ((show F135 (p) (2 : Int) = F33 (p) (2 : Int) from by rw [eF135]; exact uF_j (by decide)).trans ((show F33 (p) (2 : Int) = Fx (p) (2 : Int) from hM35 _ _ o_p (own_z o_p) (by rw [t_p]; rfl)).trans (show Fx (p) (2 : Int) = F (p) (2 : Int) from hMx _ _ o_p (own_z o_p) (by rw [t_p]; rfl)))) ?_
        have b138 : (-2147483648 : Int) ≤ F (p) (2 : Int) ∧ F (p) (2 : Int) ≤ 2147483647 := by have z := HC_i (c := 7) (q := 2) hC136 o_p t_p (by decide) rfl; rw [show F135 (p) ((2 : Nat) : Int) = F (p) (2 : Int) from ((show F135 (p) (2 : Int) = F33 (p) (2 : Int) from by rw [eF135]; exact uF_j (by decide)).trans ((show F33 (p) (2 : Int) = Fx (p) (2 : Int) from hM35 _ _ o_p (own_z o_p) (by rw [t_p]; rfl)).trans (show Fx (p) (2 : Int) = F (p) (2 : Int) from hMx _ _ o_p (own_z o_p) (by rw [t_p]; rfl))))] at z; exact z
        refine jx_mul (pc_q := 239) rfl rfl ?_
        obtain ⟨z139, ez139⟩ : ∃ q, q = (i32 ((2 * F (p) (2 : Int)))).toInt := ⟨_, rfl⟩
        have bz139 : (-2147483648 : Int) ≤ z139 ∧ z139 ≤ 2147483647 := ez139 ▸ i32_rg _
        rw [show i32 ((2 * F (p) (2 : Int))) = i32 z139 by rw [ez139, i32_of]]
        clear ez139
        refine jx_add (pc_q := 240) rfl rfl ?_
        obtain ⟨z140, ez140⟩ : ∃ q, q = (i32 ((fr + z139))).toInt := ⟨_, rfl⟩
        have bz140 : (-2147483648 : Int) ≤ z140 ∧ z140 ≤ 2147483647 := ez140 ▸ i32_rg _
        rw [show i32 ((fr + z139)) = i32 z140 by rw [ez140, i32_of]]
        clear ez140
        refine cx_vi (c := 3) (a := me) (st := []) (as := [rv (p), .int (i32 (z140))]) rfl rfl rfl o_me t_me (by decide) rfl ⟨rfl, rfl, (Nat.le_of_ble_eq_true rfl)⟩ rfl (k_LLayout_choices (dd := d) (R := R) (m := m) (tg := tg) (ln := ln) (F := F135) (kk := kk) (hE := hE) (me := me) (p := p) (wd := z140) (hd := by omega) (hC := hC136) (o_me := o_me) (t_me := t_me) (o_p := o_p) (t_p := t_p) (h_wd := by omega) (c_NT := NT_q hC c_NT hM137 rfl) (n_p := (SN_q (SN_w n_p (by omega)) hM137 rfl rfl))) (fun o V_q hq => ?_)
        obtain ⟨F141, r142, rfl, rfl, hC143, hM144, b145, -⟩ := hq
        have hM146 : Fq 0 [(4, 0), (7, 5), (8, 10), (8, 11), (8, 12)] m tg F F141 := Fq_t (ln := ln) (ln1 := ln) hM137 Ex_r hM144 (by decide) (Or.inl rfl)
        refine Or.inr (Or.inl ⟨_, rfl, ?_⟩)
        refine jx_rt (v := some (.int (i32 (r142)))) rfl rfl rfl rfl rfl rfl ?_
        exact ⟨F141, (r142), rfl, rfl, hC143, hM146, by omega, trivial⟩
      refine jx_swt (tg := 251) (by omega) (by omega) rfl (by omega) rfl ?_
      refine jx_ld (pc_q := 252) (l_q := L) (st_q := [rv (me)]) rfl (jl_rvn gL_0) ?_
      refine jx_ld (pc_q := 253) (l_q := L) (st_q := [rv (p), rv (me)]) rfl (jl_rvn gL_1) ?_
      refine jx_ld (pc_q := 254) (l_q := L) (st_q := [.int (i32 (fr)), rv (p), rv (me)]) rfl (jl_iloadn gL_3) ?_
      refine cx_vi (c := 3) (a := me) (st := []) (as := [rv (p), .int (i32 (fr))]) rfl rfl rfl o_me t_me (by decide) rfl ⟨rfl, rfl, (Nat.le_of_ble_eq_true rfl)⟩ rfl (k_LLayout_children (dd := d) (R := R) (m := m) (tg := tg) (ln := ln) (F := F33) (kk := kk) (hE := hE) (me := me) (p := p) (wd := fr) (hd := by omega) (hC := hC34) (o_me := o_me) (t_me := t_me) (o_p := o_p) (t_p := t_p) (h_wd := by omega) (c_NT := NT_q hC c_NT hM36 rfl) (n_p := (SN_q (SN_w n_p (by omega)) hM36 rfl rfl))) (fun o V_q hq => ?_)
      obtain ⟨F147, r148, rfl, rfl, hC149, hM150, b151, -⟩ := hq
      have hM152 : Fq 0 [(4, 0), (7, 5), (8, 10), (8, 11), (8, 12)] m tg F F147 := Fq_t (ln := ln) (ln1 := ln) hM36 Ex_r hM150 (by decide) (Or.inl rfl)
      refine Or.inr (Or.inl ⟨_, rfl, ?_⟩)
      refine jx_rt (v := some (.int (i32 (r148)))) rfl rfl rfl rfl rfl rfl ?_
      exact ⟨F147, (r148), rfl, rfl, hC149, hM152, by omega, trivial⟩
    · have _q := h32
      have ho153 : own m (nm) ∧ tg (nm) = 7 := yx_nm.resolve_left h32
      refine jx_ld (pc_q := 15) (l_q := L) (st_q := [rv (nm)]) rfl (jl_rv gL_4) ?_
      refine jx_ld (pc_q := 16) (l_q := L) (st_q := [.int (i32 (fr)), rv (nm)]) rfl (jl_iloadn gL_3) ?_
      refine cx_pi (pc_q := 19) (c := 6) (q := 5) (qi := (5 : Int)) (z := fr) rfl rfl (by decide) (by decide) rfl rfl rfl (by decide) rfl ho153.1 ho153.2 rfl ?_
      obtain ⟨F154, eF154⟩ : ∃ q, q = uF Fx (nm) (5 : Int) (fr) := ⟨_, rfl⟩
      rw [← eF154]
      have hC155 : HC 0 m tg ln F154 := by rw [eF154]; exact HC_fi (c := 6) (q := 5) hCx ho153.2 (by decide) rfl (by omega) (by omega) ⟨fun w => absurd w (by decide), fun w => absurd w (by decide)⟩
      have hM156 : Fq 0 [(4, 0), (7, 5), (8, 10), (8, 11), (8, 12)] m tg F F154 := by rw [eF154]; exact Fq_p hMx ho153.2 (fun _ => rfl) rfl
      refine jx_ld (pc_q := 20) (l_q := L) (st_q := [.int (i32 (fr))]) rfl (jl_iloadn gL_3) ?_
      refine jx_ld (pc_q := 22) (l_q := L) (st_q := [rv (nm), .int (i32 (fr))]) rfl (jl_rv gL_4) ?_
      refine cx_gi (pc_q := 25) (c := 6) (q := 3) (v := F (nm) (3 : Int)) rfl rfl (by decide) (by decide) (Or.inl rfl) rfl ho153.1 ho153.2 ((show F154 (nm) (3 : Int) = Fx (nm) (3 : Int) from by rw [eF154]; exact uF_j (by decide)).trans (show Fx (nm) (3 : Int) = F (nm) (3 : Int) from hMx _ _ ho153.1 (own_z ho153.1) (by rw [ho153.2]; rfl))) ?_
      have b157 : (-2147483648 : Int) ≤ F (nm) (3 : Int) ∧ F (nm) (3 : Int) ≤ 2147483647 := by have z := HC_i (c := 6) (q := 3) hC155 ho153.1 ho153.2 (by decide) rfl; rw [show F154 (nm) ((3 : Nat) : Int) = F (nm) (3 : Int) from ((show F154 (nm) (3 : Int) = Fx (nm) (3 : Int) from by rw [eF154]; exact uF_j (by decide)).trans (show Fx (nm) (3 : Int) = F (nm) (3 : Int) from hMx _ _ ho153.1 (own_z ho153.1) (by rw [ho153.2]; rfl)))] at z; exact z
      refine jx_add (pc_q := 26) rfl rfl ?_
      obtain ⟨z158, ez158⟩ : ∃ q, q = (i32 ((fr + F (nm) (3 : Int)))).toInt := ⟨_, rfl⟩
      have bz158 : (-2147483648 : Int) ≤ z158 ∧ z158 ≤ 2147483647 := ez158 ▸ i32_rg _
      rw [show i32 ((fr + F (nm) (3 : Int))) = i32 z158 by rw [ez158, i32_of]]
      clear ez158
      refine jx_ld (pc_q := 27) (l_q := jSto1 L 3 (.int (i32 (z158)))) (st_q := []) rfl rfl ?_
      obtain ⟨L159, eL159⟩ : ∃ q : jL, q = jSto1 L 3 (.int (i32 (z158))) := ⟨_, rfl⟩
      rw [← eL159]
      have g160 : jGet L159 0 = some (rv (me)) := eL159 ▸ jg_nr (by decide) gL_0
      have g161 : jGet L159 1 = some (rv (p)) := eL159 ▸ jg_nr (by decide) gL_1
      have g162 : jGet L159 2 = some (.int (i32 (wd))) := eL159 ▸ jg_ne (by decide) gL_2 rfl
      have g163 : jGet L159 4 = some (rv (nm)) := eL159 ▸ jg_nr (by decide) gL_4
      have g164 : jGet L159 3 = some (.int (i32 (z158))) := eL159 ▸ jg_eq
      clear eL159
      refine jx_ld (pc_q := 29) (l_q := L159) (st_q := [rv (nm)]) rfl (jl_rv g163) ?_
      refine cx_gr (pc_q := 32) (c := 6) (q := 14) (v := F (nm) (14 : Int)) rfl rfl (by decide) (by decide) rfl rfl ho153.1 ho153.2 ((show F154 (nm) (14 : Int) = Fx (nm) (14 : Int) from by rw [eF154]; exact uF_j (by decide)).trans (show Fx (nm) (14 : Int) = F (nm) (14 : Int) from hMx _ _ ho153.1 (own_z ho153.1) (by rw [ho153.2]; rfl))) ?_
      have y165 : F (nm) (14 : Int) = 0 ∨ (own m (F (nm) (14 : Int)) ∧ tg (F (nm) (14 : Int)) = 7) := by have z := HC_r (c := 6) (q := 14) hC155 ho153.1 ho153.2 (by decide) rfl; rw [show F154 (nm) ((14 : Nat) : Int) = F (nm) (14 : Int) from ((show F154 (nm) (14 : Int) = Fx (nm) (14 : Int) from by rw [eF154]; exact uF_j (by decide)).trans (show Fx (nm) (14 : Int) = F (nm) (14 : Int) from hMx _ _ ho153.1 (own_z ho153.1) (by rw [ho153.2]; rfl)))] at z; exact z
      have z166 := mz_a hC c_NT ho153.1 ho153.2
      refine jx_ld (pc_q := 34) (l_q := jSto1 L159 4 (rv (F (nm) (14 : Int)))) (st_q := []) rfl (js_rv (by decide)) ?_
      obtain ⟨L167, eL167⟩ : ∃ q : jL, q = jSto1 L159 4 (rv (F (nm) (14 : Int))) := ⟨_, rfl⟩
      rw [← eL167]
      have g168 : jGet L167 0 = some (rv (me)) := eL167 ▸ jg_nr (by decide) g160
      have g169 : jGet L167 1 = some (rv (p)) := eL167 ▸ jg_nr (by decide) g161
      have g170 : jGet L167 2 = some (.int (i32 (wd))) := eL167 ▸ jg_ne (by decide) g162 rfl
      have g171 : jGet L167 3 = some (.int (i32 (z158))) := eL167 ▸ jg_ne (by decide) g164 rfl
      have g172 : jGet L167 4 = some (rv (F (nm) (14 : Int))) := eL167 ▸ jg_eq
      clear eL167
      refine jx_go (tg := 8) rfl rfl ?_
      exact ih _ (by omega) L167 F154 (z158) (F (nm) (14 : Int)) rfl g168 g169 g170 g171 g172 hC155 hM156 (by omega) y165
set_option maxRecDepth 20000 in
set_option maxHeartbeats 4000000 in
theorem k_LLayout_process {X : jX} {kk : Nat} (hE : 1 ≤ kk → LPx X (kk - 1)) {dd : Nat} {R : Nat → jC} {m : Nat} {tg ln : Int → Int} {F : Int → Int → Int} {me p wd : Int} (hd : 3 * kk + 12 ≤ dd) (hC : HC 0 m tg ln F) (o_me : own m me) (t_me : tg me = 4) (o_p : own m p) (t_p : tg p = 8) (h_wd : (-2147483648 : Int) ≤ wd ∧ wd ≤ 2147483647) (c_NT : NT m tg F) (n_p : SN m tg F p (kk)) : wk X dd 127 [rv me, rv p, .int (i32 wd)] (cV R m tg ln F) (fun o V_q => ∃ (F_q : Int → Int → Int) (r : Int), V_q = cV R m tg ln F_q ∧ o = .inl (some (.int (i32 r))) ∧ HC 0 m tg ln F_q ∧ Fq 0 [(4, 0), (7, 5), (8, 10), (8, 11), (8, 12)] m tg F F_q ∧ (-2147483648 ≤ r ∧ r ≤ 2147483647) ∧ True) := by
  obtain ⟨d, rfl⟩ : ∃ d, dd = d + 1 := ⟨dd - 1, by omega⟩
  refine wk_of (e := jm127) rfl (by rw [jS_r, jS_r, jS_i, jS_0]; exact Nat.le_of_ble_eq_true rfl) ?_
  rw [la_r, la_r, la_i, la_0]
  show wj X d jm127 (0, [(0, rv (me)), (1, rv (p)), (2, .int (i32 (wd)))], [], cV R m tg ln F) _
  have hM0 : Fq 0 [(4, 0), (7, 5), (8, 10), (8, 11), (8, 12)] m tg F F := Fq_r
  obtain ⟨L0, eL0⟩ : ∃ q : jL, q = [(0, rv (me)), (1, rv (p)), (2, .int (i32 (wd)))] := ⟨_, rfl⟩
  rw [← eL0]
  have g173 : jGet L0 0 = some (rv (me)) := eL0 ▸ (rfl : jGet [(0, rv (me)), (1, rv (p)), (2, .int (i32 (wd)))] 0 = some (rv (me)))
  have g174 : jGet L0 1 = some (rv (p)) := eL0 ▸ (rfl : jGet [(0, rv (me)), (1, rv (p)), (2, .int (i32 (wd)))] 1 = some (rv (p)))
  have g175 : jGet L0 2 = some (.int (i32 (wd))) := eL0 ▸ (rfl : jGet [(0, rv (me)), (1, rv (p)), (2, .int (i32 (wd)))] 2 = some (.int (i32 (wd))))
  clear eL0
  have k176 := SN_p n_p (own_z o_p)
  have hE177 := hE (by omega)
  refine jx_ld (pc_q := 1) (l_q := L0) (st_q := [.int (i32 (wd))]) rfl (jl_iloadn g175) ?_
  refine jx_ld (pc_q := 2) (l_q := jSto1 L0 3 (.int (i32 (wd)))) (st_q := []) rfl rfl ?_
  obtain ⟨L178, eL178⟩ : ∃ q : jL, q = jSto1 L0 3 (.int (i32 (wd))) := ⟨_, rfl⟩
  rw [← eL178]
  have g179 : jGet L178 0 = some (rv (me)) := eL178 ▸ jg_nr (by decide) g173
  have g180 : jGet L178 1 = some (rv (p)) := eL178 ▸ jg_nr (by decide) g174
  have g181 : jGet L178 2 = some (.int (i32 (wd))) := eL178 ▸ jg_ne (by decide) g175 rfl
  have g182 : jGet L178 3 = some (.int (i32 (wd))) := eL178 ▸ jg_eq
  clear eL178
  refine jx_ld (pc_q := 3) (l_q := L178) (st_q := [rv (p)]) rfl (jl_rvn g180) ?_
  refine cx_gr (pc_q := 6) (c := 7) (q := 9) (v := F (p) (9 : Int)) rfl rfl (by decide) (by decide) rfl rfl o_p t_p rfl ?_
  have y183 : F (p) (9 : Int) = 0 ∨ (own m (F (p) (9 : Int)) ∧ tg (F (p) (9 : Int)) = 7) := by have z := HC_r (c := 7) (q := 9) hC o_p t_p (by decide) rfl; rw [show F (p) ((9 : Nat) : Int) = F (p) (9 : Int) from rfl] at z; exact z
  refine jx_ld (pc_q := 8) (l_q := jSto1 L178 4 (rv (F (p) (9 : Int)))) (st_q := []) rfl (js_rv (by decide)) ?_
  obtain ⟨L184, eL184⟩ : ∃ q : jL, q = jSto1 L178 4 (rv (F (p) (9 : Int))) := ⟨_, rfl⟩
  rw [← eL184]
  have g185 : jGet L184 0 = some (rv (me)) := eL184 ▸ jg_nr (by decide) g179
  have g186 : jGet L184 1 = some (rv (p)) := eL184 ▸ jg_nr (by decide) g180
  have g187 : jGet L184 2 = some (.int (i32 (wd))) := eL184 ▸ jg_ne (by decide) g181 rfl
  have g188 : jGet L184 3 = some (.int (i32 (wd))) := eL184 ▸ jg_ne (by decide) g182 rfl
  have g189 : jGet L184 4 = some (rv (F (p) (9 : Int))) := eL184 ▸ jg_eq
  clear eL184
  exact k_LLayout_process_at_8 (X := X) (kk := kk) (hE := hE) (d := d) (R := R) (m := m) (tg := tg) (ln := ln) (F := F) (me := me) (p := p) (wd := wd) (hd := hd) (hC := hC) (o_me := o_me) (t_me := t_me) (o_p := o_p) (t_p := t_p) (h_wd := h_wd) (c_NT := c_NT) (n_p := n_p) _ L184 F (wd) (F (p) (9 : Int)) rfl g185 g186 g187 g188 g189 hC hM0 (by omega) y183
theorem LPx_all (X : jX) : ∀ k, LPx X k
  | 0 => @k_LLayout_process X 0 (fun h => absurd h (by decide))
  | k + 1 => @k_LLayout_process X (k + 1) (fun _ => LPx_all X k)
