set_option maxRecDepth 20000 in
set_option maxHeartbeats 4000000 in
theorem k_LScanner_sign {X : jX} {dd : Nat} {R : Nat → jC} {m : Nat} {tg ln : Int → Int} {F : Int → Int → Int} {me a0 : Int} (hd : 1 ≤ dd) (hC : HC 0 m tg ln F) (o_me : own m me) (t_me : tg me = 11) (h_a0 : (-2147483648 : Int) ≤ a0 ∧ a0 ≤ 2147483647) : wk X dd 213 [rv me, .int (i32 a0)] (cV R m tg ln F) (fun o V_q => ∃ (r : Int), V_q = cV R m tg ln F ∧ o = .inl (some (.int (i32 r))) ∧ (0 ≤ r ∧ r ≤ 127) ∧ True) := by
  obtain ⟨d, rfl⟩ : ∃ d, dd = d + 1 := ⟨dd - 1, by omega⟩
  refine wk_of (e := jm213) rfl (by rw [jS_r, jS_i, jS_0]; exact Nat.le_of_ble_eq_true rfl) ?_
  rw [la_r, la_i, la_0]
  show wj X d jm213 (0, [(0, rv (me)), (1, .int (i32 (a0)))], [], cV R m tg ln F) _
  obtain ⟨L0, eL0⟩ : ∃ q : jL, q = [(0, rv (me)), (1, .int (i32 (a0)))] := ⟨_, rfl⟩
  rw [← eL0]
  have g1 : jGet L0 0 = some (rv (me)) := eL0 ▸ (rfl : jGet [(0, rv (me)), (1, .int (i32 (a0)))] 0 = some (rv (me)))
  have g2 : jGet L0 1 = some (.int (i32 (a0))) := eL0 ▸ (rfl : jGet [(0, rv (me)), (1, .int (i32 (a0)))] 1 = some (.int (i32 (a0))))
  clear eL0
  refine jx_ld (pc_q := 1) (l_q := L0) (st_q := [.int (i32 (a0))]) rfl (jl_iloadn g2) ?_
  refine jx_if_lt (pc_q := 4) (tg := 30) rfl rfl rfl (by omega) (by omega) (fun h3 => ?_) (fun h3 => ?_)
  · have _q := h3
    refine jx_ar (pc_q := 31) (st_q := [.int (i32 (0))]) rfl rfl rfl rfl ?_
    refine jx_rt (v := some (.int (i32 (0)))) rfl rfl rfl rfl rfl rfl ?_
    exact ⟨(0), rfl, rfl, by omega, trivial⟩
  · have _q := h3
    refine jx_ld (pc_q := 5) (l_q := L0) (st_q := [.int (i32 (a0))]) rfl (jl_iloadn g2) ?_
    refine jx_ld (pc_q := 6) (l_q := L0) (st_q := [rv (me), .int (i32 (a0))]) rfl (jl_rvn g1) ?_
    refine cx_gi (pc_q := 9) (c := 10) (q := 1) (v := F (me) (1 : Int)) rfl rfl (by decide) (by decide) (Or.inl rfl) rfl o_me t_me rfl ?_
    have b4 : (0 : Int) ≤ F (me) (1 : Int) ∧ F (me) (1 : Int) ≤ 3000 := by have z := HC_i (c := 10) (q := 1) hC o_me t_me (by decide) rfl; rw [show F (me) ((1 : Nat) : Int) = F (me) (1 : Int) from rfl] at z; exact z
    refine jx_icmp_ge (pc_q := 12) (tg := 30) rfl rfl rfl (by omega) (by omega) (by omega) (by omega) (fun h5 => ?_) (fun h5 => ?_)
    · have _q := h5
      refine jx_ar (pc_q := 31) (st_q := [.int (i32 (0))]) rfl rfl rfl rfl ?_
      refine jx_rt (v := some (.int (i32 (0)))) rfl rfl rfl rfl rfl rfl ?_
      exact ⟨(0), rfl, rfl, by omega, trivial⟩
    · have _q := h5
      refine jx_ld (pc_q := 13) (l_q := L0) (st_q := [.int (i32 (a0))]) rfl (jl_iloadn g2) ?_
      refine jx_ld (pc_q := 14) (l_q := L0) (st_q := [rv (me), .int (i32 (a0))]) rfl (jl_rvn g1) ?_
      refine cx_gr (pc_q := 17) (c := 10) (q := 0) (v := F (me) (0 : Int)) rfl rfl (by decide) (by decide) rfl rfl o_me t_me rfl ?_
      have y6 : own m (F (me) (0 : Int)) ∧ tg (F (me) (0 : Int)) = 20 ∧ ((3000 : Int) ≠ 0 → ln (F (me) (0 : Int)) = 3000) := by have z := HC_n (c := 10) (q := 0) hC o_me t_me (own_z o_me) (by decide) rfl; rw [show F (me) ((0 : Nat) : Int) = F (me) (0 : Int) from rfl] at z; exact ⟨z.1, z.2.1, z.2.2.1⟩
      have ly6 : ln (F (me) (0 : Int)) = 3000 := y6.2.2 (by decide)
      have b7 := HC_l hC y6.1 y6.2.1 (by decide)
      refine cx_len (pc_q := 18) rfl rfl y6.1 (by rw [y6.2.1]; decide) (by omega) ?_
      refine jx_icmp_ge (pc_q := 21) (tg := 30) rfl rfl rfl (by omega) (by omega) (by omega) (by omega) (fun h8 => ?_) (fun h8 => ?_)
      · have _q := h8
        refine jx_ar (pc_q := 31) (st_q := [.int (i32 (0))]) rfl rfl rfl rfl ?_
        refine jx_rt (v := some (.int (i32 (0)))) rfl rfl rfl rfl rfl rfl ?_
        exact ⟨(0), rfl, rfl, by omega, trivial⟩
      · have _q := h8
        refine jx_ld (pc_q := 22) (l_q := L0) (st_q := [rv (me)]) rfl (jl_rvn g1) ?_
        refine cx_gr (pc_q := 25) (c := 10) (q := 0) (v := F (me) (0 : Int)) rfl rfl (by decide) (by decide) rfl rfl o_me t_me rfl ?_
        refine jx_ld (pc_q := 26) (l_q := L0) (st_q := [.int (i32 (a0)), rv (F (me) (0 : Int))]) rfl (jl_iloadn g2) ?_
        refine cx_bal (pc_q := 27) (z := a0) rfl rfl y6.1 (Or.inl y6.2.1) (by omega) (by omega) (by omega) ?_
        have b9 : (0 : Int) ≤ F (F (me) (0 : Int)) (a0) ∧ F (F (me) (0 : Int)) (a0) ≤ 127 := by have z := HC_e (j := a0) hC y6.1 (by rw [y6.2.1]; decide) (by omega); rw [(show F (F (me) (0 : Int)) (-1) = 4 by have z := HC_n (c := 10) (q := 0) hC o_me t_me (own_z o_me) (by decide) rfl; rw [show F (me) ((0 : Nat) : Int) = F (me) (0 : Int) from rfl] at z; exact z.2.2.2 (by decide))] at z; exact z
        refine jx_go (tg := 31) rfl rfl ?_
        refine jx_rt (v := some (.int (i32 (F (F (me) (0 : Int)) (a0))))) rfl rfl rfl rfl rfl rfl ?_
        exact ⟨(F (F (me) (0 : Int)) (a0)), rfl, rfl, by omega, trivial⟩
set_option maxRecDepth 20000 in
set_option maxHeartbeats 4000000 in
theorem k_LScanner_capital {X : jX} {dd : Nat} {R : Nat → jC} {m : Nat} {tg ln : Int → Int} {F : Int → Int → Int} {a0 : Int} (hd : 1 ≤ dd) (hC : HC 0 m tg ln F) (h_a0 : (-2147483648 : Int) ≤ a0 ∧ a0 ≤ 2147483647) : wk X dd 217 [.int (i32 a0)] (cV R m tg ln F) (fun o V_q => ∃ (r : Int), V_q = cV R m tg ln F ∧ o = .inl (some (.int (i32 r))) ∧ (0 ≤ r ∧ r ≤ 1) ∧ True) := by
  obtain ⟨d, rfl⟩ : ∃ d, dd = d + 1 := ⟨dd - 1, by omega⟩
  refine wk_of (e := jm217) rfl (by rw [jS_i, jS_0]; exact Nat.le_of_ble_eq_true rfl) ?_
  rw [la_i, la_0]
  show wj X d jm217 (0, [(0, .int (i32 (a0)))], [], cV R m tg ln F) _
  obtain ⟨L0, eL0⟩ : ∃ q : jL, q = [(0, .int (i32 (a0)))] := ⟨_, rfl⟩
  rw [← eL0]
  have g1 : jGet L0 0 = some (.int (i32 (a0))) := eL0 ▸ (rfl : jGet [(0, .int (i32 (a0)))] 0 = some (.int (i32 (a0))))
  clear eL0
  refine jx_ld (pc_q := 1) (l_q := L0) (st_q := [.int (i32 (a0))]) rfl (jl_iloadn g1) ?_
  refine jx_ar (pc_q := 3) (st_q := [.int (i32 (65)), .int (i32 (a0))]) rfl rfl rfl rfl ?_
  refine jx_icmp_lt (pc_q := 6) (tg := 16) rfl rfl rfl (by omega) (by omega) (by decide) (by decide) (fun h2 => ?_) (fun h2 => ?_)
  · have _q := h2
    refine jx_ar (pc_q := 17) (st_q := [.int (i32 (0))]) rfl rfl rfl rfl ?_
    refine jx_rt (v := some (.int (i32 (0)))) rfl rfl rfl rfl rfl (by first | rfl | exact jRet_b (by omega)) ?_
    exact ⟨(0), rfl, rfl, by omega, trivial⟩
  · have _q := h2
    refine jx_ld (pc_q := 7) (l_q := L0) (st_q := [.int (i32 (a0))]) rfl (jl_iloadn g1) ?_
    refine jx_ar (pc_q := 9) (st_q := [.int (i32 (90)), .int (i32 (a0))]) rfl rfl rfl rfl ?_
    refine jx_icmp_gt (pc_q := 12) (tg := 16) rfl rfl rfl (by omega) (by omega) (by decide) (by decide) (fun h3 => ?_) (fun h3 => ?_)
    · have _q := h3
      refine jx_ar (pc_q := 17) (st_q := [.int (i32 (0))]) rfl rfl rfl rfl ?_
      refine jx_rt (v := some (.int (i32 (0)))) rfl rfl rfl rfl rfl (by first | rfl | exact jRet_b (by omega)) ?_
      exact ⟨(0), rfl, rfl, by omega, trivial⟩
    · have _q := h3
      refine jx_ar (pc_q := 13) (st_q := [.int (i32 (1))]) rfl rfl rfl rfl ?_
      refine jx_go (tg := 17) rfl rfl ?_
      refine jx_rt (v := some (.int (i32 (1)))) rfl rfl rfl rfl rfl (by first | rfl | exact jRet_b (by omega)) ?_
      exact ⟨(1), rfl, rfl, by omega, trivial⟩
set_option maxRecDepth 20000 in
set_option maxHeartbeats 4000000 in
theorem k_LScanner_digit {X : jX} {dd : Nat} {R : Nat → jC} {m : Nat} {tg ln : Int → Int} {F : Int → Int → Int} {a0 : Int} (hd : 1 ≤ dd) (hC : HC 0 m tg ln F) (h_a0 : (-2147483648 : Int) ≤ a0 ∧ a0 ≤ 2147483647) : wk X dd 218 [.int (i32 a0)] (cV R m tg ln F) (fun o V_q => ∃ (r : Int), V_q = cV R m tg ln F ∧ o = .inl (some (.int (i32 r))) ∧ (0 ≤ r ∧ r ≤ 1) ∧ True) := by
  obtain ⟨d, rfl⟩ : ∃ d, dd = d + 1 := ⟨dd - 1, by omega⟩
  refine wk_of (e := jm218) rfl (by rw [jS_i, jS_0]; exact Nat.le_of_ble_eq_true rfl) ?_
  rw [la_i, la_0]
  show wj X d jm218 (0, [(0, .int (i32 (a0)))], [], cV R m tg ln F) _
  obtain ⟨L0, eL0⟩ : ∃ q : jL, q = [(0, .int (i32 (a0)))] := ⟨_, rfl⟩
  rw [← eL0]
  have g1 : jGet L0 0 = some (.int (i32 (a0))) := eL0 ▸ (rfl : jGet [(0, .int (i32 (a0)))] 0 = some (.int (i32 (a0))))
  clear eL0
  refine jx_ld (pc_q := 1) (l_q := L0) (st_q := [.int (i32 (a0))]) rfl (jl_iloadn g1) ?_
  refine jx_ar (pc_q := 3) (st_q := [.int (i32 (48)), .int (i32 (a0))]) rfl rfl rfl rfl ?_
  refine jx_icmp_lt (pc_q := 6) (tg := 16) rfl rfl rfl (by omega) (by omega) (by decide) (by decide) (fun h2 => ?_) (fun h2 => ?_)
  · have _q := h2
    refine jx_ar (pc_q := 17) (st_q := [.int (i32 (0))]) rfl rfl rfl rfl ?_
    refine jx_rt (v := some (.int (i32 (0)))) rfl rfl rfl rfl rfl (by first | rfl | exact jRet_b (by omega)) ?_
    exact ⟨(0), rfl, rfl, by omega, trivial⟩
  · have _q := h2
    refine jx_ld (pc_q := 7) (l_q := L0) (st_q := [.int (i32 (a0))]) rfl (jl_iloadn g1) ?_
    refine jx_ar (pc_q := 9) (st_q := [.int (i32 (57)), .int (i32 (a0))]) rfl rfl rfl rfl ?_
    refine jx_icmp_gt (pc_q := 12) (tg := 16) rfl rfl rfl (by omega) (by omega) (by decide) (by decide) (fun h3 => ?_) (fun h3 => ?_)
    · have _q := h3
      refine jx_ar (pc_q := 17) (st_q := [.int (i32 (0))]) rfl rfl rfl rfl ?_
      refine jx_rt (v := some (.int (i32 (0)))) rfl rfl rfl rfl rfl (by first | rfl | exact jRet_b (by omega)) ?_
      exact ⟨(0), rfl, rfl, by omega, trivial⟩
    · have _q := h3
      refine jx_ar (pc_q := 13) (st_q := [.int (i32 (1))]) rfl rfl rfl rfl ?_
      refine jx_go (tg := 17) rfl rfl ?_
      refine jx_rt (v := some (.int (i32 (1)))) rfl rfl rfl rfl rfl (by first | rfl | exact jRet_b (by omega)) ?_
      exact ⟨(1), rfl, rfl, by omega, trivial⟩
set_option maxRecDepth 20000 in
set_option maxHeartbeats 4000000 in
theorem k_LScanner_skipBlanks_at_0 {X : jX} {d : Nat} {R : Nat → jC} {m : Nat} {tg ln : Int → Int} {F : Int → Int → Int} {me : Int} (hd : 2 ≤ d + 1) (hC : HC 0 m tg ln F) (o_me : own m me) (t_me : tg me = 11) (p_0 : F me (11 : Int) ≤ F me (10 : Int) + 1) (p_1 : F me (10 : Int) ≤ 3000) : ∀ (mm : Nat) (L : jL) (Fx : Int → Int → Int), (F me (10 : Int) + 1 - Fx me (11 : Int)).toNat = mm → jGet L 0 = some (rv (me)) → HC 0 m tg ln Fx → Fq 0 [(11, 11)] m tg F Fx → (F me (11 : Int) ≤ Fx me (11 : Int)) → (Fx me (11 : Int) ≤ F me (10 : Int) + 1) → wj X d jm214 (0, L, [], cV R m tg ln Fx) (fun o V_q => ∃ (F_q : Int → Int → Int), V_q = cV R m tg ln F_q ∧ o = .inl none ∧ HC 0 m tg ln F_q ∧ Fq 0 [(11, 11)] m tg F F_q ∧ (F me (11 : Int) ≤ F_q me (11 : Int)) ∧ (F_q me (11 : Int) ≤ F me (10 : Int) + 1) ∧ True) := by
  intro mm
  induction mm using Nat.strongRecOn with
  | ind mm ih =>
    intro L Fx hmm gL_0 hCx hMx iv_0 iv_1
    refine jx_ld (pc_q := 1) (l_q := L) (st_q := [rv (me)]) rfl (jl_rvn gL_0) ?_
    refine cx_gi (pc_q := 4) (c := 10) (q := 11) (v := Fx (me) (11 : Int)) rfl rfl (by decide) (by decide) (Or.inl rfl) rfl o_me t_me rfl ?_
    have b1 : (0 : Int) ≤ Fx (me) (11 : Int) ∧ Fx (me) (11 : Int) ≤ 3002 := by have z := HC_i (c := 10) (q := 11) hCx o_me t_me (by decide) rfl; rw [show Fx (me) ((11 : Nat) : Int) = Fx (me) (11 : Int) from rfl] at z; exact z
    refine jx_ld (pc_q := 5) (l_q := L) (st_q := [rv (me), .int (i32 (Fx (me) (11 : Int)))]) rfl (jl_rvn gL_0) ?_
    refine cx_gi (pc_q := 8) (c := 10) (q := 10) (v := F (me) (10 : Int)) rfl rfl (by decide) (by decide) (Or.inl rfl) rfl o_me t_me (show Fx (me) (10 : Int) = F (me) (10 : Int) from hMx _ _ o_me (own_z o_me) (by rw [t_me]; rfl)) ?_
    have b2 : (0 : Int) ≤ F (me) (10 : Int) ∧ F (me) (10 : Int) ≤ 3000 := by have z := HC_i (c := 10) (q := 10) hCx o_me t_me (by decide) rfl; rw [show Fx (me) ((10 : Nat) : Int) = F (me) (10 : Int) from (show Fx (me) (10 : Int) = F (me) (10 : Int) from hMx _ _ o_me (own_z o_me) (by rw [t_me]; rfl))] at z; exact z
    refine jx_icmp_ge (pc_q := 11) (tg := 37) rfl rfl rfl (by omega) (by omega) (by omega) (by omega) (fun h3 => ?_) (fun h3 => ?_)
    · have _q := h3
      refine jx_rt (v := none) rfl rfl rfl rfl rfl rfl ?_
      exact ⟨Fx, rfl, rfl, hCx, hMx, by omega, by omega, trivial⟩
    · have _q := h3
      refine jx_ld (pc_q := 12) (l_q := L) (st_q := [rv (me)]) rfl (jl_rvn gL_0) ?_
      refine jx_ld (pc_q := 13) (l_q := L) (st_q := [rv (me), rv (me)]) rfl (jl_rvn gL_0) ?_
      refine cx_gi (pc_q := 16) (c := 10) (q := 11) (v := Fx (me) (11 : Int)) rfl rfl (by decide) (by decide) (Or.inl rfl) rfl o_me t_me rfl ?_
      refine cx_vi (c := 10) (a := me) (st := []) (as := [.int (i32 (Fx (me) (11 : Int)))]) rfl rfl rfl o_me t_me (by decide) rfl ⟨rfl, rfl, (Nat.le_of_ble_eq_true rfl)⟩ rfl (k_LScanner_sign (dd := d) (R := R) (m := m) (tg := tg) (ln := ln) (F := Fx) (me := me) (a0 := Fx (me) (11 : Int)) (hd := by omega) (hC := hCx) (o_me := o_me) (t_me := t_me) (h_a0 := by omega)) (fun o V_q hq => ?_)
      obtain ⟨r4, rfl, rfl, b5, -⟩ := hq
      refine Or.inr (Or.inl ⟨_, rfl, ?_⟩)
      refine jx_ar (pc_q := 21) (st_q := [.int (i32 (32)), .int (i32 (r4))]) rfl rfl rfl rfl ?_
      refine jx_icmp_ne (pc_q := 24) (tg := 37) rfl rfl rfl (by omega) (by omega) (by decide) (by decide) (fun h6 => ?_) (fun h6 => ?_)
      · have _q := h6
        refine jx_rt (v := none) rfl rfl rfl rfl rfl rfl ?_
        exact ⟨Fx, rfl, rfl, hCx, hMx, by omega, by omega, trivial⟩
      · have _q := h6
        refine jx_ld (pc_q := 25) (l_q := L) (st_q := [rv (me)]) rfl (jl_rvn gL_0) ?_
        refine jx_ar (pc_q := 26) (st_q := [rv (me), rv (me)]) rfl rfl ja_dup rfl ?_
        refine cx_gi (pc_q := 29) (c := 10) (q := 11) (v := Fx (me) (11 : Int)) rfl rfl (by decide) (by decide) (Or.inl rfl) rfl o_me t_me rfl ?_
        refine jx_ar (pc_q := 30) (st_q := [.int (i32 (1)), .int (i32 (Fx (me) (11 : Int))), rv (me)]) rfl rfl rfl rfl ?_
        refine jx_add (pc_q := 31) rfl rfl ?_
        refine cx_pi (pc_q := 34) (c := 10) (q := 11) (qi := (11 : Int)) (z := (Fx (me) (11 : Int) + 1)) rfl rfl (by decide) (by decide) rfl rfl rfl (by decide) rfl o_me t_me rfl ?_
        obtain ⟨F7, eF7⟩ : ∃ q, q = uF Fx (me) (11 : Int) ((Fx (me) (11 : Int) + 1)) := ⟨_, rfl⟩
        rw [← eF7]
        have hC8 : HC 0 m tg ln F7 := by rw [eF7]; exact HC_fi (c := 10) (q := 11) hCx t_me (by decide) rfl (by omega) (by omega) ⟨fun _ => ⟨fun w1 w2 => absurd w2 (by omega), fun w => absurd w (by decide)⟩, fun w => absurd w (by decide)⟩
        have hM9 : Fq 0 [(11, 11)] m tg F F7 := by rw [eF7]; exact Fq_p hMx t_me (fun _ => rfl) rfl
        refine jx_go (tg := 0) rfl rfl ?_
        have q10 : F7 (me) (11 : Int) = (Fx (me) (11 : Int) + 1) := (show F7 (me) (11 : Int) = (Fx (me) (11 : Int) + 1) from by rw [eF7]; exact uF_e)
        exact ih _ (by omega) L F7 rfl gL_0 hC8 hM9 (by omega) (by omega)
set_option maxRecDepth 20000 in
set_option maxHeartbeats 4000000 in
theorem k_LScanner_skipBlanks {X : jX} {dd : Nat} {R : Nat → jC} {m : Nat} {tg ln : Int → Int} {F : Int → Int → Int} {me : Int} (hd : 2 ≤ dd) (hC : HC 0 m tg ln F) (o_me : own m me) (t_me : tg me = 11) (p_0 : F me (11 : Int) ≤ F me (10 : Int) + 1) (p_1 : F me (10 : Int) ≤ 3000) : wk X dd 214 [rv me] (cV R m tg ln F) (fun o V_q => ∃ (F_q : Int → Int → Int), V_q = cV R m tg ln F_q ∧ o = .inl none ∧ HC 0 m tg ln F_q ∧ Fq 0 [(11, 11)] m tg F F_q ∧ (F me (11 : Int) ≤ F_q me (11 : Int)) ∧ (F_q me (11 : Int) ≤ F me (10 : Int) + 1) ∧ True) := by
  obtain ⟨d, rfl⟩ : ∃ d, dd = d + 1 := ⟨dd - 1, by omega⟩
  refine wk_of (e := jm214) rfl (by rw [jS_r, jS_0]; exact Nat.le_of_ble_eq_true rfl) ?_
  rw [la_r, la_0]
  show wj X d jm214 (0, [(0, rv (me))], [], cV R m tg ln F) _
  have hM0 : Fq 0 [(11, 11)] m tg F F := Fq_r
  obtain ⟨L0, eL0⟩ : ∃ q : jL, q = [(0, rv (me))] := ⟨_, rfl⟩
  rw [← eL0]
  have g11 : jGet L0 0 = some (rv (me)) := eL0 ▸ (rfl : jGet [(0, rv (me))] 0 = some (rv (me)))
  clear eL0
  exact k_LScanner_skipBlanks_at_0 (X := X) (d := d) (R := R) (m := m) (tg := tg) (ln := ln) (F := F) (me := me) (hd := hd) (hC := hC) (o_me := o_me) (t_me := t_me) (p_0 := p_0) (p_1 := p_1) _ L0 F rfl g11 hC hM0 (by omega) (by omega)
set_option maxRecDepth 20000 in
set_option maxHeartbeats 4000000 in
theorem k_LScanner_add {X : jX} {dd : Nat} {R : Nat → jC} {m : Nat} {tg ln : Int → Int} {F : Int → Int → Int} {me kd fr : Int} {vl : Int64} (hd : 1 ≤ dd) (hC : HC 0 m tg ln F) (o_me : own m me) (t_me : tg me = 11) (h_kd : (-2147483648 : Int) ≤ kd ∧ kd ≤ 2147483647) (h_fr : (-2147483648 : Int) ≤ fr ∧ fr ≤ 2147483647) : wk X dd 215 [rv me, .int (i32 kd), .int (i32 fr), .long vl] (cV R m tg ln F) (fun o V_q => ∃ (F_q : Int → Int → Int), V_q = cV R m tg ln F_q ∧ o = .inl none ∧ HC 0 m tg ln F_q ∧ Fq 0 [(11, 7), (20, -5), (21, -5), (22, -5)] m tg F F_q ∧ True) := by
  obtain ⟨d, rfl⟩ : ∃ d, dd = d + 1 := ⟨dd - 1, by omega⟩
  refine wk_of (e := jm215) rfl (by rw [jS_r, jS_i, jS_i, jS_l, jS_0]; exact Nat.le_of_ble_eq_true rfl) ?_
  rw [la_r, la_i, la_i, la_l, la_0]
  show wj X d jm215 (0, [(0, rv (me)), (1, .int (i32 (kd))), (2, .int (i32 (fr))), (3, .long (vl))], [], cV R m tg ln F) _
  have hM0 : Fq 0 [(11, 7), (20, -5), (21, -5), (22, -5)] m tg F F := Fq_r
  obtain ⟨L0, eL0⟩ : ∃ q : jL, q = [(0, rv (me)), (1, .int (i32 (kd))), (2, .int (i32 (fr))), (3, .long (vl))] := ⟨_, rfl⟩
  rw [← eL0]
  have g1 : jGet L0 0 = some (rv (me)) := eL0 ▸ (rfl : jGet [(0, rv (me)), (1, .int (i32 (kd))), (2, .int (i32 (fr))), (3, .long (vl))] 0 = some (rv (me)))
  have g2 : jGet L0 1 = some (.int (i32 (kd))) := eL0 ▸ (rfl : jGet [(0, rv (me)), (1, .int (i32 (kd))), (2, .int (i32 (fr))), (3, .long (vl))] 1 = some (.int (i32 (kd))))
  have g3 : jGet L0 2 = some (.int (i32 (fr))) := eL0 ▸ (rfl : jGet [(0, rv (me)), (1, .int (i32 (kd))), (2, .int (i32 (fr))), (3, .long (vl))] 2 = some (.int (i32 (fr))))
  have g4 : jGet L0 3 = some (.long (vl)) := eL0 ▸ (rfl : jGet [(0, rv (me)), (1, .int (i32 (kd))), (2, .int (i32 (fr))), (3, .long (vl))] 3 = some (.long (vl)))
  clear eL0
  refine jx_ld (pc_q := 1) (l_q := L0) (st_q := [rv (me)]) rfl (jl_rvn g1) ?_
  refine cx_gi (pc_q := 4) (c := 10) (q := 7) (v := F (me) (7 : Int)) rfl rfl (by decide) (by decide) (Or.inl rfl) rfl o_me t_me rfl ?_
  have b5 : (0 : Int) ≤ F (me) (7 : Int) ∧ F (me) (7 : Int) ≤ 1000000 := by have z := HC_i (c := 10) (q := 7) hC o_me t_me (by decide) rfl; rw [show F (me) ((7 : Nat) : Int) = F (me) (7 : Int) from rfl] at z; exact z
  refine jx_ld (pc_q := 5) (l_q := L0) (st_q := [rv (me), .int (i32 (F (me) (7 : Int)))]) rfl (jl_rvn g1) ?_
  refine cx_gr (pc_q := 8) (c := 10) (q := 2) (v := F (me) (2 : Int)) rfl rfl (by decide) (by decide) rfl rfl o_me t_me rfl ?_
  have y6 : own m (F (me) (2 : Int)) ∧ tg (F (me) (2 : Int)) = 20 ∧ ((0 : Int) ≠ 0 → ln (F (me) (2 : Int)) = 0) := by have z := HC_n (c := 10) (q := 2) hC o_me t_me (own_z o_me) (by decide) rfl; rw [show F (me) ((2 : Nat) : Int) = F (me) (2 : Int) from rfl] at z; exact ⟨z.1, z.2.1, z.2.2.1⟩
  have b7 := HC_l hC y6.1 y6.2.1 (by decide)
  refine cx_len (pc_q := 9) rfl rfl y6.1 (by rw [y6.2.1]; decide) (by omega) ?_
  refine jx_icmp_ge (pc_q := 12) (tg := 85) rfl rfl rfl (by omega) (by omega) (by omega) (by omega) (fun h8 => ?_) (fun h8 => ?_)
  · have _q := h8
    refine jx_rt (v := none) rfl rfl rfl rfl rfl rfl ?_
    exact ⟨F, rfl, rfl, hC, hM0, trivial⟩
  · have _q := h8
    refine jx_ld (pc_q := 13) (l_q := L0) (st_q := [rv (me)]) rfl (jl_rvn g1) ?_
    refine cx_gr (pc_q := 16) (c := 10) (q := 2) (v := F (me) (2 : Int)) rfl rfl (by decide) (by decide) rfl rfl o_me t_me rfl ?_
    refine jx_ld (pc_q := 17) (l_q := L0) (st_q := [rv (me), rv (F (me) (2 : Int))]) rfl (jl_rvn g1) ?_
    refine cx_gi (pc_q := 20) (c := 10) (q := 7) (v := F (me) (7 : Int)) rfl rfl (by decide) (by decide) (Or.inl rfl) rfl o_me t_me rfl ?_
    refine jx_ld (pc_q := 21) (l_q := L0) (st_q := [.int (i32 (kd)), .int (i32 (F (me) (7 : Int))), rv (F (me) (2 : Int))]) rfl (jl_iloadn g2) ?_
    refine cx_i2b (pc_q := 22) rfl rfl (fun r9 hr9 kr9 => ?_)
    refine cx_bas2 (pc_q := 23) (z := F (me) (7 : Int)) (y := r9) rfl rfl y6.1 y6.2.1 (by omega) (by omega) (by omega) (fun w10 hw10 kw10 => ?_)
    have qw10 : w10 = r9 := kw10 (by omega) (by omega)
    obtain ⟨F11, eF11⟩ : ∃ q, q = uF F (F (me) (2 : Int)) (F (me) (7 : Int)) (w10) := ⟨_, rfl⟩
    rw [← eF11]
    have hC12 : HC 0 m tg ln F11 := by rw [eF11]; exact HC_pi hC y6.1 y6.2.1 (by decide) (by omega) (by rw [(show F (F (me) (2 : Int)) (-1) = 0 by have z := HC_n (c := 10) (q := 2) hC o_me t_me (own_z o_me) (by decide) rfl; rw [show F (me) ((2 : Nat) : Int) = F (me) (2 : Int) from rfl] at z; exact z.2.2.2 (by decide))]; exact ⟨(by show (-2147483648 : Int) ≤ _; omega), (by show _ ≤ (2147483647 : Int); omega)⟩)
    have hM13 : Fq 0 [(11, 7), (20, -5), (21, -5), (22, -5)] m tg F F11 := by rw [eF11]; exact Fq_p hM0 y6.2.1 (fun _ => rfl) (inL_a rfl (by omega) rfl)
    refine jx_ld (pc_q := 24) (l_q := L0) (st_q := [rv (me)]) rfl (jl_rvn g1) ?_
    refine cx_gr (pc_q := 27) (c := 10) (q := 3) (v := F (me) (3 : Int)) rfl rfl (by decide) (by decide) rfl rfl o_me t_me (show F11 (me) (3 : Int) = F (me) (3 : Int) from by rw [eF11]; exact uF_a (fun w => by have q1 := t_me; have q2 := y6.2.1; rw [w, q2] at q1; exact absurd q1 (by decide))) ?_
    have y14 : own m (F (me) (3 : Int)) ∧ tg (F (me) (3 : Int)) = 21 ∧ ((0 : Int) ≠ 0 → ln (F (me) (3 : Int)) = 0) := by have z := HC_n (c := 10) (q := 3) hC12 o_me t_me (own_z o_me) (by decide) rfl; rw [show F11 (me) ((3 : Nat) : Int) = F (me) (3 : Int) from (show F11 (me) (3 : Int) = F (me) (3 : Int) from by rw [eF11]; exact uF_a (fun w => by have q1 := t_me; have q2 := y6.2.1; rw [w, q2] at q1; exact absurd q1 (by decide)))] at z; exact ⟨z.1, z.2.1, z.2.2.1⟩
    have x15 := (hC12.2.2.2.2.2 (me) o_me (own_z o_me)).1 t_me
    rw [show F11 (me) (2 : Int) = F (me) (2 : Int) from (show F11 (me) (2 : Int) = F (me) (2 : Int) from by rw [eF11]; exact uF_a (fun w => by have q1 := t_me; have q2 := y6.2.1; rw [w, q2] at q1; exact absurd q1 (by decide)))] at x15
    rw [show F11 (me) (3 : Int) = F (me) (3 : Int) from (show F11 (me) (3 : Int) = F (me) (3 : Int) from by rw [eF11]; exact uF_a (fun w => by have q1 := t_me; have q2 := y6.2.1; rw [w, q2] at q1; exact absurd q1 (by decide)))] at x15
    rw [show F11 (me) (4 : Int) = F (me) (4 : Int) from (show F11 (me) (4 : Int) = F (me) (4 : Int) from by rw [eF11]; exact uF_a (fun w => by have q1 := t_me; have q2 := y6.2.1; rw [w, q2] at q1; exact absurd q1 (by decide)))] at x15
    rw [show F11 (me) (5 : Int) = F (me) (5 : Int) from (show F11 (me) (5 : Int) = F (me) (5 : Int) from by rw [eF11]; exact uF_a (fun w => by have q1 := t_me; have q2 := y6.2.1; rw [w, q2] at q1; exact absurd q1 (by decide)))] at x15
    rw [show F11 (me) (6 : Int) = F (me) (6 : Int) from (show F11 (me) (6 : Int) = F (me) (6 : Int) from by rw [eF11]; exact uF_a (fun w => by have q1 := t_me; have q2 := y6.2.1; rw [w, q2] at q1; exact absurd q1 (by decide)))] at x15
    rw [show F11 (me) (7 : Int) = F (me) (7 : Int) from (show F11 (me) (7 : Int) = F (me) (7 : Int) from by rw [eF11]; exact uF_a (fun w => by have q1 := t_me; have q2 := y6.2.1; rw [w, q2] at q1; exact absurd q1 (by decide)))] at x15
    refine jx_ld (pc_q := 28) (l_q := L0) (st_q := [rv (me), rv (F (me) (3 : Int))]) rfl (jl_rvn g1) ?_
    refine cx_gi (pc_q := 31) (c := 10) (q := 7) (v := F (me) (7 : Int)) rfl rfl (by decide) (by decide) (Or.inl rfl) rfl o_me t_me (show F11 (me) (7 : Int) = F (me) (7 : Int) from by rw [eF11]; exact uF_a (fun w => by have q1 := t_me; have q2 := y6.2.1; rw [w, q2] at q1; exact absurd q1 (by decide))) ?_
    refine jx_ld (pc_q := 32) (l_q := L0) (st_q := [.int (i32 (fr)), .int (i32 (F (me) (7 : Int))), rv (F (me) (3 : Int))]) rfl (jl_iloadn g3) ?_
    refine jx_ld (pc_q := 33) (l_q := L0) (st_q := [rv (me), .int (i32 (fr)), .int (i32 (F (me) (7 : Int))), rv (F (me) (3 : Int))]) rfl (jl_rvn g1) ?_
    refine cx_gi (pc_q := 36) (c := 10) (q := 9) (v := F (me) (9 : Int)) rfl rfl (by decide) (by decide) (Or.inl rfl) rfl o_me t_me (show F11 (me) (9 : Int) = F (me) (9 : Int) from by rw [eF11]; exact uF_a (fun w => by have q1 := t_me; have q2 := y6.2.1; rw [w, q2] at q1; exact absurd q1 (by decide))) ?_
    have b16 : (0 : Int) ≤ F (me) (9 : Int) ∧ F (me) (9 : Int) ≤ 3000 := by have z := HC_i (c := 10) (q := 9) hC12 o_me t_me (by decide) rfl; rw [show F11 (me) ((9 : Nat) : Int) = F (me) (9 : Int) from (show F11 (me) (9 : Int) = F (me) (9 : Int) from by rw [eF11]; exact uF_a (fun w => by have q1 := t_me; have q2 := y6.2.1; rw [w, q2] at q1; exact absurd q1 (by decide)))] at z; exact z
    refine jx_sub (pc_q := 37) rfl rfl ?_
    obtain ⟨z17, ez17⟩ : ∃ q, q = (i32 ((fr - F (me) (9 : Int)))).toInt := ⟨_, rfl⟩
    have bz17 : (-2147483648 : Int) ≤ z17 ∧ z17 ≤ 2147483647 := ez17 ▸ i32_rg _
    rw [show i32 ((fr - F (me) (9 : Int))) = i32 z17 by rw [ez17, i32_of]]
    clear ez17
    have b18 := HC_l hC12 y14.1 y14.2.1 (by decide)
    refine cx_ias (pc_q := 38) (z := F (me) (7 : Int)) (y := z17) rfl rfl y14.1 y14.2.1 (by omega) (by omega) (by omega) ?_
    obtain ⟨F19, eF19⟩ : ∃ q, q = uF F11 (F (me) (3 : Int)) (F (me) (7 : Int)) (z17) := ⟨_, rfl⟩
    rw [← eF19]
    have hC20 : HC 0 m tg ln F19 := by rw [eF19]; exact HC_pi hC12 y14.1 y14.2.1 (by decide) (by omega) (by rw [(show F11 (F (me) (3 : Int)) (-1) = 0 by have z := HC_n (c := 10) (q := 3) hC12 o_me t_me (own_z o_me) (by decide) rfl; rw [show F11 (me) ((3 : Nat) : Int) = F (me) (3 : Int) from (show F11 (me) (3 : Int) = F (me) (3 : Int) from by rw [eF11]; exact uF_a (fun w => by have q1 := t_me; have q2 := y6.2.1; rw [w, q2] at q1; exact absurd q1 (by decide)))] at z; exact z.2.2.2 (by decide))]; exact ⟨(by show (-2147483648 : Int) ≤ _; omega), (by show _ ≤ (2147483647 : Int); omega)⟩)
    have hM21 : Fq 0 [(11, 7), (20, -5), (21, -5), (22, -5)] m tg F F19 := by rw [eF19]; exact Fq_p hM13 y14.2.1 (fun _ => rfl) (inL_a rfl (by omega) rfl)
    refine jx_ld (pc_q := 39) (l_q := L0) (st_q := [rv (me)]) rfl (jl_rvn g1) ?_
    refine cx_gr (pc_q := 42) (c := 10) (q := 4) (v := F (me) (4 : Int)) rfl rfl (by decide) (by decide) rfl rfl o_me t_me ((show F19 (me) (4 : Int) = F11 (me) (4 : Int) from by rw [eF19]; exact uF_a (fun w => by have q1 := t_me; have q2 := y14.2.1; rw [w, q2] at q1; exact absurd q1 (by decide))).trans (show F11 (me) (4 : Int) = F (me) (4 : Int) from by rw [eF11]; exact uF_a (fun w => by have q1 := t_me; have q2 := y6.2.1; rw [w, q2] at q1; exact absurd q1 (by decide)))) ?_
    have y22 : own m (F (me) (4 : Int)) ∧ tg (F (me) (4 : Int)) = 22 ∧ ((0 : Int) ≠ 0 → ln (F (me) (4 : Int)) = 0) := by have z := HC_n (c := 10) (q := 4) hC20 o_me t_me (own_z o_me) (by decide) rfl; rw [show F19 (me) ((4 : Nat) : Int) = F (me) (4 : Int) from ((show F19 (me) (4 : Int) = F11 (me) (4 : Int) from by rw [eF19]; exact uF_a (fun w => by have q1 := t_me; have q2 := y14.2.1; rw [w, q2] at q1; exact absurd q1 (by decide))).trans (show F11 (me) (4 : Int) = F (me) (4 : Int) from by rw [eF11]; exact uF_a (fun w => by have q1 := t_me; have q2 := y6.2.1; rw [w, q2] at q1; exact absurd q1 (by decide))))] at z; exact ⟨z.1, z.2.1, z.2.2.1⟩
    have x23 := (hC20.2.2.2.2.2 (me) o_me (own_z o_me)).1 t_me
    rw [show F19 (me) (2 : Int) = F (me) (2 : Int) from ((show F19 (me) (2 : Int) = F11 (me) (2 : Int) from by rw [eF19]; exact uF_a (fun w => by have q1 := t_me; have q2 := y14.2.1; rw [w, q2] at q1; exact absurd q1 (by decide))).trans (show F11 (me) (2 : Int) = F (me) (2 : Int) from by rw [eF11]; exact uF_a (fun w => by have q1 := t_me; have q2 := y6.2.1; rw [w, q2] at q1; exact absurd q1 (by decide))))] at x23
    rw [show F19 (me) (3 : Int) = F (me) (3 : Int) from ((show F19 (me) (3 : Int) = F11 (me) (3 : Int) from by rw [eF19]; exact uF_a (fun w => by have q1 := t_me; have q2 := y14.2.1; rw [w, q2] at q1; exact absurd q1 (by decide))).trans (show F11 (me) (3 : Int) = F (me) (3 : Int) from by rw [eF11]; exact uF_a (fun w => by have q1 := t_me; have q2 := y6.2.1; rw [w, q2] at q1; exact absurd q1 (by decide))))] at x23
    rw [show F19 (me) (4 : Int) = F (me) (4 : Int) from ((show F19 (me) (4 : Int) = F11 (me) (4 : Int) from by rw [eF19]; exact uF_a (fun w => by have q1 := t_me; have q2 := y14.2.1; rw [w, q2] at q1; exact absurd q1 (by decide))).trans (show F11 (me) (4 : Int) = F (me) (4 : Int) from by rw [eF11]; exact uF_a (fun w => by have q1 := t_me; have q2 := y6.2.1; rw [w, q2] at q1; exact absurd q1 (by decide))))] at x23
    rw [show F19 (me) (5 : Int) = F (me) (5 : Int) from ((show F19 (me) (5 : Int) = F11 (me) (5 : Int) from by rw [eF19]; exact uF_a (fun w => by have q1 := t_me; have q2 := y14.2.1; rw [w, q2] at q1; exact absurd q1 (by decide))).trans (show F11 (me) (5 : Int) = F (me) (5 : Int) from by rw [eF11]; exact uF_a (fun w => by have q1 := t_me; have q2 := y6.2.1; rw [w, q2] at q1; exact absurd q1 (by decide))))] at x23
    rw [show F19 (me) (6 : Int) = F (me) (6 : Int) from ((show F19 (me) (6 : Int) = F11 (me) (6 : Int) from by rw [eF19]; exact uF_a (fun w => by have q1 := t_me; have q2 := y14.2.1; rw [w, q2] at q1; exact absurd q1 (by decide))).trans (show F11 (me) (6 : Int) = F (me) (6 : Int) from by rw [eF11]; exact uF_a (fun w => by have q1 := t_me; have q2 := y6.2.1; rw [w, q2] at q1; exact absurd q1 (by decide))))] at x23
    rw [show F19 (me) (7 : Int) = F (me) (7 : Int) from ((show F19 (me) (7 : Int) = F11 (me) (7 : Int) from by rw [eF19]; exact uF_a (fun w => by have q1 := t_me; have q2 := y14.2.1; rw [w, q2] at q1; exact absurd q1 (by decide))).trans (show F11 (me) (7 : Int) = F (me) (7 : Int) from by rw [eF11]; exact uF_a (fun w => by have q1 := t_me; have q2 := y6.2.1; rw [w, q2] at q1; exact absurd q1 (by decide))))] at x23
    refine jx_ld (pc_q := 43) (l_q := L0) (st_q := [rv (me), rv (F (me) (4 : Int))]) rfl (jl_rvn g1) ?_
    refine cx_gi (pc_q := 46) (c := 10) (q := 7) (v := F (me) (7 : Int)) rfl rfl (by decide) (by decide) (Or.inl rfl) rfl o_me t_me ((show F19 (me) (7 : Int) = F11 (me) (7 : Int) from by rw [eF19]; exact uF_a (fun w => by have q1 := t_me; have q2 := y14.2.1; rw [w, q2] at q1; exact absurd q1 (by decide))).trans (show F11 (me) (7 : Int) = F (me) (7 : Int) from by rw [eF11]; exact uF_a (fun w => by have q1 := t_me; have q2 := y6.2.1; rw [w, q2] at q1; exact absurd q1 (by decide)))) ?_
    refine jx_ld (pc_q := 47) (l_q := L0) (st_q := [.long (vl), .int (i32 (F (me) (7 : Int))), rv (F (me) (4 : Int))]) rfl (jl_lloadn g4) ?_
    have b24 := HC_l hC20 y22.1 y22.2.1 (by decide)
    refine cx_las (pc_q := 48) (z := F (me) (7 : Int)) (y := vl) rfl rfl y22.1 y22.2.1 (by omega) (by omega) (by omega) ?_
    obtain ⟨F25, eF25⟩ : ∃ q, q = uF F19 (F (me) (4 : Int)) (F (me) (7 : Int)) ((vl : Int64).toInt) := ⟨_, rfl⟩
    rw [← eF25]
    have hC26 : HC 0 m tg ln F25 := by rw [eF25]; exact HC_pl hC20 y22.2.1 (by omega)
    have hM27 : Fq 0 [(11, 7), (20, -5), (21, -5), (22, -5)] m tg F F25 := by rw [eF25]; exact Fq_p hM21 y22.2.1 (fun _ => rfl) (inL_a rfl (by omega) rfl)
    refine jx_ld (pc_q := 49) (l_q := L0) (st_q := [rv (me)]) rfl (jl_rvn g1) ?_
    refine cx_gr (pc_q := 52) (c := 10) (q := 5) (v := F (me) (5 : Int)) rfl rfl (by decide) (by decide) rfl rfl o_me t_me ((show F25 (me) (5 : Int) = F19 (me) (5 : Int) from by rw [eF25]; exact uF_a (fun w => by have q1 := t_me; have q2 := y22.2.1; rw [w, q2] at q1; exact absurd q1 (by decide))).trans ((show F19 (me) (5 : Int) = F11 (me) (5 : Int) from by rw [eF19]; exact uF_a (fun w => by have q1 := t_me; have q2 := y14.2.1; rw [w, q2] at q1; exact absurd q1 (by decide))).trans (show F11 (me) (5 : Int) = F (me) (5 : Int) from by rw [eF11]; exact uF_a (fun w => by have q1 := t_me; have q2 := y6.2.1; rw [w, q2] at q1; exact absurd q1 (by decide))))) ?_
    have y28 : own m (F (me) (5 : Int)) ∧ tg (F (me) (5 : Int)) = 21 ∧ ((0 : Int) ≠ 0 → ln (F (me) (5 : Int)) = 0) := by have z := HC_n (c := 10) (q := 5) hC26 o_me t_me (own_z o_me) (by decide) rfl; rw [show F25 (me) ((5 : Nat) : Int) = F (me) (5 : Int) from ((show F25 (me) (5 : Int) = F19 (me) (5 : Int) from by rw [eF25]; exact uF_a (fun w => by have q1 := t_me; have q2 := y22.2.1; rw [w, q2] at q1; exact absurd q1 (by decide))).trans ((show F19 (me) (5 : Int) = F11 (me) (5 : Int) from by rw [eF19]; exact uF_a (fun w => by have q1 := t_me; have q2 := y14.2.1; rw [w, q2] at q1; exact absurd q1 (by decide))).trans (show F11 (me) (5 : Int) = F (me) (5 : Int) from by rw [eF11]; exact uF_a (fun w => by have q1 := t_me; have q2 := y6.2.1; rw [w, q2] at q1; exact absurd q1 (by decide)))))] at z; exact ⟨z.1, z.2.1, z.2.2.1⟩
    have x29 := (hC26.2.2.2.2.2 (me) o_me (own_z o_me)).1 t_me
    rw [show F25 (me) (2 : Int) = F (me) (2 : Int) from ((show F25 (me) (2 : Int) = F19 (me) (2 : Int) from by rw [eF25]; exact uF_a (fun w => by have q1 := t_me; have q2 := y22.2.1; rw [w, q2] at q1; exact absurd q1 (by decide))).trans ((show F19 (me) (2 : Int) = F11 (me) (2 : Int) from by rw [eF19]; exact uF_a (fun w => by have q1 := t_me; have q2 := y14.2.1; rw [w, q2] at q1; exact absurd q1 (by decide))).trans (show F11 (me) (2 : Int) = F (me) (2 : Int) from by rw [eF11]; exact uF_a (fun w => by have q1 := t_me; have q2 := y6.2.1; rw [w, q2] at q1; exact absurd q1 (by decide)))))] at x29
    rw [show F25 (me) (3 : Int) = F (me) (3 : Int) from ((show F25 (me) (3 : Int) = F19 (me) (3 : Int) from by rw [eF25]; exact uF_a (fun w => by have q1 := t_me; have q2 := y22.2.1; rw [w, q2] at q1; exact absurd q1 (by decide))).trans ((show F19 (me) (3 : Int) = F11 (me) (3 : Int) from by rw [eF19]; exact uF_a (fun w => by have q1 := t_me; have q2 := y14.2.1; rw [w, q2] at q1; exact absurd q1 (by decide))).trans (show F11 (me) (3 : Int) = F (me) (3 : Int) from by rw [eF11]; exact uF_a (fun w => by have q1 := t_me; have q2 := y6.2.1; rw [w, q2] at q1; exact absurd q1 (by decide)))))] at x29
    rw [show F25 (me) (4 : Int) = F (me) (4 : Int) from ((show F25 (me) (4 : Int) = F19 (me) (4 : Int) from by rw [eF25]; exact uF_a (fun w => by have q1 := t_me; have q2 := y22.2.1; rw [w, q2] at q1; exact absurd q1 (by decide))).trans ((show F19 (me) (4 : Int) = F11 (me) (4 : Int) from by rw [eF19]; exact uF_a (fun w => by have q1 := t_me; have q2 := y14.2.1; rw [w, q2] at q1; exact absurd q1 (by decide))).trans (show F11 (me) (4 : Int) = F (me) (4 : Int) from by rw [eF11]; exact uF_a (fun w => by have q1 := t_me; have q2 := y6.2.1; rw [w, q2] at q1; exact absurd q1 (by decide)))))] at x29
    rw [show F25 (me) (5 : Int) = F (me) (5 : Int) from ((show F25 (me) (5 : Int) = F19 (me) (5 : Int) from by rw [eF25]; exact uF_a (fun w => by have q1 := t_me; have q2 := y22.2.1; rw [w, q2] at q1; exact absurd q1 (by decide))).trans ((show F19 (me) (5 : Int) = F11 (me) (5 : Int) from by rw [eF19]; exact uF_a (fun w => by have q1 := t_me; have q2 := y14.2.1; rw [w, q2] at q1; exact absurd q1 (by decide))).trans (show F11 (me) (5 : Int) = F (me) (5 : Int) from by rw [eF11]; exact uF_a (fun w => by have q1 := t_me; have q2 := y6.2.1; rw [w, q2] at q1; exact absurd q1 (by decide)))))] at x29
    rw [show F25 (me) (6 : Int) = F (me) (6 : Int) from ((show F25 (me) (6 : Int) = F19 (me) (6 : Int) from by rw [eF25]; exact uF_a (fun w => by have q1 := t_me; have q2 := y22.2.1; rw [w, q2] at q1; exact absurd q1 (by decide))).trans ((show F19 (me) (6 : Int) = F11 (me) (6 : Int) from by rw [eF19]; exact uF_a (fun w => by have q1 := t_me; have q2 := y14.2.1; rw [w, q2] at q1; exact absurd q1 (by decide))).trans (show F11 (me) (6 : Int) = F (me) (6 : Int) from by rw [eF11]; exact uF_a (fun w => by have q1 := t_me; have q2 := y6.2.1; rw [w, q2] at q1; exact absurd q1 (by decide)))))] at x29
    rw [show F25 (me) (7 : Int) = F (me) (7 : Int) from ((show F25 (me) (7 : Int) = F19 (me) (7 : Int) from by rw [eF25]; exact uF_a (fun w => by have q1 := t_me; have q2 := y22.2.1; rw [w, q2] at q1; exact absurd q1 (by decide))).trans ((show F19 (me) (7 : Int) = F11 (me) (7 : Int) from by rw [eF19]; exact uF_a (fun w => by have q1 := t_me; have q2 := y14.2.1; rw [w, q2] at q1; exact absurd q1 (by decide))).trans (show F11 (me) (7 : Int) = F (me) (7 : Int) from by rw [eF11]; exact uF_a (fun w => by have q1 := t_me; have q2 := y6.2.1; rw [w, q2] at q1; exact absurd q1 (by decide)))))] at x29
    refine jx_ld (pc_q := 53) (l_q := L0) (st_q := [rv (me), rv (F (me) (5 : Int))]) rfl (jl_rvn g1) ?_
    refine cx_gi (pc_q := 56) (c := 10) (q := 7) (v := F (me) (7 : Int)) rfl rfl (by decide) (by decide) (Or.inl rfl) rfl o_me t_me ((show F25 (me) (7 : Int) = F19 (me) (7 : Int) from by rw [eF25]; exact uF_a (fun w => by have q1 := t_me; have q2 := y22.2.1; rw [w, q2] at q1; exact absurd q1 (by decide))).trans ((show F19 (me) (7 : Int) = F11 (me) (7 : Int) from by rw [eF19]; exact uF_a (fun w => by have q1 := t_me; have q2 := y14.2.1; rw [w, q2] at q1; exact absurd q1 (by decide))).trans (show F11 (me) (7 : Int) = F (me) (7 : Int) from by rw [eF11]; exact uF_a (fun w => by have q1 := t_me; have q2 := y6.2.1; rw [w, q2] at q1; exact absurd q1 (by decide))))) ?_
    refine jx_ld (pc_q := 57) (l_q := L0) (st_q := [rv (me), .int (i32 (F (me) (7 : Int))), rv (F (me) (5 : Int))]) rfl (jl_rvn g1) ?_
    refine cx_gi (pc_q := 60) (c := 10) (q := 13) (v := F (me) (13 : Int)) rfl rfl (by decide) (by decide) (Or.inl rfl) rfl o_me t_me ((show F25 (me) (13 : Int) = F19 (me) (13 : Int) from by rw [eF25]; exact uF_a (fun w => by have q1 := t_me; have q2 := y22.2.1; rw [w, q2] at q1; exact absurd q1 (by decide))).trans ((show F19 (me) (13 : Int) = F11 (me) (13 : Int) from by rw [eF19]; exact uF_a (fun w => by have q1 := t_me; have q2 := y14.2.1; rw [w, q2] at q1; exact absurd q1 (by decide))).trans (show F11 (me) (13 : Int) = F (me) (13 : Int) from by rw [eF11]; exact uF_a (fun w => by have q1 := t_me; have q2 := y6.2.1; rw [w, q2] at q1; exact absurd q1 (by decide))))) ?_
    have b30 : (-2147483648 : Int) ≤ F (me) (13 : Int) ∧ F (me) (13 : Int) ≤ 2147483647 := by have z := HC_i (c := 10) (q := 13) hC26 o_me t_me (by decide) rfl; rw [show F25 (me) ((13 : Nat) : Int) = F (me) (13 : Int) from ((show F25 (me) (13 : Int) = F19 (me) (13 : Int) from by rw [eF25]; exact uF_a (fun w => by have q1 := t_me; have q2 := y22.2.1; rw [w, q2] at q1; exact absurd q1 (by decide))).trans ((show F19 (me) (13 : Int) = F11 (me) (13 : Int) from by rw [eF19]; exact uF_a (fun w => by have q1 := t_me; have q2 := y14.2.1; rw [w, q2] at q1; exact absurd q1 (by decide))).trans (show F11 (me) (13 : Int) = F (me) (13 : Int) from by rw [eF11]; exact uF_a (fun w => by have q1 := t_me; have q2 := y6.2.1; rw [w, q2] at q1; exact absurd q1 (by decide)))))] at z; exact z
    have b31 := HC_l hC26 y28.1 y28.2.1 (by decide)
    refine cx_ias (pc_q := 61) (z := F (me) (7 : Int)) (y := F (me) (13 : Int)) rfl rfl y28.1 y28.2.1 (by omega) (by omega) (by omega) ?_
    obtain ⟨F32, eF32⟩ : ∃ q, q = uF F25 (F (me) (5 : Int)) (F (me) (7 : Int)) (F (me) (13 : Int)) := ⟨_, rfl⟩
    rw [← eF32]
    have hC33 : HC 0 m tg ln F32 := by rw [eF32]; exact HC_pi hC26 y28.1 y28.2.1 (by decide) (by omega) (by rw [(show F25 (F (me) (5 : Int)) (-1) = 0 by have z := HC_n (c := 10) (q := 5) hC26 o_me t_me (own_z o_me) (by decide) rfl; rw [show F25 (me) ((5 : Nat) : Int) = F (me) (5 : Int) from ((show F25 (me) (5 : Int) = F19 (me) (5 : Int) from by rw [eF25]; exact uF_a (fun w => by have q1 := t_me; have q2 := y22.2.1; rw [w, q2] at q1; exact absurd q1 (by decide))).trans ((show F19 (me) (5 : Int) = F11 (me) (5 : Int) from by rw [eF19]; exact uF_a (fun w => by have q1 := t_me; have q2 := y14.2.1; rw [w, q2] at q1; exact absurd q1 (by decide))).trans (show F11 (me) (5 : Int) = F (me) (5 : Int) from by rw [eF11]; exact uF_a (fun w => by have q1 := t_me; have q2 := y6.2.1; rw [w, q2] at q1; exact absurd q1 (by decide)))))] at z; exact z.2.2.2 (by decide))]; exact ⟨(by show (-2147483648 : Int) ≤ _; omega), (by show _ ≤ (2147483647 : Int); omega)⟩)
    have hM34 : Fq 0 [(11, 7), (20, -5), (21, -5), (22, -5)] m tg F F32 := by rw [eF32]; exact Fq_p hM27 y28.2.1 (fun _ => rfl) (inL_a rfl (by omega) rfl)
    refine jx_ld (pc_q := 62) (l_q := L0) (st_q := [rv (me)]) rfl (jl_rvn g1) ?_
    refine cx_gr (pc_q := 65) (c := 10) (q := 6) (v := F (me) (6 : Int)) rfl rfl (by decide) (by decide) rfl rfl o_me t_me ((show F32 (me) (6 : Int) = F25 (me) (6 : Int) from by rw [eF32]; exact uF_a (fun w => by have q1 := t_me; have q2 := y28.2.1; rw [w, q2] at q1; exact absurd q1 (by decide))).trans ((show F25 (me) (6 : Int) = F19 (me) (6 : Int) from by rw [eF25]; exact uF_a (fun w => by have q1 := t_me; have q2 := y22.2.1; rw [w, q2] at q1; exact absurd q1 (by decide))).trans ((show F19 (me) (6 : Int) = F11 (me) (6 : Int) from by rw [eF19]; exact uF_a (fun w => by have q1 := t_me; have q2 := y14.2.1; rw [w, q2] at q1; exact absurd q1 (by decide))).trans (show F11 (me) (6 : Int) = F (me) (6 : Int) from by rw [eF11]; exact uF_a (fun w => by have q1 := t_me; have q2 := y6.2.1; rw [w, q2] at q1; exact absurd q1 (by decide)))))) ?_
    have y35 : own m (F (me) (6 : Int)) ∧ tg (F (me) (6 : Int)) = 20 ∧ ((0 : Int) ≠ 0 → ln (F (me) (6 : Int)) = 0) := by have z := HC_n (c := 10) (q := 6) hC33 o_me t_me (own_z o_me) (by decide) rfl; rw [show F32 (me) ((6 : Nat) : Int) = F (me) (6 : Int) from ((show F32 (me) (6 : Int) = F25 (me) (6 : Int) from by rw [eF32]; exact uF_a (fun w => by have q1 := t_me; have q2 := y28.2.1; rw [w, q2] at q1; exact absurd q1 (by decide))).trans ((show F25 (me) (6 : Int) = F19 (me) (6 : Int) from by rw [eF25]; exact uF_a (fun w => by have q1 := t_me; have q2 := y22.2.1; rw [w, q2] at q1; exact absurd q1 (by decide))).trans ((show F19 (me) (6 : Int) = F11 (me) (6 : Int) from by rw [eF19]; exact uF_a (fun w => by have q1 := t_me; have q2 := y14.2.1; rw [w, q2] at q1; exact absurd q1 (by decide))).trans (show F11 (me) (6 : Int) = F (me) (6 : Int) from by rw [eF11]; exact uF_a (fun w => by have q1 := t_me; have q2 := y6.2.1; rw [w, q2] at q1; exact absurd q1 (by decide))))))] at z; exact ⟨z.1, z.2.1, z.2.2.1⟩
    have x36 := (hC33.2.2.2.2.2 (me) o_me (own_z o_me)).1 t_me
    rw [show F32 (me) (2 : Int) = F (me) (2 : Int) from ((show F32 (me) (2 : Int) = F25 (me) (2 : Int) from by rw [eF32]; exact uF_a (fun w => by have q1 := t_me; have q2 := y28.2.1; rw [w, q2] at q1; exact absurd q1 (by decide))).trans ((show F25 (me) (2 : Int) = F19 (me) (2 : Int) from by rw [eF25]; exact uF_a (fun w => by have q1 := t_me; have q2 := y22.2.1; rw [w, q2] at q1; exact absurd q1 (by decide))).trans ((show F19 (me) (2 : Int) = F11 (me) (2 : Int) from by rw [eF19]; exact uF_a (fun w => by have q1 := t_me; have q2 := y14.2.1; rw [w, q2] at q1; exact absurd q1 (by decide))).trans (show F11 (me) (2 : Int) = F (me) (2 : Int) from by rw [eF11]; exact uF_a (fun w => by have q1 := t_me; have q2 := y6.2.1; rw [w, q2] at q1; exact absurd q1 (by decide))))))] at x36
    rw [show F32 (me) (3 : Int) = F (me) (3 : Int) from ((show F32 (me) (3 : Int) = F25 (me) (3 : Int) from by rw [eF32]; exact uF_a (fun w => by have q1 := t_me; have q2 := y28.2.1; rw [w, q2] at q1; exact absurd q1 (by decide))).trans ((show F25 (me) (3 : Int) = F19 (me) (3 : Int) from by rw [eF25]; exact uF_a (fun w => by have q1 := t_me; have q2 := y22.2.1; rw [w, q2] at q1; exact absurd q1 (by decide))).trans ((show F19 (me) (3 : Int) = F11 (me) (3 : Int) from by rw [eF19]; exact uF_a (fun w => by have q1 := t_me; have q2 := y14.2.1; rw [w, q2] at q1; exact absurd q1 (by decide))).trans (show F11 (me) (3 : Int) = F (me) (3 : Int) from by rw [eF11]; exact uF_a (fun w => by have q1 := t_me; have q2 := y6.2.1; rw [w, q2] at q1; exact absurd q1 (by decide))))))] at x36
    rw [show F32 (me) (4 : Int) = F (me) (4 : Int) from ((show F32 (me) (4 : Int) = F25 (me) (4 : Int) from by rw [eF32]; exact uF_a (fun w => by have q1 := t_me; have q2 := y28.2.1; rw [w, q2] at q1; exact absurd q1 (by decide))).trans ((show F25 (me) (4 : Int) = F19 (me) (4 : Int) from by rw [eF25]; exact uF_a (fun w => by have q1 := t_me; have q2 := y22.2.1; rw [w, q2] at q1; exact absurd q1 (by decide))).trans ((show F19 (me) (4 : Int) = F11 (me) (4 : Int) from by rw [eF19]; exact uF_a (fun w => by have q1 := t_me; have q2 := y14.2.1; rw [w, q2] at q1; exact absurd q1 (by decide))).trans (show F11 (me) (4 : Int) = F (me) (4 : Int) from by rw [eF11]; exact uF_a (fun w => by have q1 := t_me; have q2 := y6.2.1; rw [w, q2] at q1; exact absurd q1 (by decide))))))] at x36
    rw [show F32 (me) (5 : Int) = F (me) (5 : Int) from ((show F32 (me) (5 : Int) = F25 (me) (5 : Int) from by rw [eF32]; exact uF_a (fun w => by have q1 := t_me; have q2 := y28.2.1; rw [w, q2] at q1; exact absurd q1 (by decide))).trans ((show F25 (me) (5 : Int) = F19 (me) (5 : Int) from by rw [eF25]; exact uF_a (fun w => by have q1 := t_me; have q2 := y22.2.1; rw [w, q2] at q1; exact absurd q1 (by decide))).trans ((show F19 (me) (5 : Int) = F11 (me) (5 : Int) from by rw [eF19]; exact uF_a (fun w => by have q1 := t_me; have q2 := y14.2.1; rw [w, q2] at q1; exact absurd q1 (by decide))).trans (show F11 (me) (5 : Int) = F (me) (5 : Int) from by rw [eF11]; exact uF_a (fun w => by have q1 := t_me; have q2 := y6.2.1; rw [w, q2] at q1; exact absurd q1 (by decide))))))] at x36
    rw [show F32 (me) (6 : Int) = F (me) (6 : Int) from ((show F32 (me) (6 : Int) = F25 (me) (6 : Int) from by rw [eF32]; exact uF_a (fun w => by have q1 := t_me; have q2 := y28.2.1; rw [w, q2] at q1; exact absurd q1 (by decide))).trans ((show F25 (me) (6 : Int) = F19 (me) (6 : Int) from by rw [eF25]; exact uF_a (fun w => by have q1 := t_me; have q2 := y22.2.1; rw [w, q2] at q1; exact absurd q1 (by decide))).trans ((show F19 (me) (6 : Int) = F11 (me) (6 : Int) from by rw [eF19]; exact uF_a (fun w => by have q1 := t_me; have q2 := y14.2.1; rw [w, q2] at q1; exact absurd q1 (by decide))).trans (show F11 (me) (6 : Int) = F (me) (6 : Int) from by rw [eF11]; exact uF_a (fun w => by have q1 := t_me; have q2 := y6.2.1; rw [w, q2] at q1; exact absurd q1 (by decide))))))] at x36
    rw [show F32 (me) (7 : Int) = F (me) (7 : Int) from ((show F32 (me) (7 : Int) = F25 (me) (7 : Int) from by rw [eF32]; exact uF_a (fun w => by have q1 := t_me; have q2 := y28.2.1; rw [w, q2] at q1; exact absurd q1 (by decide))).trans ((show F25 (me) (7 : Int) = F19 (me) (7 : Int) from by rw [eF25]; exact uF_a (fun w => by have q1 := t_me; have q2 := y22.2.1; rw [w, q2] at q1; exact absurd q1 (by decide))).trans ((show F19 (me) (7 : Int) = F11 (me) (7 : Int) from by rw [eF19]; exact uF_a (fun w => by have q1 := t_me; have q2 := y14.2.1; rw [w, q2] at q1; exact absurd q1 (by decide))).trans (show F11 (me) (7 : Int) = F (me) (7 : Int) from by rw [eF11]; exact uF_a (fun w => by have q1 := t_me; have q2 := y6.2.1; rw [w, q2] at q1; exact absurd q1 (by decide))))))] at x36
    refine jx_ld (pc_q := 66) (l_q := L0) (st_q := [rv (me), rv (F (me) (6 : Int))]) rfl (jl_rvn g1) ?_
    refine cx_gi (pc_q := 69) (c := 10) (q := 7) (v := F (me) (7 : Int)) rfl rfl (by decide) (by decide) (Or.inl rfl) rfl o_me t_me ((show F32 (me) (7 : Int) = F25 (me) (7 : Int) from by rw [eF32]; exact uF_a (fun w => by have q1 := t_me; have q2 := y28.2.1; rw [w, q2] at q1; exact absurd q1 (by decide))).trans ((show F25 (me) (7 : Int) = F19 (me) (7 : Int) from by rw [eF25]; exact uF_a (fun w => by have q1 := t_me; have q2 := y22.2.1; rw [w, q2] at q1; exact absurd q1 (by decide))).trans ((show F19 (me) (7 : Int) = F11 (me) (7 : Int) from by rw [eF19]; exact uF_a (fun w => by have q1 := t_me; have q2 := y14.2.1; rw [w, q2] at q1; exact absurd q1 (by decide))).trans (show F11 (me) (7 : Int) = F (me) (7 : Int) from by rw [eF11]; exact uF_a (fun w => by have q1 := t_me; have q2 := y6.2.1; rw [w, q2] at q1; exact absurd q1 (by decide)))))) ?_
    refine jx_ld (pc_q := 70) (l_q := L0) (st_q := [rv (me), .int (i32 (F (me) (7 : Int))), rv (F (me) (6 : Int))]) rfl (jl_rvn g1) ?_
    refine cx_gi (pc_q := 73) (c := 10) (q := 14) (v := F (me) (14 : Int)) rfl rfl (by decide) (by decide) (Or.inl rfl) rfl o_me t_me ((show F32 (me) (14 : Int) = F25 (me) (14 : Int) from by rw [eF32]; exact uF_a (fun w => by have q1 := t_me; have q2 := y28.2.1; rw [w, q2] at q1; exact absurd q1 (by decide))).trans ((show F25 (me) (14 : Int) = F19 (me) (14 : Int) from by rw [eF25]; exact uF_a (fun w => by have q1 := t_me; have q2 := y22.2.1; rw [w, q2] at q1; exact absurd q1 (by decide))).trans ((show F19 (me) (14 : Int) = F11 (me) (14 : Int) from by rw [eF19]; exact uF_a (fun w => by have q1 := t_me; have q2 := y14.2.1; rw [w, q2] at q1; exact absurd q1 (by decide))).trans (show F11 (me) (14 : Int) = F (me) (14 : Int) from by rw [eF11]; exact uF_a (fun w => by have q1 := t_me; have q2 := y6.2.1; rw [w, q2] at q1; exact absurd q1 (by decide)))))) ?_
    have b37 : (-2 : Int) ≤ F (me) (14 : Int) ∧ F (me) (14 : Int) ≤ 15 := by have z := HC_i (c := 10) (q := 14) hC33 o_me t_me (by decide) rfl; rw [show F32 (me) ((14 : Nat) : Int) = F (me) (14 : Int) from ((show F32 (me) (14 : Int) = F25 (me) (14 : Int) from by rw [eF32]; exact uF_a (fun w => by have q1 := t_me; have q2 := y28.2.1; rw [w, q2] at q1; exact absurd q1 (by decide))).trans ((show F25 (me) (14 : Int) = F19 (me) (14 : Int) from by rw [eF25]; exact uF_a (fun w => by have q1 := t_me; have q2 := y22.2.1; rw [w, q2] at q1; exact absurd q1 (by decide))).trans ((show F19 (me) (14 : Int) = F11 (me) (14 : Int) from by rw [eF19]; exact uF_a (fun w => by have q1 := t_me; have q2 := y14.2.1; rw [w, q2] at q1; exact absurd q1 (by decide))).trans (show F11 (me) (14 : Int) = F (me) (14 : Int) from by rw [eF11]; exact uF_a (fun w => by have q1 := t_me; have q2 := y6.2.1; rw [w, q2] at q1; exact absurd q1 (by decide))))))] at z; exact z
    refine cx_i2b (pc_q := 74) rfl rfl (fun r38 hr38 kr38 => ?_)
    have qr38 : r38 = F (me) (14 : Int) := kr38 (by omega) (by omega)
    have b39 := HC_l hC33 y35.1 y35.2.1 (by decide)
    refine cx_bas2 (pc_q := 75) (z := F (me) (7 : Int)) (y := r38) rfl rfl y35.1 y35.2.1 (by omega) (by omega) (by omega) (fun w40 hw40 kw40 => ?_)
    have qw40 : w40 = r38 := kw40 (by omega) (by omega)
    obtain ⟨F41, eF41⟩ : ∃ q, q = uF F32 (F (me) (6 : Int)) (F (me) (7 : Int)) (w40) := ⟨_, rfl⟩
    rw [← eF41]
    have hC42 : HC 0 m tg ln F41 := by rw [eF41]; exact HC_pi hC33 y35.1 y35.2.1 (by decide) (by omega) (by rw [(show F32 (F (me) (6 : Int)) (-1) = 1 by have z := HC_n (c := 10) (q := 6) hC33 o_me t_me (own_z o_me) (by decide) rfl; rw [show F32 (me) ((6 : Nat) : Int) = F (me) (6 : Int) from ((show F32 (me) (6 : Int) = F25 (me) (6 : Int) from by rw [eF32]; exact uF_a (fun w => by have q1 := t_me; have q2 := y28.2.1; rw [w, q2] at q1; exact absurd q1 (by decide))).trans ((show F25 (me) (6 : Int) = F19 (me) (6 : Int) from by rw [eF25]; exact uF_a (fun w => by have q1 := t_me; have q2 := y22.2.1; rw [w, q2] at q1; exact absurd q1 (by decide))).trans ((show F19 (me) (6 : Int) = F11 (me) (6 : Int) from by rw [eF19]; exact uF_a (fun w => by have q1 := t_me; have q2 := y14.2.1; rw [w, q2] at q1; exact absurd q1 (by decide))).trans (show F11 (me) (6 : Int) = F (me) (6 : Int) from by rw [eF11]; exact uF_a (fun w => by have q1 := t_me; have q2 := y6.2.1; rw [w, q2] at q1; exact absurd q1 (by decide))))))] at z; exact z.2.2.2 (by decide))]; exact ⟨(by show (-2 : Int) ≤ _; omega), (by show _ ≤ (15 : Int); omega)⟩)
    have hM43 : Fq 0 [(11, 7), (20, -5), (21, -5), (22, -5)] m tg F F41 := by rw [eF41]; exact Fq_p hM34 y35.2.1 (fun _ => rfl) (inL_a rfl (by omega) rfl)
    refine jx_ld (pc_q := 76) (l_q := L0) (st_q := [rv (me)]) rfl (jl_rvn g1) ?_
    refine jx_ar (pc_q := 77) (st_q := [rv (me), rv (me)]) rfl rfl ja_dup rfl ?_
    refine cx_gi (pc_q := 80) (c := 10) (q := 7) (v := F (me) (7 : Int)) rfl rfl (by decide) (by decide) (Or.inl rfl) rfl o_me t_me ((show F41 (me) (7 : Int) = F32 (me) (7 : Int) from by rw [eF41]; exact uF_a (fun w => by have q1 := t_me; have q2 := y35.2.1; rw [w, q2] at q1; exact absurd q1 (by decide))).trans ((show F32 (me) (7 : Int) = F25 (me) (7 : Int) from by rw [eF32]; exact uF_a (fun w => by have q1 := t_me; have q2 := y28.2.1; rw [w, q2] at q1; exact absurd q1 (by decide))).trans ((show F25 (me) (7 : Int) = F19 (me) (7 : Int) from by rw [eF25]; exact uF_a (fun w => by have q1 := t_me; have q2 := y22.2.1; rw [w, q2] at q1; exact absurd q1 (by decide))).trans ((show F19 (me) (7 : Int) = F11 (me) (7 : Int) from by rw [eF19]; exact uF_a (fun w => by have q1 := t_me; have q2 := y14.2.1; rw [w, q2] at q1; exact absurd q1 (by decide))).trans (show F11 (me) (7 : Int) = F (me) (7 : Int) from by rw [eF11]; exact uF_a (fun w => by have q1 := t_me; have q2 := y6.2.1; rw [w, q2] at q1; exact absurd q1 (by decide))))))) ?_
    refine jx_ar (pc_q := 81) (st_q := [.int (i32 (1)), .int (i32 (F (me) (7 : Int))), rv (me)]) rfl rfl rfl rfl ?_
    refine jx_add (pc_q := 82) rfl rfl ?_
    refine cx_pi (pc_q := 85) (c := 10) (q := 7) (qi := (7 : Int)) (z := (F (me) (7 : Int) + 1)) rfl rfl (by decide) (by decide) rfl rfl rfl (by decide) rfl o_me t_me rfl ?_
    obtain ⟨F44, eF44⟩ : ∃ q, q = uF F41 (me) (7 : Int) ((F (me) (7 : Int) + 1)) := ⟨_, rfl⟩
    rw [← eF44]
    have hC45 : HC 0 m tg ln F44 := by rw [eF44]; exact HC_fi (c := 10) (q := 7) hC42 t_me (by decide) rfl (by omega) (by omega) ⟨fun _ => ⟨fun w1 w2 => absurd w2 (by omega), fun _ => Or.inr (by rw [show F41 (me) 2 = F (me) (2 : Int) from ((show F41 (me) (2 : Int) = F32 (me) (2 : Int) from by rw [eF41]; exact uF_a (fun w => by have q1 := t_me; have q2 := y35.2.1; rw [w, q2] at q1; exact absurd q1 (by decide))).trans ((show F32 (me) (2 : Int) = F25 (me) (2 : Int) from by rw [eF32]; exact uF_a (fun w => by have q1 := t_me; have q2 := y28.2.1; rw [w, q2] at q1; exact absurd q1 (by decide))).trans ((show F25 (me) (2 : Int) = F19 (me) (2 : Int) from by rw [eF25]; exact uF_a (fun w => by have q1 := t_me; have q2 := y22.2.1; rw [w, q2] at q1; exact absurd q1 (by decide))).trans ((show F19 (me) (2 : Int) = F11 (me) (2 : Int) from by rw [eF19]; exact uF_a (fun w => by have q1 := t_me; have q2 := y14.2.1; rw [w, q2] at q1; exact absurd q1 (by decide))).trans (show F11 (me) (2 : Int) = F (me) (2 : Int) from by rw [eF11]; exact uF_a (fun w => by have q1 := t_me; have q2 := y6.2.1; rw [w, q2] at q1; exact absurd q1 (by decide)))))))]; omega)⟩, fun w => absurd w (by decide)⟩
    have hM46 : Fq 0 [(11, 7), (20, -5), (21, -5), (22, -5)] m tg F F44 := by rw [eF44]; exact Fq_p hM43 t_me (fun _ => rfl) rfl
    refine jx_rt (v := none) rfl rfl rfl rfl rfl rfl ?_
    exact ⟨F44, rfl, rfl, hC45, hM46, trivial⟩
set_option maxRecDepth 20000 in
set_option maxHeartbeats 4000000 in
theorem k_LScanner_scanName_at_7 {X : jX} {d : Nat} {R : Nat → jC} {m : Nat} {tg ln : Int → Int} {F : Int → Int → Int} {me : Int} (hd : 2 ≤ d + 1) (hC : HC 0 m tg ln F) (o_me : own m me) (t_me : tg me = 11) (p_0 : F me (11 : Int) < F me (10 : Int)) (p_1 : F me (10 : Int) ≤ 3000) : ∀ (mm : Nat) (L : jL) (Fx : Int → Int → Int) (fs : Int) (sm : Int64), (F me (10 : Int) - Fx me (11 : Int)).toNat = mm → jGet L 0 = some (rv (me)) → jGet L 1 = some (.int (i32 fs)) → jGet L 2 = some (.long sm) → HC 0 m tg ln Fx → Fq 0 [(11, 7), (11, 11), (20, -5), (21, -5), (22, -5)] m tg F Fx → ((-2147483648 : Int) ≤ fs ∧ fs ≤ 2147483647) → (F me (11 : Int) ≤ Fx me (11 : Int)) → (Fx me (11 : Int) ≤ F me (10 : Int)) → wj X d jm219 (7, L, [], cV R m tg ln Fx) (fun o V_q => ∃ (F_q : Int → Int → Int), V_q = cV R m tg ln F_q ∧ o = .inl none ∧ HC 0 m tg ln F_q ∧ Fq 0 [(11, 7), (11, 11), (20, -5), (21, -5), (22, -5)] m tg F F_q ∧ (F me (11 : Int) ≤ F_q me (11 : Int)) ∧ (F_q me (11 : Int) ≤ F me (10 : Int) + 1) ∧ True) := by
  intro mm
  induction mm using Nat.strongRecOn with
  | ind mm ih =>
    intro L Fx fs sm hmm gL_0 gL_1 gL_2 hCx hMx rx_fs iv_0 iv_1
    refine jx_ld (pc_q := 8) (l_q := L) (st_q := [rv (me)]) rfl (jl_rvn gL_0) ?_
    refine cx_gi (pc_q := 11) (c := 10) (q := 11) (v := Fx (me) (11 : Int)) rfl rfl (by decide) (by decide) (Or.inl rfl) rfl o_me t_me rfl ?_
    have b1 : (0 : Int) ≤ Fx (me) (11 : Int) ∧ Fx (me) (11 : Int) ≤ 3002 := by have z := HC_i (c := 10) (q := 11) hCx o_me t_me (by decide) rfl; rw [show Fx (me) ((11 : Nat) : Int) = Fx (me) (11 : Int) from rfl] at z; exact z
    refine jx_ld (pc_q := 12) (l_q := L) (st_q := [rv (me), .int (i32 (Fx (me) (11 : Int)))]) rfl (jl_rvn gL_0) ?_
    refine cx_gi (pc_q := 15) (c := 10) (q := 10) (v := F (me) (10 : Int)) rfl rfl (by decide) (by decide) (Or.inl rfl) rfl o_me t_me (show Fx (me) (10 : Int) = F (me) (10 : Int) from hMx _ _ o_me (own_z o_me) (by rw [t_me]; rfl)) ?_
    have b2 : (0 : Int) ≤ F (me) (10 : Int) ∧ F (me) (10 : Int) ≤ 3000 := by have z := HC_i (c := 10) (q := 10) hCx o_me t_me (by decide) rfl; rw [show Fx (me) ((10 : Nat) : Int) = F (me) (10 : Int) from (show Fx (me) (10 : Int) = F (me) (10 : Int) from hMx _ _ o_me (own_z o_me) (by rw [t_me]; rfl))] at z; exact z
    refine jx_icmp_ge (pc_q := 18) (tg := 70) rfl rfl rfl (by omega) (by omega) (by omega) (by omega) (fun h3 => ?_) (fun h3 => ?_)
    · have _q := h3
      refine jx_ld (pc_q := 71) (l_q := L) (st_q := [rv (me)]) rfl (jl_rvn gL_0) ?_
      refine jx_ld (pc_q := 72) (l_q := L) (st_q := [rv (me), rv (me)]) rfl (jl_rvn gL_0) ?_
      refine cx_gi (pc_q := 75) (c := 10) (q := 11) (v := Fx (me) (11 : Int)) rfl rfl (by decide) (by decide) (Or.inl rfl) rfl o_me t_me rfl ?_
      refine jx_ld (pc_q := 76) (l_q := L) (st_q := [.int (i32 (fs)), .int (i32 (Fx (me) (11 : Int))), rv (me)]) rfl (jl_iloadn gL_1) ?_
      refine jx_sub (pc_q := 77) rfl rfl ?_
      obtain ⟨z4, ez4⟩ : ∃ q, q = (i32 ((Fx (me) (11 : Int) - fs))).toInt := ⟨_, rfl⟩
      have bz4 : (-2147483648 : Int) ≤ z4 ∧ z4 ≤ 2147483647 := ez4 ▸ i32_rg _
      rw [show i32 ((Fx (me) (11 : Int) - fs)) = i32 z4 by rw [ez4, i32_of]]
      clear ez4
      refine jx_ar (pc_q := 79) (st_q := [.int (i32 (10)), .int (i32 (z4)), rv (me)]) rfl rfl rfl rfl ?_
      refine jx_icmp_le (pc_q := 82) (tg := 86) rfl rfl rfl (by omega) (by omega) (by decide) (by decide) (fun h5 => ?_) (fun h5 => ?_)
      · have _q := h5
        refine jx_ar (pc_q := 87) (st_q := [.int (i32 (2)), rv (me)]) rfl rfl rfl rfl ?_
        refine jx_ld (pc_q := 88) (l_q := L) (st_q := [.int (i32 (fs)), .int (i32 (2)), rv (me)]) rfl (jl_iloadn gL_1) ?_
        refine jx_ld (pc_q := 89) (l_q := L) (st_q := [.long (sm), .int (i32 (fs)), .int (i32 (2)), rv (me)]) rfl (jl_lloadn gL_2) ?_
        refine cx_vi (c := 10) (a := me) (st := []) (as := [.int (i32 (2)), .int (i32 (fs)), .long (sm)]) rfl rfl rfl o_me t_me (by decide) rfl ⟨rfl, rfl, (Nat.le_of_ble_eq_true rfl)⟩ rfl (k_LScanner_add (dd := d) (R := R) (m := m) (tg := tg) (ln := ln) (F := Fx) (me := me) (kd := 2) (fr := fs) (vl := sm) (hd := by omega) (hC := hCx) (o_me := o_me) (t_me := t_me) (h_kd := by omega) (h_fr := by omega)) (fun o V_q hq => ?_)
        obtain ⟨F6, rfl, rfl, hC7, hM8, -⟩ := hq
        have hM9 : Fq 0 [(11, 7), (11, 11), (20, -5), (21, -5), (22, -5)] m tg F F6 := Fq_t (ln := ln) (ln1 := ln) hMx Ex_r hM8 (by decide) (Or.inl rfl)
        refine Or.inl ⟨rfl, ?_⟩
        refine jx_rt (v := none) rfl rfl rfl rfl rfl rfl ?_
        have q10 : F6 (me) (11 : Int) = Fx (me) (11 : Int) := (show F6 (me) (11 : Int) = Fx (me) (11 : Int) from hM8 _ _ o_me (own_z o_me) (by rw [t_me]; rfl))
        exact ⟨F6, rfl, rfl, hC7, hM9, by omega, by omega, trivial⟩
      · have _q := h5
        refine jx_ar (pc_q := 83) (st_q := [.int (i32 (1)), rv (me)]) rfl rfl rfl rfl ?_
        refine jx_go (tg := 87) rfl rfl ?_
        refine jx_ld (pc_q := 88) (l_q := L) (st_q := [.int (i32 (fs)), .int (i32 (1)), rv (me)]) rfl (jl_iloadn gL_1) ?_
        refine jx_ld (pc_q := 89) (l_q := L) (st_q := [.long (sm), .int (i32 (fs)), .int (i32 (1)), rv (me)]) rfl (jl_lloadn gL_2) ?_
        refine cx_vi (c := 10) (a := me) (st := []) (as := [.int (i32 (1)), .int (i32 (fs)), .long (sm)]) rfl rfl rfl o_me t_me (by decide) rfl ⟨rfl, rfl, (Nat.le_of_ble_eq_true rfl)⟩ rfl (k_LScanner_add (dd := d) (R := R) (m := m) (tg := tg) (ln := ln) (F := Fx) (me := me) (kd := 1) (fr := fs) (vl := sm) (hd := by omega) (hC := hCx) (o_me := o_me) (t_me := t_me) (h_kd := by omega) (h_fr := by omega)) (fun o V_q hq => ?_)
        obtain ⟨F11, rfl, rfl, hC12, hM13, -⟩ := hq
        have hM14 : Fq 0 [(11, 7), (11, 11), (20, -5), (21, -5), (22, -5)] m tg F F11 := Fq_t (ln := ln) (ln1 := ln) hMx Ex_r hM13 (by decide) (Or.inl rfl)
        refine Or.inl ⟨rfl, ?_⟩
        refine jx_rt (v := none) rfl rfl rfl rfl rfl rfl ?_
        have q15 : F11 (me) (11 : Int) = Fx (me) (11 : Int) := (show F11 (me) (11 : Int) = Fx (me) (11 : Int) from hM13 _ _ o_me (own_z o_me) (by rw [t_me]; rfl))
        exact ⟨F11, rfl, rfl, hC12, hM14, by omega, by omega, trivial⟩
    · have _q := h3
      refine jx_hp (pc_q := 20) (st_q := [.ref 0]) rfl rfl rfl rfl rfl rfl ?_
      refine jx_ld (pc_q := 21) (l_q := L) (st_q := [rv (me), .ref 0]) rfl (jl_rvn gL_0) ?_
      refine jx_ld (pc_q := 22) (l_q := L) (st_q := [rv (me), rv (me), .ref 0]) rfl (jl_rvn gL_0) ?_
      refine cx_gi (pc_q := 25) (c := 10) (q := 11) (v := Fx (me) (11 : Int)) rfl rfl (by decide) (by decide) (Or.inl rfl) rfl o_me t_me rfl ?_
      refine cx_vi (c := 10) (a := me) (st := [.ref 0]) (as := [.int (i32 (Fx (me) (11 : Int)))]) rfl rfl rfl o_me t_me (by decide) rfl ⟨rfl, rfl, (by rw [jS_f, jS_0]; exact Nat.le_of_ble_eq_true rfl)⟩ rfl (k_LScanner_sign (dd := d) (R := R) (m := m) (tg := tg) (ln := ln) (F := Fx) (me := me) (a0 := Fx (me) (11 : Int)) (hd := by omega) (hC := hCx) (o_me := o_me) (t_me := t_me) (h_a0 := by omega)) (fun o V_q hq => ?_)
      obtain ⟨r16, rfl, rfl, b17, -⟩ := hq
      refine Or.inr (Or.inl ⟨_, rfl, ?_⟩)
      refine cx_i2c (pc_q := 29) rfl rfl (by omega) (by omega) ?_
      refine jx_si (pc_q := 32) rfl rfl rfl ⟨(Nat.le_of_ble_eq_true rfl), (by decide)⟩ (by omega) (by omega) rfl (fun r18 hr18 => ?_)
      refine jx_if_le (pc_q := 35) (tg := 70) rfl rfl rfl (by omega) (by omega) (fun h19 => ?_) (fun h19 => ?_)
      · have _q := h19
        refine jx_ld (pc_q := 71) (l_q := L) (st_q := [rv (me)]) rfl (jl_rvn gL_0) ?_
        refine jx_ld (pc_q := 72) (l_q := L) (st_q := [rv (me), rv (me)]) rfl (jl_rvn gL_0) ?_
        refine cx_gi (pc_q := 75) (c := 10) (q := 11) (v := Fx (me) (11 : Int)) rfl rfl (by decide) (by decide) (Or.inl rfl) rfl o_me t_me rfl ?_
        refine jx_ld (pc_q := 76) (l_q := L) (st_q := [.int (i32 (fs)), .int (i32 (Fx (me) (11 : Int))), rv (me)]) rfl (jl_iloadn gL_1) ?_
        refine jx_sub (pc_q := 77) rfl rfl ?_
        obtain ⟨z20, ez20⟩ : ∃ q, q = (i32 ((Fx (me) (11 : Int) - fs))).toInt := ⟨_, rfl⟩
        have bz20 : (-2147483648 : Int) ≤ z20 ∧ z20 ≤ 2147483647 := ez20 ▸ i32_rg _
        rw [show i32 ((Fx (me) (11 : Int) - fs)) = i32 z20 by rw [ez20, i32_of]]
        clear ez20
        refine jx_ar (pc_q := 79) (st_q := [.int (i32 (10)), .int (i32 (z20)), rv (me)]) rfl rfl rfl rfl ?_
        refine jx_icmp_le (pc_q := 82) (tg := 86) rfl rfl rfl (by omega) (by omega) (by decide) (by decide) (fun h21 => ?_) (fun h21 => ?_)
        · have _q := h21
          refine jx_ar (pc_q := 87) (st_q := [.int (i32 (2)), rv (me)]) rfl rfl rfl rfl ?_
          refine jx_ld (pc_q := 88) (l_q := L) (st_q := [.int (i32 (fs)), .int (i32 (2)), rv (me)]) rfl (jl_iloadn gL_1) ?_
          refine jx_ld (pc_q := 89) (l_q := L) (st_q := [.long (sm), .int (i32 (fs)), .int (i32 (2)), rv (me)]) rfl (jl_lloadn gL_2) ?_
          refine cx_vi (c := 10) (a := me) (st := []) (as := [.int (i32 (2)), .int (i32 (fs)), .long (sm)]) rfl rfl rfl o_me t_me (by decide) rfl ⟨rfl, rfl, (Nat.le_of_ble_eq_true rfl)⟩ rfl (k_LScanner_add (dd := d) (R := R) (m := m) (tg := tg) (ln := ln) (F := Fx) (me := me) (kd := 2) (fr := fs) (vl := sm) (hd := by omega) (hC := hCx) (o_me := o_me) (t_me := t_me) (h_kd := by omega) (h_fr := by omega)) (fun o V_q hq => ?_)
          obtain ⟨F22, rfl, rfl, hC23, hM24, -⟩ := hq
          have hM25 : Fq 0 [(11, 7), (11, 11), (20, -5), (21, -5), (22, -5)] m tg F F22 := Fq_t (ln := ln) (ln1 := ln) hMx Ex_r hM24 (by decide) (Or.inl rfl)
          refine Or.inl ⟨rfl, ?_⟩
          refine jx_rt (v := none) rfl rfl rfl rfl rfl rfl ?_
          have q26 : F22 (me) (11 : Int) = Fx (me) (11 : Int) := (show F22 (me) (11 : Int) = Fx (me) (11 : Int) from hM24 _ _ o_me (own_z o_me) (by rw [t_me]; rfl))
          exact ⟨F22, rfl, rfl, hC23, hM25, by omega, by omega, trivial⟩
        · have _q := h21
          refine jx_ar (pc_q := 83) (st_q := [.int (i32 (1)), rv (me)]) rfl rfl rfl rfl ?_
          refine jx_go (tg := 87) rfl rfl ?_
          refine jx_ld (pc_q := 88) (l_q := L) (st_q := [.int (i32 (fs)), .int (i32 (1)), rv (me)]) rfl (jl_iloadn gL_1) ?_
          refine jx_ld (pc_q := 89) (l_q := L) (st_q := [.long (sm), .int (i32 (fs)), .int (i32 (1)), rv (me)]) rfl (jl_lloadn gL_2) ?_
          refine cx_vi (c := 10) (a := me) (st := []) (as := [.int (i32 (1)), .int (i32 (fs)), .long (sm)]) rfl rfl rfl o_me t_me (by decide) rfl ⟨rfl, rfl, (Nat.le_of_ble_eq_true rfl)⟩ rfl (k_LScanner_add (dd := d) (R := R) (m := m) (tg := tg) (ln := ln) (F := Fx) (me := me) (kd := 1) (fr := fs) (vl := sm) (hd := by omega) (hC := hCx) (o_me := o_me) (t_me := t_me) (h_kd := by omega) (h_fr := by omega)) (fun o V_q hq => ?_)
          obtain ⟨F27, rfl, rfl, hC28, hM29, -⟩ := hq
          have hM30 : Fq 0 [(11, 7), (11, 11), (20, -5), (21, -5), (22, -5)] m tg F F27 := Fq_t (ln := ln) (ln1 := ln) hMx Ex_r hM29 (by decide) (Or.inl rfl)
          refine Or.inl ⟨rfl, ?_⟩
          refine jx_rt (v := none) rfl rfl rfl rfl rfl rfl ?_
          have q31 : F27 (me) (11 : Int) = Fx (me) (11 : Int) := (show F27 (me) (11 : Int) = Fx (me) (11 : Int) from hM29 _ _ o_me (own_z o_me) (by rw [t_me]; rfl))
          exact ⟨F27, rfl, rfl, hC28, hM30, by omega, by omega, trivial⟩
      · have _q := h19
        refine jx_ld (pc_q := 36) (l_q := L) (st_q := [.long (sm)]) rfl (jl_lloadn gL_2) ?_
        refine jx_hp (pc_q := 39) (st_q := [.long (64), .long (sm)]) rfl rfl rfl rfl rfl rfl ?_
        refine jx_ar (pc_q := 40) (st_q := .long ((sm : Int64) * (64)) :: []) rfl rfl rfl rfl ?_
        obtain ⟨y32, ey32⟩ : ∃ q : Int64, q = (sm : Int64) * (64) := ⟨_, rfl⟩
        rw [← ey32]
        refine jx_hp (pc_q := 42) (st_q := [.ref 0, .long (y32)]) rfl rfl rfl rfl rfl rfl ?_
        refine jx_ld (pc_q := 43) (l_q := L) (st_q := [rv (me), .ref 0, .long (y32)]) rfl (jl_rvn gL_0) ?_
        refine jx_ld (pc_q := 44) (l_q := L) (st_q := [rv (me), rv (me), .ref 0, .long (y32)]) rfl (jl_rvn gL_0) ?_
        refine cx_gi (pc_q := 47) (c := 10) (q := 11) (v := Fx (me) (11 : Int)) rfl rfl (by decide) (by decide) (Or.inl rfl) rfl o_me t_me rfl ?_
        refine cx_vi (c := 10) (a := me) (st := [.ref 0, .long (y32)]) (as := [.int (i32 (Fx (me) (11 : Int)))]) rfl rfl rfl o_me t_me (by decide) rfl ⟨rfl, rfl, (by rw [jS_f, jS_l, jS_0]; exact Nat.le_of_ble_eq_true rfl)⟩ rfl (k_LScanner_sign (dd := d) (R := R) (m := m) (tg := tg) (ln := ln) (F := Fx) (me := me) (a0 := Fx (me) (11 : Int)) (hd := by omega) (hC := hCx) (o_me := o_me) (t_me := t_me) (h_a0 := by omega)) (fun o V_q hq => ?_)
        obtain ⟨r33, rfl, rfl, b34, -⟩ := hq
        refine Or.inr (Or.inl ⟨_, rfl, ?_⟩)
        refine cx_i2c (pc_q := 51) rfl rfl (by omega) (by omega) ?_
        refine jx_si (pc_q := 54) rfl rfl rfl ⟨(by rw [jS_l, jS_0]; exact Nat.le_of_ble_eq_true rfl), (by decide)⟩ (by omega) (by omega) rfl (fun r35 hr35 => ?_)
        refine jx_ar (pc_q := 55) (st_q := .long ((i32 (r35)).toInt64) :: [.long (y32)]) rfl rfl rfl rfl ?_
        obtain ⟨y36, ey36⟩ : ∃ q : Int64, q = (i32 (r35)).toInt64 := ⟨_, rfl⟩
        rw [← ey36]
        refine jx_ar (pc_q := 56) (st_q := .long ((y32 : Int64) + (y36)) :: []) rfl rfl rfl rfl ?_
        obtain ⟨y37, ey37⟩ : ∃ q : Int64, q = (y32 : Int64) + (y36) := ⟨_, rfl⟩
        rw [← ey37]
        refine jx_ld (pc_q := 57) (l_q := jSto2 L 2 (.long (y37))) (st_q := []) rfl rfl ?_
        obtain ⟨L38, eL38⟩ : ∃ q : jL, q = jSto2 L 2 (.long (y37)) := ⟨_, rfl⟩
        rw [← eL38]
        have g39 : jGet L38 0 = some (rv (me)) := eL38 ▸ jg_nr2 (by decide) (by decide) gL_0
        have g40 : jGet L38 1 = some (.int (i32 (fs))) := eL38 ▸ jg_ne2 (by decide) (by decide) gL_1 (Or.inl rfl)
        have g41 : jGet L38 2 = some (.long (y37)) := eL38 ▸ jg_eq2
        clear eL38
        refine jx_ld (pc_q := 58) (l_q := L38) (st_q := [rv (me)]) rfl (jl_rvn g39) ?_
        refine jx_ar (pc_q := 59) (st_q := [rv (me), rv (me)]) rfl rfl ja_dup rfl ?_
        refine cx_gi (pc_q := 62) (c := 10) (q := 11) (v := Fx (me) (11 : Int)) rfl rfl (by decide) (by decide) (Or.inl rfl) rfl o_me t_me rfl ?_
        refine jx_ar (pc_q := 63) (st_q := [.int (i32 (1)), .int (i32 (Fx (me) (11 : Int))), rv (me)]) rfl rfl rfl rfl ?_
        refine jx_add (pc_q := 64) rfl rfl ?_
        refine cx_pi (pc_q := 67) (c := 10) (q := 11) (qi := (11 : Int)) (z := (Fx (me) (11 : Int) + 1)) rfl rfl (by decide) (by decide) rfl rfl rfl (by decide) rfl o_me t_me rfl ?_
        obtain ⟨F42, eF42⟩ : ∃ q, q = uF Fx (me) (11 : Int) ((Fx (me) (11 : Int) + 1)) := ⟨_, rfl⟩
        rw [← eF42]
        have hC43 : HC 0 m tg ln F42 := by rw [eF42]; exact HC_fi (c := 10) (q := 11) hCx t_me (by decide) rfl (by omega) (by omega) ⟨fun _ => ⟨fun w1 w2 => absurd w2 (by omega), fun w => absurd w (by decide)⟩, fun w => absurd w (by decide)⟩
        have hM44 : Fq 0 [(11, 7), (11, 11), (20, -5), (21, -5), (22, -5)] m tg F F42 := by rw [eF42]; exact Fq_p hMx t_me (fun _ => rfl) rfl
        refine jx_go (tg := 7) rfl rfl ?_
        have q45 : F42 (me) (11 : Int) = (Fx (me) (11 : Int) + 1) := (show F42 (me) (11 : Int) = (Fx (me) (11 : Int) + 1) from by rw [eF42]; exact uF_e)
        exact ih _ (by omega) L38 F42 (fs) (y37) rfl g39 g40 g41 hC43 hM44 (by omega) (by omega) (by omega)
set_option maxRecDepth 20000 in
set_option maxHeartbeats 4000000 in
theorem k_LScanner_scanName {X : jX} {dd : Nat} {R : Nat → jC} {m : Nat} {tg ln : Int → Int} {F : Int → Int → Int} {me : Int} (hd : 2 ≤ dd) (hC : HC 0 m tg ln F) (o_me : own m me) (t_me : tg me = 11) (p_0 : F me (11 : Int) < F me (10 : Int)) (p_1 : F me (10 : Int) ≤ 3000) : wk X dd 219 [rv me] (cV R m tg ln F) (fun o V_q => ∃ (F_q : Int → Int → Int), V_q = cV R m tg ln F_q ∧ o = .inl none ∧ HC 0 m tg ln F_q ∧ Fq 0 [(11, 7), (11, 11), (20, -5), (21, -5), (22, -5)] m tg F F_q ∧ (F me (11 : Int) ≤ F_q me (11 : Int)) ∧ (F_q me (11 : Int) ≤ F me (10 : Int) + 1) ∧ True) := by
  obtain ⟨d, rfl⟩ : ∃ d, dd = d + 1 := ⟨dd - 1, by omega⟩
  refine wk_of (e := jm219) rfl (by rw [jS_r, jS_0]; exact Nat.le_of_ble_eq_true rfl) ?_
  rw [la_r, la_0]
  show wj X d jm219 (0, [(0, rv (me))], [], cV R m tg ln F) _
  have hM0 : Fq 0 [(11, 7), (11, 11), (20, -5), (21, -5), (22, -5)] m tg F F := Fq_r
  obtain ⟨L0, eL0⟩ : ∃ q : jL, q = [(0, rv (me))] := ⟨_, rfl⟩
  rw [← eL0]
  have g46 : jGet L0 0 = some (rv (me)) := eL0 ▸ (rfl : jGet [(0, rv (me))] 0 = some (rv (me)))
  clear eL0
  refine jx_ld (pc_q := 1) (l_q := L0) (st_q := [rv (me)]) rfl (jl_rvn g46) ?_
  refine cx_gi (pc_q := 4) (c := 10) (q := 11) (v := F (me) (11 : Int)) rfl rfl (by decide) (by decide) (Or.inl rfl) rfl o_me t_me rfl ?_
  have b47 : (0 : Int) ≤ F (me) (11 : Int) ∧ F (me) (11 : Int) ≤ 3002 := by have z := HC_i (c := 10) (q := 11) hC o_me t_me (by decide) rfl; rw [show F (me) ((11 : Nat) : Int) = F (me) (11 : Int) from rfl] at z; exact z
  refine jx_ld (pc_q := 5) (l_q := jSto1 L0 1 (.int (i32 (F (me) (11 : Int))))) (st_q := []) rfl rfl ?_
  obtain ⟨L48, eL48⟩ : ∃ q : jL, q = jSto1 L0 1 (.int (i32 (F (me) (11 : Int)))) := ⟨_, rfl⟩
  rw [← eL48]
  have g49 : jGet L48 0 = some (rv (me)) := eL48 ▸ jg_nr (by decide) g46
  have g50 : jGet L48 1 = some (.int (i32 (F (me) (11 : Int)))) := eL48 ▸ jg_eq
  clear eL48
  refine jx_ar (pc_q := 6) (st_q := [.long (Int64.ofNat 0)]) rfl rfl rfl rfl ?_
  refine jx_ld (pc_q := 7) (l_q := jSto2 L48 2 (.long (Int64.ofNat 0))) (st_q := []) rfl rfl ?_
  obtain ⟨L51, eL51⟩ : ∃ q : jL, q = jSto2 L48 2 (.long (Int64.ofNat 0)) := ⟨_, rfl⟩
  rw [← eL51]
  have g52 : jGet L51 0 = some (rv (me)) := eL51 ▸ jg_nr2 (by decide) (by decide) g49
  have g53 : jGet L51 1 = some (.int (i32 (F (me) (11 : Int)))) := eL51 ▸ jg_ne2 (by decide) (by decide) g50 (Or.inl rfl)
  have g54 : jGet L51 2 = some (.long (Int64.ofNat 0)) := eL51 ▸ jg_eq2
  clear eL51
  exact k_LScanner_scanName_at_7 (X := X) (d := d) (R := R) (m := m) (tg := tg) (ln := ln) (F := F) (me := me) (hd := hd) (hC := hC) (o_me := o_me) (t_me := t_me) (p_0 := p_0) (p_1 := p_1) _ L51 F (F (me) (11 : Int)) (Int64.ofNat 0) rfl g52 g53 g54 hC hM0 (by omega) (by omega) (by omega)
set_option maxRecDepth 20000 in
set_option maxHeartbeats 4000000 in
theorem k_LScanner_isHere_at_3 {X : jX} {d : Nat} {R : Nat → jC} {m : Nat} {tg ln : Int → Int} {F : Int → Int → Int} {me wd en fs : Int} (hd : 2 ≤ d + 1) (hC : HC 0 m tg ln F) (o_me : own m me) (t_me : tg me = 11) (h_wd : (-2147483648 : Int) ≤ wd ∧ wd ≤ 2147483647) (h_en : (-2147483648 : Int) ≤ en ∧ en ≤ 2147483647) (h_fs : (-2147483648 : Int) ≤ fs ∧ fs ≤ 2147483647) (p_0 : 0 ≤ wd) : ∀ (mm : Nat) (L : jL) (k : Int), (2147483647 - k).toNat = mm → jGet L 0 = some (rv (me)) → jGet L 1 = some (.int (i32 (wd))) → jGet L 2 = some (.int (i32 (en))) → jGet L 3 = some (.int (i32 (fs))) → jGet L 4 = some (.int (i32 k)) → ((-2147483648 : Int) ≤ k ∧ k ≤ 2147483647) → (0 ≤ k) → wj X d jm222 (3, L, [], cV R m tg ln F) (fun o V_q => ∃ (r : Int), V_q = cV R m tg ln F ∧ o = .inl (some (.int (i32 r))) ∧ (0 ≤ r ∧ r ≤ 1) ∧ True) := by
  intro mm
  induction mm using Nat.strongRecOn with
  | ind mm ih =>
    intro L k hmm gL_0 gL_1 gL_2 gL_3 gL_4 rx_k iv_0
    refine jx_ld (pc_q := 5) (l_q := L) (st_q := [.int (i32 (k))]) rfl (jl_iload gL_4) ?_
    refine jx_ld (pc_q := 6) (l_q := L) (st_q := [.int (i32 (en)), .int (i32 (k))]) rfl (jl_iloadn gL_2) ?_
    refine jx_icmp_ge (pc_q := 9) (tg := 47) rfl rfl rfl (by omega) (by omega) (by omega) (by omega) (fun h1 => ?_) (fun h1 => ?_)
    · have _q := h1
      refine jx_ar (pc_q := 48) (st_q := [.int (i32 (1))]) rfl rfl rfl rfl ?_
      refine jx_rt (v := some (.int (i32 (1)))) rfl rfl rfl rfl rfl (by first | rfl | exact jRet_b (by omega)) ?_
      exact ⟨(1), rfl, rfl, by omega, trivial⟩
    · have _q := h1
      refine jx_ld (pc_q := 11) (l_q := L) (st_q := [.int (i32 (k))]) rfl (jl_iload gL_4) ?_
      refine jx_hp (pc_q := 13) (st_q := [.ref 1, .int (i32 (k))]) rfl rfl rfl rfl rfl rfl ?_
      refine jx_sl (pc_q := 16) (n := 109) rfl rfl rfl ⟨(by rw [jS_i, jS_0]; exact Nat.le_of_ble_eq_true rfl), (by decide)⟩ (by decide) rfl ?_
      refine jx_icmp_ge (pc_q := 19) (tg := 47) rfl rfl rfl (by omega) (by omega) (by decide) (by decide) (fun h2 => ?_) (fun h2 => ?_)
      · have _q := h2
        refine jx_ar (pc_q := 48) (st_q := [.int (i32 (1))]) rfl rfl rfl rfl ?_
        refine jx_rt (v := some (.int (i32 (1)))) rfl rfl rfl rfl rfl (by first | rfl | exact jRet_b (by omega)) ?_
        exact ⟨(1), rfl, rfl, by omega, trivial⟩
      · have _q := h2
        refine jx_hp (pc_q := 21) (st_q := [.ref 1]) rfl rfl rfl rfl rfl rfl ?_
        refine jx_ld (pc_q := 23) (l_q := L) (st_q := [.int (i32 (k)), .ref 1]) rfl (jl_iload gL_4) ?_
        refine jx_sc (pc_q := 26) (n := 109) rfl rfl rfl ⟨(Nat.le_of_ble_eq_true rfl), (by decide)⟩ (by decide) (by omega) (by omega) (by omega) rfl (fun r3 hr3 => ?_)
        refine jx_ld (pc_q := 27) (l_q := L) (st_q := [rv (me), .int (i32 (r3))]) rfl (jl_rvn gL_0) ?_
        refine jx_ld (pc_q := 28) (l_q := L) (st_q := [.int (i32 (fs)), rv (me), .int (i32 (r3))]) rfl (jl_iloadn gL_3) ?_
        refine jx_ld (pc_q := 30) (l_q := L) (st_q := [.int (i32 (k)), .int (i32 (fs)), rv (me), .int (i32 (r3))]) rfl (jl_iload gL_4) ?_
        refine jx_add (pc_q := 31) rfl rfl ?_
        obtain ⟨z4, ez4⟩ : ∃ q, q = (i32 ((fs + k))).toInt := ⟨_, rfl⟩
        have bz4 : (-2147483648 : Int) ≤ z4 ∧ z4 ≤ 2147483647 := ez4 ▸ i32_rg _
        rw [show i32 ((fs + k)) = i32 z4 by rw [ez4, i32_of]]
        clear ez4
        refine jx_ld (pc_q := 32) (l_q := L) (st_q := [.int (i32 (wd)), .int (i32 (z4)), rv (me), .int (i32 (r3))]) rfl (jl_iloadn gL_1) ?_
        refine jx_sub (pc_q := 33) rfl rfl ?_
        obtain ⟨z5, ez5⟩ : ∃ q, q = (i32 ((z4 - wd))).toInt := ⟨_, rfl⟩
        have bz5 : (-2147483648 : Int) ≤ z5 ∧ z5 ≤ 2147483647 := ez5 ▸ i32_rg _
        rw [show i32 ((z4 - wd)) = i32 z5 by rw [ez5, i32_of]]
        clear ez5
        refine cx_vi (c := 10) (a := me) (st := [.int (i32 (r3))]) (as := [.int (i32 (z5))]) rfl rfl rfl o_me t_me (by decide) rfl ⟨rfl, rfl, (by rw [jS_i, jS_0]; exact Nat.le_of_ble_eq_true rfl)⟩ rfl (k_LScanner_sign (dd := d) (R := R) (m := m) (tg := tg) (ln := ln) (F := F) (me := me) (a0 := z5) (hd := by omega) (hC := hC) (o_me := o_me) (t_me := t_me) (h_a0 := by omega)) (fun o V_q hq => ?_)
        obtain ⟨r6, rfl, rfl, b7, -⟩ := hq
        refine Or.inr (Or.inl ⟨_, rfl, ?_⟩)
        refine jx_icmp_eq (pc_q := 39) (tg := 41) rfl rfl rfl (by omega) (by omega) (by omega) (by omega) (fun h8 => ?_) (fun h8 => ?_)
        · have _q := h8
          refine jx_inc (pc_q := 44) (l_q := jSto1 L 4 (.int (i32 (k + (1))))) (x := k) rfl gL_4 (by decide) rfl rfl ?_
          obtain ⟨L9, eL9⟩ : ∃ q : jL, q = jSto1 L 4 (.int (i32 ((k + (1))))) := ⟨_, rfl⟩
          rw [← eL9]
          have g10 : jGet L9 0 = some (rv (me)) := eL9 ▸ jg_nr (by decide) gL_0
          have g11 : jGet L9 1 = some (.int (i32 (wd))) := eL9 ▸ jg_ne (by decide) gL_1 rfl
          have g12 : jGet L9 2 = some (.int (i32 (en))) := eL9 ▸ jg_ne (by decide) gL_2 rfl
          have g13 : jGet L9 3 = some (.int (i32 (fs))) := eL9 ▸ jg_ne (by decide) gL_3 rfl
          have g14 : jGet L9 4 = some (.int (i32 ((k + (1))))) := eL9 ▸ jg_eq
          clear eL9
          refine jx_go (tg := 3) rfl rfl ?_
          exact ih _ (by omega) L9 ((k + (1))) rfl g10 g11 g12 g13 g14 (by omega) (by omega)
        · have _q := h8
          refine jx_ar (pc_q := 40) (st_q := [.int (i32 (0))]) rfl rfl rfl rfl ?_
          refine jx_rt (v := some (.int (i32 (0)))) rfl rfl rfl rfl rfl (by first | rfl | exact jRet_b (by omega)) ?_
          exact ⟨(0), rfl, rfl, by omega, trivial⟩
set_option maxRecDepth 20000 in
set_option maxHeartbeats 4000000 in
theorem k_LScanner_isHere {X : jX} {dd : Nat} {R : Nat → jC} {m : Nat} {tg ln : Int → Int} {F : Int → Int → Int} {me wd en fs : Int} (hd : 2 ≤ dd) (hC : HC 0 m tg ln F) (o_me : own m me) (t_me : tg me = 11) (h_wd : (-2147483648 : Int) ≤ wd ∧ wd ≤ 2147483647) (h_en : (-2147483648 : Int) ≤ en ∧ en ≤ 2147483647) (h_fs : (-2147483648 : Int) ≤ fs ∧ fs ≤ 2147483647) (p_0 : 0 ≤ wd) : wk X dd 222 [rv me, .int (i32 wd), .int (i32 en), .int (i32 fs)] (cV R m tg ln F) (fun o V_q => ∃ (r : Int), V_q = cV R m tg ln F ∧ o = .inl (some (.int (i32 r))) ∧ (0 ≤ r ∧ r ≤ 1) ∧ True) := by
  obtain ⟨d, rfl⟩ : ∃ d, dd = d + 1 := ⟨dd - 1, by omega⟩
  refine wk_of (e := jm222) rfl (by rw [jS_r, jS_i, jS_i, jS_i, jS_0]; exact Nat.le_of_ble_eq_true rfl) ?_
  rw [la_r, la_i, la_i, la_i, la_0]
  show wj X d jm222 (0, [(0, rv (me)), (1, .int (i32 (wd))), (2, .int (i32 (en))), (3, .int (i32 (fs)))], [], cV R m tg ln F) _
  obtain ⟨L0, eL0⟩ : ∃ q : jL, q = [(0, rv (me)), (1, .int (i32 (wd))), (2, .int (i32 (en))), (3, .int (i32 (fs)))] := ⟨_, rfl⟩
  rw [← eL0]
  have g15 : jGet L0 0 = some (rv (me)) := eL0 ▸ (rfl : jGet [(0, rv (me)), (1, .int (i32 (wd))), (2, .int (i32 (en))), (3, .int (i32 (fs)))] 0 = some (rv (me)))
  have g16 : jGet L0 1 = some (.int (i32 (wd))) := eL0 ▸ (rfl : jGet [(0, rv (me)), (1, .int (i32 (wd))), (2, .int (i32 (en))), (3, .int (i32 (fs)))] 1 = some (.int (i32 (wd))))
  have g17 : jGet L0 2 = some (.int (i32 (en))) := eL0 ▸ (rfl : jGet [(0, rv (me)), (1, .int (i32 (wd))), (2, .int (i32 (en))), (3, .int (i32 (fs)))] 2 = some (.int (i32 (en))))
  have g18 : jGet L0 3 = some (.int (i32 (fs))) := eL0 ▸ (rfl : jGet [(0, rv (me)), (1, .int (i32 (wd))), (2, .int (i32 (en))), (3, .int (i32 (fs)))] 3 = some (.int (i32 (fs))))
  clear eL0
  refine jx_ld (pc_q := 1) (l_q := L0) (st_q := [.int (i32 (wd))]) rfl (jl_iloadn g16) ?_
  refine jx_ld (pc_q := 3) (l_q := jSto1 L0 4 (.int (i32 (wd)))) (st_q := []) rfl rfl ?_
  obtain ⟨L19, eL19⟩ : ∃ q : jL, q = jSto1 L0 4 (.int (i32 (wd))) := ⟨_, rfl⟩
  rw [← eL19]
  have g20 : jGet L19 0 = some (rv (me)) := eL19 ▸ jg_nr (by decide) g15
  have g21 : jGet L19 1 = some (.int (i32 (wd))) := eL19 ▸ jg_ne (by decide) g16 rfl
  have g22 : jGet L19 2 = some (.int (i32 (en))) := eL19 ▸ jg_ne (by decide) g17 rfl
  have g23 : jGet L19 3 = some (.int (i32 (fs))) := eL19 ▸ jg_ne (by decide) g18 rfl
  have g24 : jGet L19 4 = some (.int (i32 (wd))) := eL19 ▸ jg_eq
  clear eL19
  exact k_LScanner_isHere_at_3 (X := X) (d := d) (R := R) (m := m) (tg := tg) (ln := ln) (F := F) (me := me) (wd := wd) (en := en) (fs := fs) (hd := hd) (hC := hC) (o_me := o_me) (t_me := t_me) (h_wd := h_wd) (h_en := h_en) (h_fs := h_fs) (p_0 := p_0) _ L19 (wd) rfl g20 g21 g22 g23 g24 (by omega) (by omega)
set_option maxRecDepth 20000 in
set_option maxHeartbeats 4000000 in
theorem k_LScanner_scanKeyword_at_54 {X : jX} {d : Nat} {R : Nat → jC} {m : Nat} {tg ln : Int → Int} {F : Int → Int → Int} {me : Int} (hd : 3 ≤ d + 1) (hC : HC 0 m tg ln F) (o_me : own m me) (t_me : tg me = 11) (p_0 : F me (11 : Int) < F me (10 : Int)) (p_1 : F me (10 : Int) ≤ 3000) : ∀ (mm : Nat) (L : jL) (Fx : Int → Int → Int) (fs fd wd kd k : Int), (1000 - k).toNat = mm → jGet L 0 = some (rv (me)) → jGet L 1 = some (.int (i32 fs)) → jGet L 2 = some (.int (i32 fd)) → jGet L 3 = some (.int (i32 wd)) → jGet L 4 = some (.int (i32 kd)) → jGet L 5 = some (.int (i32 k)) → HC 0 m tg ln Fx → Fq 0 [(11, 7), (11, 11), (20, -5), (21, -5), (22, -5)] m tg F Fx → ((-2147483648 : Int) ≤ fs ∧ fs ≤ 2147483647) → ((-2147483648 : Int) ≤ fd ∧ fd ≤ 2147483647) → ((-2147483648 : Int) ≤ wd ∧ wd ≤ 2147483647) → ((-2147483648 : Int) ≤ kd ∧ kd ≤ 2147483647) → ((-2147483648 : Int) ≤ k ∧ k ≤ 2147483647) → (F me (11 : Int) ≤ Fx me (11 : Int)) → (Fx me (11 : Int) ≤ F me (10 : Int)) → (0 ≤ k) → (k ≤ 1000) → (0 ≤ wd) → (wd ≤ 1000) → wj X d jm221 (54, L, [], cV R m tg ln Fx) (fun o V_q => ∃ (F_q : Int → Int → Int), V_q = cV R m tg ln F_q ∧ o = .inl none ∧ HC 0 m tg ln F_q ∧ Fq 0 [(11, 7), (11, 11), (20, -5), (21, -5), (22, -5)] m tg F F_q ∧ (F me (11 : Int) ≤ F_q me (11 : Int)) ∧ (F_q me (11 : Int) ≤ F me (10 : Int) + 1) ∧ True) := by
  intro mm
  induction mm using Nat.strongRecOn with
  | ind mm ih =>
    intro L Fx fs fd wd kd k hmm gL_0 gL_1 gL_2 gL_3 gL_4 gL_5 hCx hMx rx_fs rx_fd rx_wd rx_kd rx_k iv_0 iv_1 iv_2 iv_3 iv_4 iv_5
    refine jx_ld (pc_q := 56) (l_q := L) (st_q := [.int (i32 (k))]) rfl (jl_iload gL_5) ?_
    refine jx_hp (pc_q := 58) (st_q := [.ref 1, .int (i32 (k))]) rfl rfl rfl rfl rfl rfl ?_
    refine jx_sl (pc_q := 61) (n := 109) rfl rfl rfl ⟨(by rw [jS_i, jS_0]; exact Nat.le_of_ble_eq_true rfl), (by decide)⟩ (by decide) rfl ?_
    refine jx_icmp_ge (pc_q := 64) (tg := 117) rfl rfl rfl (by omega) (by omega) (by decide) (by decide) (fun h1 => ?_) (fun h1 => ?_)
    · have _q := h1
      refine jx_ld (pc_q := 118) (l_q := L) (st_q := [rv (me)]) rfl (jl_rvn gL_0) ?_
      refine jx_ld (pc_q := 119) (l_q := L) (st_q := [.int (i32 (fd)), rv (me)]) rfl (jl_iloadn gL_2) ?_
      refine jx_ld (pc_q := 120) (l_q := L) (st_q := [.int (i32 (fs)), .int (i32 (fd)), rv (me)]) rfl (jl_iloadn gL_1) ?_
      refine jx_ar (pc_q := 121) (st_q := [.long (Int64.ofNat 0), .int (i32 (fs)), .int (i32 (fd)), rv (me)]) rfl rfl rfl rfl ?_
      refine cx_vi (c := 10) (a := me) (st := []) (as := [.int (i32 (fd)), .int (i32 (fs)), .long (Int64.ofNat 0)]) rfl rfl rfl o_me t_me (by decide) rfl ⟨rfl, rfl, (Nat.le_of_ble_eq_true rfl)⟩ rfl (k_LScanner_add (dd := d) (R := R) (m := m) (tg := tg) (ln := ln) (F := Fx) (me := me) (kd := fd) (fr := fs) (vl := Int64.ofNat 0) (hd := by omega) (hC := hCx) (o_me := o_me) (t_me := t_me) (h_kd := by omega) (h_fr := by omega)) (fun o V_q hq => ?_)
      obtain ⟨F2, rfl, rfl, hC3, hM4, -⟩ := hq
      have hM5 : Fq 0 [(11, 7), (11, 11), (20, -5), (21, -5), (22, -5)] m tg F F2 := Fq_t (ln := ln) (ln1 := ln) hMx Ex_r hM4 (by decide) (Or.inl rfl)
      refine Or.inl ⟨rfl, ?_⟩
      refine jx_rt (v := none) rfl rfl rfl rfl rfl rfl ?_
      have q6 : F2 (me) (11 : Int) = Fx (me) (11 : Int) := (show F2 (me) (11 : Int) = Fx (me) (11 : Int) from hM4 _ _ o_me (own_z o_me) (by rw [t_me]; rfl))
      exact ⟨F2, rfl, rfl, hC3, hM5, by omega, by omega, trivial⟩
    · have _q := h1
      refine jx_hp (pc_q := 66) (st_q := [.ref 1]) rfl rfl rfl rfl rfl rfl ?_
      refine jx_ld (pc_q := 68) (l_q := L) (st_q := [.int (i32 (k)), .ref 1]) rfl (jl_iload gL_5) ?_
      refine jx_sc (pc_q := 71) (n := 109) rfl rfl rfl ⟨(Nat.le_of_ble_eq_true rfl), (by decide)⟩ (by decide) (by omega) (by omega) (by omega) rfl (fun r7 hr7 => ?_)
      refine jx_ar (pc_q := 73) (st_q := [.int (i32 (32)), .int (i32 (r7))]) rfl rfl rfl rfl ?_
      refine jx_icmp_ne (pc_q := 76) (tg := 111) rfl rfl rfl (by omega) (by omega) (by decide) (by decide) (fun h8 => ?_) (fun h8 => ?_)
      · have _q := h8
        refine jx_inc (pc_q := 114) (l_q := jSto1 L 5 (.int (i32 (k + (1))))) (x := k) rfl gL_5 (by decide) rfl rfl ?_
        obtain ⟨L9, eL9⟩ : ∃ q : jL, q = jSto1 L 5 (.int (i32 ((k + (1))))) := ⟨_, rfl⟩
        rw [← eL9]
        have g10 : jGet L9 0 = some (rv (me)) := eL9 ▸ jg_nr (by decide) gL_0
        have g11 : jGet L9 1 = some (.int (i32 (fs))) := eL9 ▸ jg_ne (by decide) gL_1 rfl
        have g12 : jGet L9 2 = some (.int (i32 (fd))) := eL9 ▸ jg_ne (by decide) gL_2 rfl
        have g13 : jGet L9 3 = some (.int (i32 (wd))) := eL9 ▸ jg_ne (by decide) gL_3 rfl
        have g14 : jGet L9 4 = some (.int (i32 (kd))) := eL9 ▸ jg_ne (by decide) gL_4 rfl
        have g15 : jGet L9 5 = some (.int (i32 ((k + (1))))) := eL9 ▸ jg_eq
        clear eL9
        refine jx_go (tg := 54) rfl rfl ?_
        exact ih _ (by omega) L9 Fx (fs) (fd) (wd) (kd) ((k + (1))) rfl g10 g11 g12 g13 g14 g15 hCx hMx (by omega) (by omega) (by omega) (by omega) (by omega) (by omega) (by omega) (by omega) (by omega) (by omega) (by omega)
      · have _q := h8
        refine jx_ld (pc_q := 78) (l_q := L) (st_q := [.int (i32 (k))]) rfl (jl_iload gL_5) ?_
        refine jx_ld (pc_q := 79) (l_q := L) (st_q := [.int (i32 (wd)), .int (i32 (k))]) rfl (jl_iloadn gL_3) ?_
        refine jx_sub (pc_q := 80) rfl rfl ?_
        refine jx_ld (pc_q := 81) (l_q := L) (st_q := [rv (me), .int (i32 ((k - wd)))]) rfl (jl_rvn gL_0) ?_
        refine cx_gi (pc_q := 84) (c := 10) (q := 11) (v := Fx (me) (11 : Int)) rfl rfl (by decide) (by decide) (Or.inl rfl) rfl o_me t_me rfl ?_
        have b16 : (0 : Int) ≤ Fx (me) (11 : Int) ∧ Fx (me) (11 : Int) ≤ 3002 := by have z := HC_i (c := 10) (q := 11) hCx o_me t_me (by decide) rfl; rw [show Fx (me) ((11 : Nat) : Int) = Fx (me) (11 : Int) from rfl] at z; exact z
        refine jx_ld (pc_q := 85) (l_q := L) (st_q := [.int (i32 (fs)), .int (i32 (Fx (me) (11 : Int))), .int (i32 ((k - wd)))]) rfl (jl_iloadn gL_1) ?_
        refine jx_sub (pc_q := 86) rfl rfl ?_
        obtain ⟨z17, ez17⟩ : ∃ q, q = (i32 ((Fx (me) (11 : Int) - fs))).toInt := ⟨_, rfl⟩
        have bz17 : (-2147483648 : Int) ≤ z17 ∧ z17 ≤ 2147483647 := ez17 ▸ i32_rg _
        rw [show i32 ((Fx (me) (11 : Int) - fs)) = i32 z17 by rw [ez17, i32_of]]
        clear ez17
        refine jx_icmp_ne (pc_q := 89) (tg := 103) rfl rfl rfl (by omega) (by omega) (by omega) (by omega) (fun h18 => ?_) (fun h18 => ?_)
        · have _q := h18
          refine jx_inc (pc_q := 106) (l_q := jSto1 L 4 (.int (i32 (kd + (1))))) (x := kd) rfl gL_4 (by decide) rfl rfl ?_
          obtain ⟨z19, ez19⟩ : ∃ q, q = (i32 ((kd + (1)))).toInt := ⟨_, rfl⟩
          have bz19 : (-2147483648 : Int) ≤ z19 ∧ z19 ≤ 2147483647 := ez19 ▸ i32_rg _
          rw [show i32 ((kd + (1))) = i32 z19 by rw [ez19, i32_of]]
          clear ez19
          obtain ⟨L20, eL20⟩ : ∃ q : jL, q = jSto1 L 4 (.int (i32 (z19))) := ⟨_, rfl⟩
          rw [← eL20]
          have g21 : jGet L20 0 = some (rv (me)) := eL20 ▸ jg_nr (by decide) gL_0
          have g22 : jGet L20 1 = some (.int (i32 (fs))) := eL20 ▸ jg_ne (by decide) gL_1 rfl
          have g23 : jGet L20 2 = some (.int (i32 (fd))) := eL20 ▸ jg_ne (by decide) gL_2 rfl
          have g24 : jGet L20 3 = some (.int (i32 (wd))) := eL20 ▸ jg_ne (by decide) gL_3 rfl
          have g25 : jGet L20 5 = some (.int (i32 (k))) := eL20 ▸ jg_ne (by decide) gL_5 rfl
          have g26 : jGet L20 4 = some (.int (i32 (z19))) := eL20 ▸ jg_eq
          clear eL20
          refine jx_ld (pc_q := 108) (l_q := L20) (st_q := [.int (i32 (k))]) rfl (jl_iload g25) ?_
          refine jx_ar (pc_q := 109) (st_q := [.int (i32 (1)), .int (i32 (k))]) rfl rfl rfl rfl ?_
          refine jx_add (pc_q := 110) rfl rfl ?_
          refine jx_ld (pc_q := 111) (l_q := jSto1 L20 3 (.int (i32 ((k + 1))))) (st_q := []) rfl rfl ?_
          obtain ⟨L27, eL27⟩ : ∃ q : jL, q = jSto1 L20 3 (.int (i32 ((k + 1)))) := ⟨_, rfl⟩
          rw [← eL27]
          have g28 : jGet L27 0 = some (rv (me)) := eL27 ▸ jg_nr (by decide) g21
          have g29 : jGet L27 1 = some (.int (i32 (fs))) := eL27 ▸ jg_ne (by decide) g22 rfl
          have g30 : jGet L27 2 = some (.int (i32 (fd))) := eL27 ▸ jg_ne (by decide) g23 rfl
          have g31 : jGet L27 5 = some (.int (i32 (k))) := eL27 ▸ jg_ne (by decide) g25 rfl
          have g32 : jGet L27 4 = some (.int (i32 (z19))) := eL27 ▸ jg_ne (by decide) g26 rfl
          have g33 : jGet L27 3 = some (.int (i32 ((k + 1)))) := eL27 ▸ jg_eq
          clear eL27
          refine jx_inc (pc_q := 114) (l_q := jSto1 L27 5 (.int (i32 (k + (1))))) (x := k) rfl g31 (by decide) rfl rfl ?_
          obtain ⟨L34, eL34⟩ : ∃ q : jL, q = jSto1 L27 5 (.int (i32 ((k + (1))))) := ⟨_, rfl⟩
          rw [← eL34]
          have g35 : jGet L34 0 = some (rv (me)) := eL34 ▸ jg_nr (by decide) g28
          have g36 : jGet L34 1 = some (.int (i32 (fs))) := eL34 ▸ jg_ne (by decide) g29 rfl
          have g37 : jGet L34 2 = some (.int (i32 (fd))) := eL34 ▸ jg_ne (by decide) g30 rfl
          have g38 : jGet L34 4 = some (.int (i32 (z19))) := eL34 ▸ jg_ne (by decide) g32 rfl
          have g39 : jGet L34 3 = some (.int (i32 ((k + 1)))) := eL34 ▸ jg_ne (by decide) g33 rfl
          have g40 : jGet L34 5 = some (.int (i32 ((k + (1))))) := eL34 ▸ jg_eq
          clear eL34
          refine jx_go (tg := 54) rfl rfl ?_
          exact ih _ (by omega) L34 Fx (fs) (fd) ((k + 1)) (z19) ((k + (1))) rfl g35 g36 g37 g39 g38 g40 hCx hMx (by omega) (by omega) (by omega) (by omega) (by omega) (by omega) (by omega) (by omega) (by omega) (by omega) (by omega)
        · have _q := h18
          refine jx_ld (pc_q := 90) (l_q := L) (st_q := [rv (me)]) rfl (jl_rvn gL_0) ?_
          refine jx_ld (pc_q := 91) (l_q := L) (st_q := [.int (i32 (wd)), rv (me)]) rfl (jl_iloadn gL_3) ?_
          refine jx_ld (pc_q := 93) (l_q := L) (st_q := [.int (i32 (k)), .int (i32 (wd)), rv (me)]) rfl (jl_iload gL_5) ?_
          refine jx_ld (pc_q := 94) (l_q := L) (st_q := [.int (i32 (fs)), .int (i32 (k)), .int (i32 (wd)), rv (me)]) rfl (jl_iloadn gL_1) ?_
          refine cx_vi (c := 10) (a := me) (st := []) (as := [.int (i32 (wd)), .int (i32 (k)), .int (i32 (fs))]) rfl rfl rfl o_me t_me (by decide) rfl ⟨rfl, rfl, (Nat.le_of_ble_eq_true rfl)⟩ rfl (k_LScanner_isHere (dd := d) (R := R) (m := m) (tg := tg) (ln := ln) (F := Fx) (me := me) (wd := wd) (en := k) (fs := fs) (hd := by omega) (hC := hCx) (o_me := o_me) (t_me := t_me) (h_wd := by omega) (h_en := by omega) (h_fs := by omega) (p_0 := by omega)) (fun o V_q hq => ?_)
          obtain ⟨r41, rfl, rfl, b42, -⟩ := hq
          refine Or.inr (Or.inl ⟨_, rfl, ?_⟩)
          refine jx_if_eq (pc_q := 100) (tg := 103) rfl rfl rfl (by omega) (by omega) (fun h43 => ?_) (fun h43 => ?_)
          · have _q := h43
            refine jx_inc (pc_q := 106) (l_q := jSto1 L 4 (.int (i32 (kd + (1))))) (x := kd) rfl gL_4 (by decide) rfl rfl ?_
            obtain ⟨z44, ez44⟩ : ∃ q, q = (i32 ((kd + (1)))).toInt := ⟨_, rfl⟩
            have bz44 : (-2147483648 : Int) ≤ z44 ∧ z44 ≤ 2147483647 := ez44 ▸ i32_rg _
            rw [show i32 ((kd + (1))) = i32 z44 by rw [ez44, i32_of]]
            clear ez44
            obtain ⟨L45, eL45⟩ : ∃ q : jL, q = jSto1 L 4 (.int (i32 (z44))) := ⟨_, rfl⟩
            rw [← eL45]
            have g46 : jGet L45 0 = some (rv (me)) := eL45 ▸ jg_nr (by decide) gL_0
            have g47 : jGet L45 1 = some (.int (i32 (fs))) := eL45 ▸ jg_ne (by decide) gL_1 rfl
            have g48 : jGet L45 2 = some (.int (i32 (fd))) := eL45 ▸ jg_ne (by decide) gL_2 rfl
            have g49 : jGet L45 3 = some (.int (i32 (wd))) := eL45 ▸ jg_ne (by decide) gL_3 rfl
            have g50 : jGet L45 5 = some (.int (i32 (k))) := eL45 ▸ jg_ne (by decide) gL_5 rfl
            have g51 : jGet L45 4 = some (.int (i32 (z44))) := eL45 ▸ jg_eq
            clear eL45
            refine jx_ld (pc_q := 108) (l_q := L45) (st_q := [.int (i32 (k))]) rfl (jl_iload g50) ?_
            refine jx_ar (pc_q := 109) (st_q := [.int (i32 (1)), .int (i32 (k))]) rfl rfl rfl rfl ?_
            refine jx_add (pc_q := 110) rfl rfl ?_
            refine jx_ld (pc_q := 111) (l_q := jSto1 L45 3 (.int (i32 ((k + 1))))) (st_q := []) rfl rfl ?_
            obtain ⟨L52, eL52⟩ : ∃ q : jL, q = jSto1 L45 3 (.int (i32 ((k + 1)))) := ⟨_, rfl⟩
            rw [← eL52]
            have g53 : jGet L52 0 = some (rv (me)) := eL52 ▸ jg_nr (by decide) g46
            have g54 : jGet L52 1 = some (.int (i32 (fs))) := eL52 ▸ jg_ne (by decide) g47 rfl
            have g55 : jGet L52 2 = some (.int (i32 (fd))) := eL52 ▸ jg_ne (by decide) g48 rfl
            have g56 : jGet L52 5 = some (.int (i32 (k))) := eL52 ▸ jg_ne (by decide) g50 rfl
            have g57 : jGet L52 4 = some (.int (i32 (z44))) := eL52 ▸ jg_ne (by decide) g51 rfl
            have g58 : jGet L52 3 = some (.int (i32 ((k + 1)))) := eL52 ▸ jg_eq
            clear eL52
            refine jx_inc (pc_q := 114) (l_q := jSto1 L52 5 (.int (i32 (k + (1))))) (x := k) rfl g56 (by decide) rfl rfl ?_
            obtain ⟨L59, eL59⟩ : ∃ q : jL, q = jSto1 L52 5 (.int (i32 ((k + (1))))) := ⟨_, rfl⟩
            rw [← eL59]
            have g60 : jGet L59 0 = some (rv (me)) := eL59 ▸ jg_nr (by decide) g53
            have g61 : jGet L59 1 = some (.int (i32 (fs))) := eL59 ▸ jg_ne (by decide) g54 rfl
            have g62 : jGet L59 2 = some (.int (i32 (fd))) := eL59 ▸ jg_ne (by decide) g55 rfl
            have g63 : jGet L59 4 = some (.int (i32 (z44))) := eL59 ▸ jg_ne (by decide) g57 rfl
            have g64 : jGet L59 3 = some (.int (i32 ((k + 1)))) := eL59 ▸ jg_ne (by decide) g58 rfl
            have g65 : jGet L59 5 = some (.int (i32 ((k + (1))))) := eL59 ▸ jg_eq
            clear eL59
            refine jx_go (tg := 54) rfl rfl ?_
            exact ih _ (by omega) L59 Fx (fs) (fd) ((k + 1)) (z44) ((k + (1))) rfl g60 g61 g62 g64 g63 g65 hCx hMx (by omega) (by omega) (by omega) (by omega) (by omega) (by omega) (by omega) (by omega) (by omega) (by omega) (by omega)
          · have _q := h43
            refine jx_ld (pc_q := 102) (l_q := L) (st_q := [.int (i32 (kd))]) rfl (jl_iload gL_4) ?_
            refine jx_ld (pc_q := 103) (l_q := jSto1 L 2 (.int (i32 (kd)))) (st_q := []) rfl rfl ?_
            obtain ⟨L66, eL66⟩ : ∃ q : jL, q = jSto1 L 2 (.int (i32 (kd))) := ⟨_, rfl⟩
            rw [← eL66]
            have g67 : jGet L66 0 = some (rv (me)) := eL66 ▸ jg_nr (by decide) gL_0
            have g68 : jGet L66 1 = some (.int (i32 (fs))) := eL66 ▸ jg_ne (by decide) gL_1 rfl
            have g69 : jGet L66 3 = some (.int (i32 (wd))) := eL66 ▸ jg_ne (by decide) gL_3 rfl
            have g70 : jGet L66 4 = some (.int (i32 (kd))) := eL66 ▸ jg_ne (by decide) gL_4 rfl
            have g71 : jGet L66 5 = some (.int (i32 (k))) := eL66 ▸ jg_ne (by decide) gL_5 rfl
            have g72 : jGet L66 2 = some (.int (i32 (kd))) := eL66 ▸ jg_eq
            clear eL66
            refine jx_inc (pc_q := 106) (l_q := jSto1 L66 4 (.int (i32 (kd + (1))))) (x := kd) rfl g70 (by decide) rfl rfl ?_
            obtain ⟨z73, ez73⟩ : ∃ q, q = (i32 ((kd + (1)))).toInt := ⟨_, rfl⟩
            have bz73 : (-2147483648 : Int) ≤ z73 ∧ z73 ≤ 2147483647 := ez73 ▸ i32_rg _
            rw [show i32 ((kd + (1))) = i32 z73 by rw [ez73, i32_of]]
            clear ez73
            obtain ⟨L74, eL74⟩ : ∃ q : jL, q = jSto1 L66 4 (.int (i32 (z73))) := ⟨_, rfl⟩
            rw [← eL74]
            have g75 : jGet L74 0 = some (rv (me)) := eL74 ▸ jg_nr (by decide) g67
            have g76 : jGet L74 1 = some (.int (i32 (fs))) := eL74 ▸ jg_ne (by decide) g68 rfl
            have g77 : jGet L74 3 = some (.int (i32 (wd))) := eL74 ▸ jg_ne (by decide) g69 rfl
            have g78 : jGet L74 5 = some (.int (i32 (k))) := eL74 ▸ jg_ne (by decide) g71 rfl
            have g79 : jGet L74 2 = some (.int (i32 (kd))) := eL74 ▸ jg_ne (by decide) g72 rfl
            have g80 : jGet L74 4 = some (.int (i32 (z73))) := eL74 ▸ jg_eq
            clear eL74
            refine jx_ld (pc_q := 108) (l_q := L74) (st_q := [.int (i32 (k))]) rfl (jl_iload g78) ?_
            refine jx_ar (pc_q := 109) (st_q := [.int (i32 (1)), .int (i32 (k))]) rfl rfl rfl rfl ?_
            refine jx_add (pc_q := 110) rfl rfl ?_
            refine jx_ld (pc_q := 111) (l_q := jSto1 L74 3 (.int (i32 ((k + 1))))) (st_q := []) rfl rfl ?_
            obtain ⟨L81, eL81⟩ : ∃ q : jL, q = jSto1 L74 3 (.int (i32 ((k + 1)))) := ⟨_, rfl⟩
            rw [← eL81]
            have g82 : jGet L81 0 = some (rv (me)) := eL81 ▸ jg_nr (by decide) g75
            have g83 : jGet L81 1 = some (.int (i32 (fs))) := eL81 ▸ jg_ne (by decide) g76 rfl
            have g84 : jGet L81 5 = some (.int (i32 (k))) := eL81 ▸ jg_ne (by decide) g78 rfl
            have g85 : jGet L81 2 = some (.int (i32 (kd))) := eL81 ▸ jg_ne (by decide) g79 rfl
            have g86 : jGet L81 4 = some (.int (i32 (z73))) := eL81 ▸ jg_ne (by decide) g80 rfl
            have g87 : jGet L81 3 = some (.int (i32 ((k + 1)))) := eL81 ▸ jg_eq
            clear eL81
            refine jx_inc (pc_q := 114) (l_q := jSto1 L81 5 (.int (i32 (k + (1))))) (x := k) rfl g84 (by decide) rfl rfl ?_
            obtain ⟨L88, eL88⟩ : ∃ q : jL, q = jSto1 L81 5 (.int (i32 ((k + (1))))) := ⟨_, rfl⟩
            rw [← eL88]
            have g89 : jGet L88 0 = some (rv (me)) := eL88 ▸ jg_nr (by decide) g82
            have g90 : jGet L88 1 = some (.int (i32 (fs))) := eL88 ▸ jg_ne (by decide) g83 rfl
            have g91 : jGet L88 2 = some (.int (i32 (kd))) := eL88 ▸ jg_ne (by decide) g85 rfl
            have g92 : jGet L88 4 = some (.int (i32 (z73))) := eL88 ▸ jg_ne (by decide) g86 rfl
            have g93 : jGet L88 3 = some (.int (i32 ((k + 1)))) := eL88 ▸ jg_ne (by decide) g87 rfl
            have g94 : jGet L88 5 = some (.int (i32 ((k + (1))))) := eL88 ▸ jg_eq
            clear eL88
            refine jx_go (tg := 54) rfl rfl ?_
            exact ih _ (by omega) L88 Fx (fs) (kd) ((k + 1)) (z73) ((k + (1))) rfl g89 g90 g91 g93 g92 g94 hCx hMx (by omega) (by omega) (by omega) (by omega) (by omega) (by omega) (by omega) (by omega) (by omega) (by omega) (by omega)
set_option maxRecDepth 20000 in
set_option maxHeartbeats 4000000 in
theorem k_LScanner_scanKeyword_at_5 {X : jX} {d : Nat} {R : Nat → jC} {m : Nat} {tg ln : Int → Int} {F : Int → Int → Int} {me : Int} (hd : 3 ≤ d + 1) (hC : HC 0 m tg ln F) (o_me : own m me) (t_me : tg me = 11) (p_0 : F me (11 : Int) < F me (10 : Int)) (p_1 : F me (10 : Int) ≤ 3000) : ∀ (mm : Nat) (L : jL) (Fx : Int → Int → Int) (fs : Int), (F me (10 : Int) - Fx me (11 : Int)).toNat = mm → jGet L 0 = some (rv (me)) → jGet L 1 = some (.int (i32 fs)) → HC 0 m tg ln Fx → Fq 0 [(11, 7), (11, 11), (20, -5), (21, -5), (22, -5)] m tg F Fx → ((-2147483648 : Int) ≤ fs ∧ fs ≤ 2147483647) → (F me (11 : Int) ≤ Fx me (11 : Int)) → (Fx me (11 : Int) ≤ F me (10 : Int)) → wj X d jm221 (5, L, [], cV R m tg ln Fx) (fun o V_q => ∃ (F_q : Int → Int → Int), V_q = cV R m tg ln F_q ∧ o = .inl none ∧ HC 0 m tg ln F_q ∧ Fq 0 [(11, 7), (11, 11), (20, -5), (21, -5), (22, -5)] m tg F F_q ∧ (F me (11 : Int) ≤ F_q me (11 : Int)) ∧ (F_q me (11 : Int) ≤ F me (10 : Int) + 1) ∧ True) := by
  intro mm
  induction mm using Nat.strongRecOn with
  | ind mm ih =>
    intro L Fx fs hmm gL_0 gL_1 hCx hMx rx_fs iv_0 iv_1
    refine jx_ld (pc_q := 6) (l_q := L) (st_q := [rv (me)]) rfl (jl_rvn gL_0) ?_
    refine cx_gi (pc_q := 9) (c := 10) (q := 11) (v := Fx (me) (11 : Int)) rfl rfl (by decide) (by decide) (Or.inl rfl) rfl o_me t_me rfl ?_
    have b95 : (0 : Int) ≤ Fx (me) (11 : Int) ∧ Fx (me) (11 : Int) ≤ 3002 := by have z := HC_i (c := 10) (q := 11) hCx o_me t_me (by decide) rfl; rw [show Fx (me) ((11 : Nat) : Int) = Fx (me) (11 : Int) from rfl] at z; exact z
    refine jx_ld (pc_q := 10) (l_q := L) (st_q := [rv (me), .int (i32 (Fx (me) (11 : Int)))]) rfl (jl_rvn gL_0) ?_
    refine cx_gi (pc_q := 13) (c := 10) (q := 10) (v := F (me) (10 : Int)) rfl rfl (by decide) (by decide) (Or.inl rfl) rfl o_me t_me (show Fx (me) (10 : Int) = F (me) (10 : Int) from hMx _ _ o_me (own_z o_me) (by rw [t_me]; rfl)) ?_
    have b96 : (0 : Int) ≤ F (me) (10 : Int) ∧ F (me) (10 : Int) ≤ 3000 := by have z := HC_i (c := 10) (q := 10) hCx o_me t_me (by decide) rfl; rw [show Fx (me) ((10 : Nat) : Int) = F (me) (10 : Int) from (show Fx (me) (10 : Int) = F (me) (10 : Int) from hMx _ _ o_me (own_z o_me) (by rw [t_me]; rfl))] at z; exact z
    refine jx_icmp_ge (pc_q := 16) (tg := 43) rfl rfl rfl (by omega) (by omega) (by omega) (by omega) (fun h97 => ?_) (fun h97 => ?_)
    · have _q := h97
      refine jx_ar (pc_q := 44) (st_q := [.int (i32 (1))]) rfl rfl rfl rfl ?_
      refine jx_ld (pc_q := 45) (l_q := jSto1 L 2 (.int (i32 (1)))) (st_q := []) rfl rfl ?_
      obtain ⟨L98, eL98⟩ : ∃ q : jL, q = jSto1 L 2 (.int (i32 (1))) := ⟨_, rfl⟩
      rw [← eL98]
      have g99 : jGet L98 0 = some (rv (me)) := eL98 ▸ jg_nr (by decide) gL_0
      have g100 : jGet L98 1 = some (.int (i32 (fs))) := eL98 ▸ jg_ne (by decide) gL_1 rfl
      have g101 : jGet L98 2 = some (.int (i32 (1))) := eL98 ▸ jg_eq
      clear eL98
      refine jx_ar (pc_q := 46) (st_q := [.int (i32 (0))]) rfl rfl rfl rfl ?_
      refine jx_ld (pc_q := 47) (l_q := jSto1 L98 3 (.int (i32 (0)))) (st_q := []) rfl rfl ?_
      obtain ⟨L102, eL102⟩ : ∃ q : jL, q = jSto1 L98 3 (.int (i32 (0))) := ⟨_, rfl⟩
      rw [← eL102]
      have g103 : jGet L102 0 = some (rv (me)) := eL102 ▸ jg_nr (by decide) g99
      have g104 : jGet L102 1 = some (.int (i32 (fs))) := eL102 ▸ jg_ne (by decide) g100 rfl
      have g105 : jGet L102 2 = some (.int (i32 (1))) := eL102 ▸ jg_ne (by decide) g101 rfl
      have g106 : jGet L102 3 = some (.int (i32 (0))) := eL102 ▸ jg_eq
      clear eL102
      refine jx_ar (pc_q := 49) (st_q := [.int (i32 (10))]) rfl rfl rfl rfl ?_
      refine jx_ld (pc_q := 51) (l_q := jSto1 L102 4 (.int (i32 (10)))) (st_q := []) rfl rfl ?_
      obtain ⟨L107, eL107⟩ : ∃ q : jL, q = jSto1 L102 4 (.int (i32 (10))) := ⟨_, rfl⟩
      rw [← eL107]
      have g108 : jGet L107 0 = some (rv (me)) := eL107 ▸ jg_nr (by decide) g103
      have g109 : jGet L107 1 = some (.int (i32 (fs))) := eL107 ▸ jg_ne (by decide) g104 rfl
      have g110 : jGet L107 2 = some (.int (i32 (1))) := eL107 ▸ jg_ne (by decide) g105 rfl
      have g111 : jGet L107 3 = some (.int (i32 (0))) := eL107 ▸ jg_ne (by decide) g106 rfl
      have g112 : jGet L107 4 = some (.int (i32 (10))) := eL107 ▸ jg_eq
      clear eL107
      refine jx_ar (pc_q := 52) (st_q := [.int (i32 (0))]) rfl rfl rfl rfl ?_
      refine jx_ld (pc_q := 54) (l_q := jSto1 L107 5 (.int (i32 (0)))) (st_q := []) rfl rfl ?_
      obtain ⟨L113, eL113⟩ : ∃ q : jL, q = jSto1 L107 5 (.int (i32 (0))) := ⟨_, rfl⟩
      rw [← eL113]
      have g114 : jGet L113 0 = some (rv (me)) := eL113 ▸ jg_nr (by decide) g108
      have g115 : jGet L113 1 = some (.int (i32 (fs))) := eL113 ▸ jg_ne (by decide) g109 rfl
      have g116 : jGet L113 2 = some (.int (i32 (1))) := eL113 ▸ jg_ne (by decide) g110 rfl
      have g117 : jGet L113 3 = some (.int (i32 (0))) := eL113 ▸ jg_ne (by decide) g111 rfl
      have g118 : jGet L113 4 = some (.int (i32 (10))) := eL113 ▸ jg_ne (by decide) g112 rfl
      have g119 : jGet L113 5 = some (.int (i32 (0))) := eL113 ▸ jg_eq
      clear eL113
      exact k_LScanner_scanKeyword_at_54 (X := X) (d := d) (R := R) (m := m) (tg := tg) (ln := ln) (F := F) (me := me) (hd := hd) (hC := hC) (o_me := o_me) (t_me := t_me) (p_0 := p_0) (p_1 := p_1) _ L113 Fx (fs) (1) (0) (10) (0) rfl g114 g115 g116 g117 g118 g119 hCx hMx (by omega) (by omega) (by omega) (by omega) (by omega) (by omega) (by omega) (by omega) (by omega) (by omega) (by omega)
    · have _q := h97
      refine jx_ld (pc_q := 17) (l_q := L) (st_q := [rv (me)]) rfl (jl_rvn gL_0) ?_
      refine jx_ld (pc_q := 18) (l_q := L) (st_q := [rv (me), rv (me)]) rfl (jl_rvn gL_0) ?_
      refine cx_gi (pc_q := 21) (c := 10) (q := 11) (v := Fx (me) (11 : Int)) rfl rfl (by decide) (by decide) (Or.inl rfl) rfl o_me t_me rfl ?_
      refine cx_vi (c := 10) (a := me) (st := []) (as := [.int (i32 (Fx (me) (11 : Int)))]) rfl rfl rfl o_me t_me (by decide) rfl ⟨rfl, rfl, (Nat.le_of_ble_eq_true rfl)⟩ rfl (k_LScanner_sign (dd := d) (R := R) (m := m) (tg := tg) (ln := ln) (F := Fx) (me := me) (a0 := Fx (me) (11 : Int)) (hd := by omega) (hC := hCx) (o_me := o_me) (t_me := t_me) (h_a0 := by omega)) (fun o V_q hq => ?_)
      obtain ⟨r120, rfl, rfl, b121, -⟩ := hq
      refine Or.inr (Or.inl ⟨_, rfl, ?_⟩)
      refine cx_st (st := []) (as := [.int (i32 (r120))]) rfl rfl rfl ⟨rfl, (Nat.le_of_ble_eq_true rfl)⟩ rfl (k_LScanner_capital (dd := d) (R := R) (m := m) (tg := tg) (ln := ln) (F := Fx) (a0 := r120) (hd := by omega) (hC := hCx) (h_a0 := by omega)) (fun o V_q hq => ?_)
      obtain ⟨r122, rfl, rfl, b123, -⟩ := hq
      refine Or.inr (Or.inl ⟨_, rfl, ?_⟩)
      refine jx_if_eq (pc_q := 30) (tg := 43) rfl rfl rfl (by omega) (by omega) (fun h124 => ?_) (fun h124 => ?_)
      · have _q := h124
        refine jx_ar (pc_q := 44) (st_q := [.int (i32 (1))]) rfl rfl rfl rfl ?_
        refine jx_ld (pc_q := 45) (l_q := jSto1 L 2 (.int (i32 (1)))) (st_q := []) rfl rfl ?_
        obtain ⟨L125, eL125⟩ : ∃ q : jL, q = jSto1 L 2 (.int (i32 (1))) := ⟨_, rfl⟩
        rw [← eL125]
        have g126 : jGet L125 0 = some (rv (me)) := eL125 ▸ jg_nr (by decide) gL_0
        have g127 : jGet L125 1 = some (.int (i32 (fs))) := eL125 ▸ jg_ne (by decide) gL_1 rfl
        have g128 : jGet L125 2 = some (.int (i32 (1))) := eL125 ▸ jg_eq
        clear eL125
        refine jx_ar (pc_q := 46) (st_q := [.int (i32 (0))]) rfl rfl rfl rfl ?_
        refine jx_ld (pc_q := 47) (l_q := jSto1 L125 3 (.int (i32 (0)))) (st_q := []) rfl rfl ?_
        obtain ⟨L129, eL129⟩ : ∃ q : jL, q = jSto1 L125 3 (.int (i32 (0))) := ⟨_, rfl⟩
        rw [← eL129]
        have g130 : jGet L129 0 = some (rv (me)) := eL129 ▸ jg_nr (by decide) g126
        have g131 : jGet L129 1 = some (.int (i32 (fs))) := eL129 ▸ jg_ne (by decide) g127 rfl
        have g132 : jGet L129 2 = some (.int (i32 (1))) := eL129 ▸ jg_ne (by decide) g128 rfl
        have g133 : jGet L129 3 = some (.int (i32 (0))) := eL129 ▸ jg_eq
        clear eL129
        refine jx_ar (pc_q := 49) (st_q := [.int (i32 (10))]) rfl rfl rfl rfl ?_
        refine jx_ld (pc_q := 51) (l_q := jSto1 L129 4 (.int (i32 (10)))) (st_q := []) rfl rfl ?_
        obtain ⟨L134, eL134⟩ : ∃ q : jL, q = jSto1 L129 4 (.int (i32 (10))) := ⟨_, rfl⟩
        rw [← eL134]
        have g135 : jGet L134 0 = some (rv (me)) := eL134 ▸ jg_nr (by decide) g130
        have g136 : jGet L134 1 = some (.int (i32 (fs))) := eL134 ▸ jg_ne (by decide) g131 rfl
        have g137 : jGet L134 2 = some (.int (i32 (1))) := eL134 ▸ jg_ne (by decide) g132 rfl
        have g138 : jGet L134 3 = some (.int (i32 (0))) := eL134 ▸ jg_ne (by decide) g133 rfl
        have g139 : jGet L134 4 = some (.int (i32 (10))) := eL134 ▸ jg_eq
        clear eL134
        refine jx_ar (pc_q := 52) (st_q := [.int (i32 (0))]) rfl rfl rfl rfl ?_
        refine jx_ld (pc_q := 54) (l_q := jSto1 L134 5 (.int (i32 (0)))) (st_q := []) rfl rfl ?_
        obtain ⟨L140, eL140⟩ : ∃ q : jL, q = jSto1 L134 5 (.int (i32 (0))) := ⟨_, rfl⟩
        rw [← eL140]
        have g141 : jGet L140 0 = some (rv (me)) := eL140 ▸ jg_nr (by decide) g135
        have g142 : jGet L140 1 = some (.int (i32 (fs))) := eL140 ▸ jg_ne (by decide) g136 rfl
        have g143 : jGet L140 2 = some (.int (i32 (1))) := eL140 ▸ jg_ne (by decide) g137 rfl
        have g144 : jGet L140 3 = some (.int (i32 (0))) := eL140 ▸ jg_ne (by decide) g138 rfl
        have g145 : jGet L140 4 = some (.int (i32 (10))) := eL140 ▸ jg_ne (by decide) g139 rfl
        have g146 : jGet L140 5 = some (.int (i32 (0))) := eL140 ▸ jg_eq
        clear eL140
        exact k_LScanner_scanKeyword_at_54 (X := X) (d := d) (R := R) (m := m) (tg := tg) (ln := ln) (F := F) (me := me) (hd := hd) (hC := hC) (o_me := o_me) (t_me := t_me) (p_0 := p_0) (p_1 := p_1) _ L140 Fx (fs) (1) (0) (10) (0) rfl g141 g142 g143 g144 g145 g146 hCx hMx (by omega) (by omega) (by omega) (by omega) (by omega) (by omega) (by omega) (by omega) (by omega) (by omega) (by omega)
      · have _q := h124
        refine jx_ld (pc_q := 31) (l_q := L) (st_q := [rv (me)]) rfl (jl_rvn gL_0) ?_
        refine jx_ar (pc_q := 32) (st_q := [rv (me), rv (me)]) rfl rfl ja_dup rfl ?_
        refine cx_gi (pc_q := 35) (c := 10) (q := 11) (v := Fx (me) (11 : Int)) rfl rfl (by decide) (by decide) (Or.inl rfl) rfl o_me t_me rfl ?_
        refine jx_ar (pc_q := 36) (st_q := [.int (i32 (1)), .int (i32 (Fx (me) (11 : Int))), rv (me)]) rfl rfl rfl rfl ?_
        refine jx_add (pc_q := 37) rfl rfl ?_
        refine cx_pi (pc_q := 40) (c := 10) (q := 11) (qi := (11 : Int)) (z := (Fx (me) (11 : Int) + 1)) rfl rfl (by decide) (by decide) rfl rfl rfl (by decide) rfl o_me t_me rfl ?_
        obtain ⟨F147, eF147⟩ : ∃ q, q = uF Fx (me) (11 : Int) ((Fx (me) (11 : Int) + 1)) := ⟨_, rfl⟩
        rw [← eF147]
        have hC148 : HC 0 m tg ln F147 := by rw [eF147]; exact HC_fi (c := 10) (q := 11) hCx t_me (by decide) rfl (by omega) (by omega) ⟨fun _ => ⟨fun w1 w2 => absurd w2 (by omega), fun w => absurd w (by decide)⟩, fun w => absurd w (by decide)⟩
        have hM149 : Fq 0 [(11, 7), (11, 11), (20, -5), (21, -5), (22, -5)] m tg F F147 := by rw [eF147]; exact Fq_p hMx t_me (fun _ => rfl) rfl
        refine jx_go (tg := 5) rfl rfl ?_
        have q150 : F147 (me) (11 : Int) = (Fx (me) (11 : Int) + 1) := (show F147 (me) (11 : Int) = (Fx (me) (11 : Int) + 1) from by rw [eF147]; exact uF_e)
        exact ih _ (by omega) L F147 (fs) rfl gL_0 gL_1 hC148 hM149 (by omega) (by omega) (by omega)
set_option maxRecDepth 20000 in
set_option maxHeartbeats 4000000 in
theorem k_LScanner_scanKeyword {X : jX} {dd : Nat} {R : Nat → jC} {m : Nat} {tg ln : Int → Int} {F : Int → Int → Int} {me : Int} (hd : 3 ≤ dd) (hC : HC 0 m tg ln F) (o_me : own m me) (t_me : tg me = 11) (p_0 : F me (11 : Int) < F me (10 : Int)) (p_1 : F me (10 : Int) ≤ 3000) : wk X dd 221 [rv me] (cV R m tg ln F) (fun o V_q => ∃ (F_q : Int → Int → Int), V_q = cV R m tg ln F_q ∧ o = .inl none ∧ HC 0 m tg ln F_q ∧ Fq 0 [(11, 7), (11, 11), (20, -5), (21, -5), (22, -5)] m tg F F_q ∧ (F me (11 : Int) ≤ F_q me (11 : Int)) ∧ (F_q me (11 : Int) ≤ F me (10 : Int) + 1) ∧ True) := by
  obtain ⟨d, rfl⟩ : ∃ d, dd = d + 1 := ⟨dd - 1, by omega⟩
  refine wk_of (e := jm221) rfl (by rw [jS_r, jS_0]; exact Nat.le_of_ble_eq_true rfl) ?_
  rw [la_r, la_0]
  show wj X d jm221 (0, [(0, rv (me))], [], cV R m tg ln F) _
  have hM0 : Fq 0 [(11, 7), (11, 11), (20, -5), (21, -5), (22, -5)] m tg F F := Fq_r
  obtain ⟨L0, eL0⟩ : ∃ q : jL, q = [(0, rv (me))] := ⟨_, rfl⟩
  rw [← eL0]
  have g151 : jGet L0 0 = some (rv (me)) := eL0 ▸ (rfl : jGet [(0, rv (me))] 0 = some (rv (me)))
  clear eL0
  refine jx_ld (pc_q := 1) (l_q := L0) (st_q := [rv (me)]) rfl (jl_rvn g151) ?_
  refine cx_gi (pc_q := 4) (c := 10) (q := 11) (v := F (me) (11 : Int)) rfl rfl (by decide) (by decide) (Or.inl rfl) rfl o_me t_me rfl ?_
  have b152 : (0 : Int) ≤ F (me) (11 : Int) ∧ F (me) (11 : Int) ≤ 3002 := by have z := HC_i (c := 10) (q := 11) hC o_me t_me (by decide) rfl; rw [show F (me) ((11 : Nat) : Int) = F (me) (11 : Int) from rfl] at z; exact z
  refine jx_ld (pc_q := 5) (l_q := jSto1 L0 1 (.int (i32 (F (me) (11 : Int))))) (st_q := []) rfl rfl ?_
  obtain ⟨L153, eL153⟩ : ∃ q : jL, q = jSto1 L0 1 (.int (i32 (F (me) (11 : Int)))) := ⟨_, rfl⟩
  rw [← eL153]
  have g154 : jGet L153 0 = some (rv (me)) := eL153 ▸ jg_nr (by decide) g151
  have g155 : jGet L153 1 = some (.int (i32 (F (me) (11 : Int)))) := eL153 ▸ jg_eq
  clear eL153
  exact k_LScanner_scanKeyword_at_5 (X := X) (d := d) (R := R) (m := m) (tg := tg) (ln := ln) (F := F) (me := me) (hd := hd) (hC := hC) (o_me := o_me) (t_me := t_me) (p_0 := p_0) (p_1 := p_1) _ L153 F (F (me) (11 : Int)) rfl g154 g155 hC hM0 (by omega) (by omega) (by omega)
set_option maxRecDepth 20000 in
set_option maxHeartbeats 4000000 in
theorem k_LScanner_scanNumber_at_7 {X : jX} {d : Nat} {R : Nat → jC} {m : Nat} {tg ln : Int → Int} {F : Int → Int → Int} {me : Int} (hd : 2 ≤ d + 1) (hC : HC 0 m tg ln F) (o_me : own m me) (t_me : tg me = 11) (p_0 : F me (11 : Int) < F me (10 : Int)) (p_1 : F me (10 : Int) ≤ 3000) : ∀ (mm : Nat) (L : jL) (Fx : Int → Int → Int) (fs : Int) (sm : Int64), (F me (10 : Int) - Fx me (11 : Int)).toNat = mm → jGet L 0 = some (rv (me)) → jGet L 1 = some (.int (i32 fs)) → jGet L 2 = some (.long sm) → HC 0 m tg ln Fx → Fq 0 [(11, 7), (11, 11), (20, -5), (21, -5), (22, -5)] m tg F Fx → ((-2147483648 : Int) ≤ fs ∧ fs ≤ 2147483647) → (F me (11 : Int) ≤ Fx me (11 : Int)) → (Fx me (11 : Int) ≤ F me (10 : Int)) → wj X d jm223 (7, L, [], cV R m tg ln Fx) (fun o V_q => ∃ (F_q : Int → Int → Int), V_q = cV R m tg ln F_q ∧ o = .inl none ∧ HC 0 m tg ln F_q ∧ Fq 0 [(11, 7), (11, 11), (20, -5), (21, -5), (22, -5)] m tg F F_q ∧ (F me (11 : Int) ≤ F_q me (11 : Int)) ∧ (F_q me (11 : Int) ≤ F me (10 : Int) + 1) ∧ True) := by
  intro mm
  induction mm using Nat.strongRecOn with
  | ind mm ih =>
    intro L Fx fs sm hmm gL_0 gL_1 gL_2 hCx hMx rx_fs iv_0 iv_1
    refine jx_ld (pc_q := 8) (l_q := L) (st_q := [rv (me)]) rfl (jl_rvn gL_0) ?_
    refine cx_gi (pc_q := 11) (c := 10) (q := 11) (v := Fx (me) (11 : Int)) rfl rfl (by decide) (by decide) (Or.inl rfl) rfl o_me t_me rfl ?_
    have b1 : (0 : Int) ≤ Fx (me) (11 : Int) ∧ Fx (me) (11 : Int) ≤ 3002 := by have z := HC_i (c := 10) (q := 11) hCx o_me t_me (by decide) rfl; rw [show Fx (me) ((11 : Nat) : Int) = Fx (me) (11 : Int) from rfl] at z; exact z
    refine jx_ld (pc_q := 12) (l_q := L) (st_q := [rv (me), .int (i32 (Fx (me) (11 : Int)))]) rfl (jl_rvn gL_0) ?_
    refine cx_gi (pc_q := 15) (c := 10) (q := 10) (v := F (me) (10 : Int)) rfl rfl (by decide) (by decide) (Or.inl rfl) rfl o_me t_me (show Fx (me) (10 : Int) = F (me) (10 : Int) from hMx _ _ o_me (own_z o_me) (by rw [t_me]; rfl)) ?_
    have b2 : (0 : Int) ≤ F (me) (10 : Int) ∧ F (me) (10 : Int) ≤ 3000 := by have z := HC_i (c := 10) (q := 10) hCx o_me t_me (by decide) rfl; rw [show Fx (me) ((10 : Nat) : Int) = F (me) (10 : Int) from (show Fx (me) (10 : Int) = F (me) (10 : Int) from hMx _ _ o_me (own_z o_me) (by rw [t_me]; rfl))] at z; exact z
    refine jx_icmp_ge (pc_q := 18) (tg := 76) rfl rfl rfl (by omega) (by omega) (by omega) (by omega) (fun h3 => ?_) (fun h3 => ?_)
    · have _q := h3
      refine jx_ld (pc_q := 77) (l_q := L) (st_q := [rv (me)]) rfl (jl_rvn gL_0) ?_
      refine jx_ld (pc_q := 78) (l_q := L) (st_q := [rv (me), rv (me)]) rfl (jl_rvn gL_0) ?_
      refine cx_gi (pc_q := 81) (c := 10) (q := 11) (v := Fx (me) (11 : Int)) rfl rfl (by decide) (by decide) (Or.inl rfl) rfl o_me t_me rfl ?_
      refine jx_ld (pc_q := 82) (l_q := L) (st_q := [.int (i32 (fs)), .int (i32 (Fx (me) (11 : Int))), rv (me)]) rfl (jl_iloadn gL_1) ?_
      refine jx_sub (pc_q := 83) rfl rfl ?_
      obtain ⟨z4, ez4⟩ : ∃ q, q = (i32 ((Fx (me) (11 : Int) - fs))).toInt := ⟨_, rfl⟩
      have bz4 : (-2147483648 : Int) ≤ z4 ∧ z4 ≤ 2147483647 := ez4 ▸ i32_rg _
      rw [show i32 ((Fx (me) (11 : Int) - fs)) = i32 z4 by rw [ez4, i32_of]]
      clear ez4
      refine jx_ar (pc_q := 85) (st_q := [.int (i32 (10)), .int (i32 (z4)), rv (me)]) rfl rfl rfl rfl ?_
      refine jx_icmp_gt (pc_q := 88) (tg := 96) rfl rfl rfl (by omega) (by omega) (by decide) (by decide) (fun h5 => ?_) (fun h5 => ?_)
      · have _q := h5
        refine jx_ar (pc_q := 97) (st_q := [.int (i32 (1)), rv (me)]) rfl rfl rfl rfl ?_
        refine jx_go (tg := 101) rfl rfl ?_
        refine jx_ld (pc_q := 102) (l_q := L) (st_q := [.int (i32 (fs)), .int (i32 (1)), rv (me)]) rfl (jl_iloadn gL_1) ?_
        refine jx_ld (pc_q := 103) (l_q := L) (st_q := [.long (sm), .int (i32 (fs)), .int (i32 (1)), rv (me)]) rfl (jl_lloadn gL_2) ?_
        refine cx_vi (c := 10) (a := me) (st := []) (as := [.int (i32 (1)), .int (i32 (fs)), .long (sm)]) rfl rfl rfl o_me t_me (by decide) rfl ⟨rfl, rfl, (Nat.le_of_ble_eq_true rfl)⟩ rfl (k_LScanner_add (dd := d) (R := R) (m := m) (tg := tg) (ln := ln) (F := Fx) (me := me) (kd := 1) (fr := fs) (vl := sm) (hd := by omega) (hC := hCx) (o_me := o_me) (t_me := t_me) (h_kd := by omega) (h_fr := by omega)) (fun o V_q hq => ?_)
        obtain ⟨F6, rfl, rfl, hC7, hM8, -⟩ := hq
        have hM9 : Fq 0 [(11, 7), (11, 11), (20, -5), (21, -5), (22, -5)] m tg F F6 := Fq_t (ln := ln) (ln1 := ln) hMx Ex_r hM8 (by decide) (Or.inl rfl)
        refine Or.inl ⟨rfl, ?_⟩
        refine jx_rt (v := none) rfl rfl rfl rfl rfl rfl ?_
        have q10 : F6 (me) (11 : Int) = Fx (me) (11 : Int) := (show F6 (me) (11 : Int) = Fx (me) (11 : Int) from hM8 _ _ o_me (own_z o_me) (by rw [t_me]; rfl))
        exact ⟨F6, rfl, rfl, hC7, hM9, by omega, by omega, trivial⟩
      · have _q := h5
        refine jx_ld (pc_q := 89) (l_q := L) (st_q := [.long (sm), rv (me)]) rfl (jl_lloadn gL_2) ?_
        refine jx_hp (pc_q := 92) (st_q := [.long (2147483647), .long (sm), rv (me)]) rfl rfl rfl rfl rfl rfl ?_
        refine jx_lcmp (pc_q := 93) rfl rfl (fun r11 hr11 => ?_)
        refine jx_if_le (pc_q := 96) (tg := 100) rfl rfl rfl (by omega) (by omega) (fun h12 => ?_) (fun h12 => ?_)
        · have _q := h12
          refine jx_ar (pc_q := 101) (st_q := [.int (i32 (3)), rv (me)]) rfl rfl rfl rfl ?_
          refine jx_ld (pc_q := 102) (l_q := L) (st_q := [.int (i32 (fs)), .int (i32 (3)), rv (me)]) rfl (jl_iloadn gL_1) ?_
          refine jx_ld (pc_q := 103) (l_q := L) (st_q := [.long (sm), .int (i32 (fs)), .int (i32 (3)), rv (me)]) rfl (jl_lloadn gL_2) ?_
          refine cx_vi (c := 10) (a := me) (st := []) (as := [.int (i32 (3)), .int (i32 (fs)), .long (sm)]) rfl rfl rfl o_me t_me (by decide) rfl ⟨rfl, rfl, (Nat.le_of_ble_eq_true rfl)⟩ rfl (k_LScanner_add (dd := d) (R := R) (m := m) (tg := tg) (ln := ln) (F := Fx) (me := me) (kd := 3) (fr := fs) (vl := sm) (hd := by omega) (hC := hCx) (o_me := o_me) (t_me := t_me) (h_kd := by omega) (h_fr := by omega)) (fun o V_q hq => ?_)
          obtain ⟨F13, rfl, rfl, hC14, hM15, -⟩ := hq
          have hM16 : Fq 0 [(11, 7), (11, 11), (20, -5), (21, -5), (22, -5)] m tg F F13 := Fq_t (ln := ln) (ln1 := ln) hMx Ex_r hM15 (by decide) (Or.inl rfl)
          refine Or.inl ⟨rfl, ?_⟩
          refine jx_rt (v := none) rfl rfl rfl rfl rfl rfl ?_
          have q17 : F13 (me) (11 : Int) = Fx (me) (11 : Int) := (show F13 (me) (11 : Int) = Fx (me) (11 : Int) from hM15 _ _ o_me (own_z o_me) (by rw [t_me]; rfl))
          exact ⟨F13, rfl, rfl, hC14, hM16, by omega, by omega, trivial⟩
        · have _q := h12
          refine jx_ar (pc_q := 97) (st_q := [.int (i32 (1)), rv (me)]) rfl rfl rfl rfl ?_
          refine jx_go (tg := 101) rfl rfl ?_
          refine jx_ld (pc_q := 102) (l_q := L) (st_q := [.int (i32 (fs)), .int (i32 (1)), rv (me)]) rfl (jl_iloadn gL_1) ?_
          refine jx_ld (pc_q := 103) (l_q := L) (st_q := [.long (sm), .int (i32 (fs)), .int (i32 (1)), rv (me)]) rfl (jl_lloadn gL_2) ?_
          refine cx_vi (c := 10) (a := me) (st := []) (as := [.int (i32 (1)), .int (i32 (fs)), .long (sm)]) rfl rfl rfl o_me t_me (by decide) rfl ⟨rfl, rfl, (Nat.le_of_ble_eq_true rfl)⟩ rfl (k_LScanner_add (dd := d) (R := R) (m := m) (tg := tg) (ln := ln) (F := Fx) (me := me) (kd := 1) (fr := fs) (vl := sm) (hd := by omega) (hC := hCx) (o_me := o_me) (t_me := t_me) (h_kd := by omega) (h_fr := by omega)) (fun o V_q hq => ?_)
          obtain ⟨F18, rfl, rfl, hC19, hM20, -⟩ := hq
          have hM21 : Fq 0 [(11, 7), (11, 11), (20, -5), (21, -5), (22, -5)] m tg F F18 := Fq_t (ln := ln) (ln1 := ln) hMx Ex_r hM20 (by decide) (Or.inl rfl)
          refine Or.inl ⟨rfl, ?_⟩
          refine jx_rt (v := none) rfl rfl rfl rfl rfl rfl ?_
          have q22 : F18 (me) (11 : Int) = Fx (me) (11 : Int) := (show F18 (me) (11 : Int) = Fx (me) (11 : Int) from hM20 _ _ o_me (own_z o_me) (by rw [t_me]; rfl))
          exact ⟨F18, rfl, rfl, hC19, hM21, by omega, by omega, trivial⟩
    · have _q := h3
      refine jx_ld (pc_q := 19) (l_q := L) (st_q := [rv (me)]) rfl (jl_rvn gL_0) ?_
      refine jx_ld (pc_q := 20) (l_q := L) (st_q := [rv (me), rv (me)]) rfl (jl_rvn gL_0) ?_
      refine cx_gi (pc_q := 23) (c := 10) (q := 11) (v := Fx (me) (11 : Int)) rfl rfl (by decide) (by decide) (Or.inl rfl) rfl o_me t_me rfl ?_
      refine cx_vi (c := 10) (a := me) (st := []) (as := [.int (i32 (Fx (me) (11 : Int)))]) rfl rfl rfl o_me t_me (by decide) rfl ⟨rfl, rfl, (Nat.le_of_ble_eq_true rfl)⟩ rfl (k_LScanner_sign (dd := d) (R := R) (m := m) (tg := tg) (ln := ln) (F := Fx) (me := me) (a0 := Fx (me) (11 : Int)) (hd := by omega) (hC := hCx) (o_me := o_me) (t_me := t_me) (h_a0 := by omega)) (fun o V_q hq => ?_)
      obtain ⟨r23, rfl, rfl, b24, -⟩ := hq
      refine Or.inr (Or.inl ⟨_, rfl, ?_⟩)
      refine cx_st (st := []) (as := [.int (i32 (r23))]) rfl rfl rfl ⟨rfl, (Nat.le_of_ble_eq_true rfl)⟩ rfl (k_LScanner_digit (dd := d) (R := R) (m := m) (tg := tg) (ln := ln) (F := Fx) (a0 := r23) (hd := by omega) (hC := hCx) (h_a0 := by omega)) (fun o V_q hq => ?_)
      obtain ⟨r25, rfl, rfl, b26, -⟩ := hq
      refine Or.inr (Or.inl ⟨_, rfl, ?_⟩)
      refine jx_if_eq (pc_q := 32) (tg := 76) rfl rfl rfl (by omega) (by omega) (fun h27 => ?_) (fun h27 => ?_)
      · have _q := h27
        refine jx_ld (pc_q := 77) (l_q := L) (st_q := [rv (me)]) rfl (jl_rvn gL_0) ?_
        refine jx_ld (pc_q := 78) (l_q := L) (st_q := [rv (me), rv (me)]) rfl (jl_rvn gL_0) ?_
        refine cx_gi (pc_q := 81) (c := 10) (q := 11) (v := Fx (me) (11 : Int)) rfl rfl (by decide) (by decide) (Or.inl rfl) rfl o_me t_me rfl ?_
        refine jx_ld (pc_q := 82) (l_q := L) (st_q := [.int (i32 (fs)), .int (i32 (Fx (me) (11 : Int))), rv (me)]) rfl (jl_iloadn gL_1) ?_
        refine jx_sub (pc_q := 83) rfl rfl ?_
        obtain ⟨z28, ez28⟩ : ∃ q, q = (i32 ((Fx (me) (11 : Int) - fs))).toInt := ⟨_, rfl⟩
        have bz28 : (-2147483648 : Int) ≤ z28 ∧ z28 ≤ 2147483647 := ez28 ▸ i32_rg _
        rw [show i32 ((Fx (me) (11 : Int) - fs)) = i32 z28 by rw [ez28, i32_of]]
        clear ez28
        refine jx_ar (pc_q := 85) (st_q := [.int (i32 (10)), .int (i32 (z28)), rv (me)]) rfl rfl rfl rfl ?_
        refine jx_icmp_gt (pc_q := 88) (tg := 96) rfl rfl rfl (by omega) (by omega) (by decide) (by decide) (fun h29 => ?_) (fun h29 => ?_)
        · have _q := h29
          refine jx_ar (pc_q := 97) (st_q := [.int (i32 (1)), rv (me)]) rfl rfl rfl rfl ?_
          refine jx_go (tg := 101) rfl rfl ?_
          refine jx_ld (pc_q := 102) (l_q := L) (st_q := [.int (i32 (fs)), .int (i32 (1)), rv (me)]) rfl (jl_iloadn gL_1) ?_
          refine jx_ld (pc_q := 103) (l_q := L) (st_q := [.long (sm), .int (i32 (fs)), .int (i32 (1)), rv (me)]) rfl (jl_lloadn gL_2) ?_
          refine cx_vi (c := 10) (a := me) (st := []) (as := [.int (i32 (1)), .int (i32 (fs)), .long (sm)]) rfl rfl rfl o_me t_me (by decide) rfl ⟨rfl, rfl, (Nat.le_of_ble_eq_true rfl)⟩ rfl (k_LScanner_add (dd := d) (R := R) (m := m) (tg := tg) (ln := ln) (F := Fx) (me := me) (kd := 1) (fr := fs) (vl := sm) (hd := by omega) (hC := hCx) (o_me := o_me) (t_me := t_me) (h_kd := by omega) (h_fr := by omega)) (fun o V_q hq => ?_)
          obtain ⟨F30, rfl, rfl, hC31, hM32, -⟩ := hq
          have hM33 : Fq 0 [(11, 7), (11, 11), (20, -5), (21, -5), (22, -5)] m tg F F30 := Fq_t (ln := ln) (ln1 := ln) hMx Ex_r hM32 (by decide) (Or.inl rfl)
          refine Or.inl ⟨rfl, ?_⟩
          refine jx_rt (v := none) rfl rfl rfl rfl rfl rfl ?_
          have q34 : F30 (me) (11 : Int) = Fx (me) (11 : Int) := (show F30 (me) (11 : Int) = Fx (me) (11 : Int) from hM32 _ _ o_me (own_z o_me) (by rw [t_me]; rfl))
          exact ⟨F30, rfl, rfl, hC31, hM33, by omega, by omega, trivial⟩
        · have _q := h29
          refine jx_ld (pc_q := 89) (l_q := L) (st_q := [.long (sm), rv (me)]) rfl (jl_lloadn gL_2) ?_
          refine jx_hp (pc_q := 92) (st_q := [.long (2147483647), .long (sm), rv (me)]) rfl rfl rfl rfl rfl rfl ?_
          refine jx_lcmp (pc_q := 93) rfl rfl (fun r35 hr35 => ?_)
          refine jx_if_le (pc_q := 96) (tg := 100) rfl rfl rfl (by omega) (by omega) (fun h36 => ?_) (fun h36 => ?_)
          · have _q := h36
            refine jx_ar (pc_q := 101) (st_q := [.int (i32 (3)), rv (me)]) rfl rfl rfl rfl ?_
            refine jx_ld (pc_q := 102) (l_q := L) (st_q := [.int (i32 (fs)), .int (i32 (3)), rv (me)]) rfl (jl_iloadn gL_1) ?_
            refine jx_ld (pc_q := 103) (l_q := L) (st_q := [.long (sm), .int (i32 (fs)), .int (i32 (3)), rv (me)]) rfl (jl_lloadn gL_2) ?_
            refine cx_vi (c := 10) (a := me) (st := []) (as := [.int (i32 (3)), .int (i32 (fs)), .long (sm)]) rfl rfl rfl o_me t_me (by decide) rfl ⟨rfl, rfl, (Nat.le_of_ble_eq_true rfl)⟩ rfl (k_LScanner_add (dd := d) (R := R) (m := m) (tg := tg) (ln := ln) (F := Fx) (me := me) (kd := 3) (fr := fs) (vl := sm) (hd := by omega) (hC := hCx) (o_me := o_me) (t_me := t_me) (h_kd := by omega) (h_fr := by omega)) (fun o V_q hq => ?_)
            obtain ⟨F37, rfl, rfl, hC38, hM39, -⟩ := hq
            have hM40 : Fq 0 [(11, 7), (11, 11), (20, -5), (21, -5), (22, -5)] m tg F F37 := Fq_t (ln := ln) (ln1 := ln) hMx Ex_r hM39 (by decide) (Or.inl rfl)
            refine Or.inl ⟨rfl, ?_⟩
            refine jx_rt (v := none) rfl rfl rfl rfl rfl rfl ?_
            have q41 : F37 (me) (11 : Int) = Fx (me) (11 : Int) := (show F37 (me) (11 : Int) = Fx (me) (11 : Int) from hM39 _ _ o_me (own_z o_me) (by rw [t_me]; rfl))
            exact ⟨F37, rfl, rfl, hC38, hM40, by omega, by omega, trivial⟩
          · have _q := h36
            refine jx_ar (pc_q := 97) (st_q := [.int (i32 (1)), rv (me)]) rfl rfl rfl rfl ?_
            refine jx_go (tg := 101) rfl rfl ?_
            refine jx_ld (pc_q := 102) (l_q := L) (st_q := [.int (i32 (fs)), .int (i32 (1)), rv (me)]) rfl (jl_iloadn gL_1) ?_
            refine jx_ld (pc_q := 103) (l_q := L) (st_q := [.long (sm), .int (i32 (fs)), .int (i32 (1)), rv (me)]) rfl (jl_lloadn gL_2) ?_
            refine cx_vi (c := 10) (a := me) (st := []) (as := [.int (i32 (1)), .int (i32 (fs)), .long (sm)]) rfl rfl rfl o_me t_me (by decide) rfl ⟨rfl, rfl, (Nat.le_of_ble_eq_true rfl)⟩ rfl (k_LScanner_add (dd := d) (R := R) (m := m) (tg := tg) (ln := ln) (F := Fx) (me := me) (kd := 1) (fr := fs) (vl := sm) (hd := by omega) (hC := hCx) (o_me := o_me) (t_me := t_me) (h_kd := by omega) (h_fr := by omega)) (fun o V_q hq => ?_)
            obtain ⟨F42, rfl, rfl, hC43, hM44, -⟩ := hq
            have hM45 : Fq 0 [(11, 7), (11, 11), (20, -5), (21, -5), (22, -5)] m tg F F42 := Fq_t (ln := ln) (ln1 := ln) hMx Ex_r hM44 (by decide) (Or.inl rfl)
            refine Or.inl ⟨rfl, ?_⟩
            refine jx_rt (v := none) rfl rfl rfl rfl rfl rfl ?_
            have q46 : F42 (me) (11 : Int) = Fx (me) (11 : Int) := (show F42 (me) (11 : Int) = Fx (me) (11 : Int) from hM44 _ _ o_me (own_z o_me) (by rw [t_me]; rfl))
            exact ⟨F42, rfl, rfl, hC43, hM45, by omega, by omega, trivial⟩
      · have _q := h27
        refine jx_ld (pc_q := 33) (l_q := L) (st_q := [rv (me)]) rfl (jl_rvn gL_0) ?_
        refine cx_gi (pc_q := 36) (c := 10) (q := 11) (v := Fx (me) (11 : Int)) rfl rfl (by decide) (by decide) (Or.inl rfl) rfl o_me t_me rfl ?_
        refine jx_ld (pc_q := 37) (l_q := L) (st_q := [.int (i32 (fs)), .int (i32 (Fx (me) (11 : Int)))]) rfl (jl_iloadn gL_1) ?_
        refine jx_sub (pc_q := 38) rfl rfl ?_
        obtain ⟨z47, ez47⟩ : ∃ q, q = (i32 ((Fx (me) (11 : Int) - fs))).toInt := ⟨_, rfl⟩
        have bz47 : (-2147483648 : Int) ≤ z47 ∧ z47 ≤ 2147483647 := ez47 ▸ i32_rg _
        rw [show i32 ((Fx (me) (11 : Int) - fs)) = i32 z47 by rw [ez47, i32_of]]
        clear ez47
        refine jx_ar (pc_q := 40) (st_q := [.int (i32 (10)), .int (i32 (z47))]) rfl rfl rfl rfl ?_
        refine jx_icmp_ge (pc_q := 43) (tg := 63) rfl rfl rfl (by omega) (by omega) (by decide) (by decide) (fun h48 => ?_) (fun h48 => ?_)
        · have _q := h48
          refine jx_ld (pc_q := 64) (l_q := L) (st_q := [rv (me)]) rfl (jl_rvn gL_0) ?_
          refine jx_ar (pc_q := 65) (st_q := [rv (me), rv (me)]) rfl rfl ja_dup rfl ?_
          refine cx_gi (pc_q := 68) (c := 10) (q := 11) (v := Fx (me) (11 : Int)) rfl rfl (by decide) (by decide) (Or.inl rfl) rfl o_me t_me rfl ?_
          refine jx_ar (pc_q := 69) (st_q := [.int (i32 (1)), .int (i32 (Fx (me) (11 : Int))), rv (me)]) rfl rfl rfl rfl ?_
          refine jx_add (pc_q := 70) rfl rfl ?_
          refine cx_pi (pc_q := 73) (c := 10) (q := 11) (qi := (11 : Int)) (z := (Fx (me) (11 : Int) + 1)) rfl rfl (by decide) (by decide) rfl rfl rfl (by decide) rfl o_me t_me rfl ?_
          obtain ⟨F49, eF49⟩ : ∃ q, q = uF Fx (me) (11 : Int) ((Fx (me) (11 : Int) + 1)) := ⟨_, rfl⟩
          rw [← eF49]
          have hC50 : HC 0 m tg ln F49 := by rw [eF49]; exact HC_fi (c := 10) (q := 11) hCx t_me (by decide) rfl (by omega) (by omega) ⟨fun _ => ⟨fun w1 w2 => absurd w2 (by omega), fun w => absurd w (by decide)⟩, fun w => absurd w (by decide)⟩
          have hM51 : Fq 0 [(11, 7), (11, 11), (20, -5), (21, -5), (22, -5)] m tg F F49 := by rw [eF49]; exact Fq_p hMx t_me (fun _ => rfl) rfl
          refine jx_go (tg := 7) rfl rfl ?_
          have q52 : F49 (me) (11 : Int) = (Fx (me) (11 : Int) + 1) := (show F49 (me) (11 : Int) = (Fx (me) (11 : Int) + 1) from by rw [eF49]; exact uF_e)
          exact ih _ (by omega) L F49 (fs) (sm) rfl gL_0 gL_1 gL_2 hC50 hM51 (by omega) (by omega) (by omega)
        · have _q := h48
          refine jx_ld (pc_q := 44) (l_q := L) (st_q := [.long (sm)]) rfl (jl_lloadn gL_2) ?_
          refine jx_hp (pc_q := 47) (st_q := [.long (10), .long (sm)]) rfl rfl rfl rfl rfl rfl ?_
          refine jx_ar (pc_q := 48) (st_q := .long ((sm : Int64) * (10)) :: []) rfl rfl rfl rfl ?_
          obtain ⟨y53, ey53⟩ : ∃ q : Int64, q = (sm : Int64) * (10) := ⟨_, rfl⟩
          rw [← ey53]
          refine jx_ld (pc_q := 49) (l_q := L) (st_q := [rv (me), .long (y53)]) rfl (jl_rvn gL_0) ?_
          refine jx_ld (pc_q := 50) (l_q := L) (st_q := [rv (me), rv (me), .long (y53)]) rfl (jl_rvn gL_0) ?_
          refine cx_gi (pc_q := 53) (c := 10) (q := 11) (v := Fx (me) (11 : Int)) rfl rfl (by decide) (by decide) (Or.inl rfl) rfl o_me t_me rfl ?_
          refine cx_vi (c := 10) (a := me) (st := [.long (y53)]) (as := [.int (i32 (Fx (me) (11 : Int)))]) rfl rfl rfl o_me t_me (by decide) rfl ⟨rfl, rfl, (by rw [jS_l, jS_0]; exact Nat.le_of_ble_eq_true rfl)⟩ rfl (k_LScanner_sign (dd := d) (R := R) (m := m) (tg := tg) (ln := ln) (F := Fx) (me := me) (a0 := Fx (me) (11 : Int)) (hd := by omega) (hC := hCx) (o_me := o_me) (t_me := t_me) (h_a0 := by omega)) (fun o V_q hq => ?_)
          obtain ⟨r54, rfl, rfl, b55, -⟩ := hq
          refine Or.inr (Or.inl ⟨_, rfl, ?_⟩)
          refine jx_ar (pc_q := 57) (st_q := .long ((i32 (r54)).toInt64) :: [.long (y53)]) rfl rfl rfl rfl ?_
          obtain ⟨y56, ey56⟩ : ∃ q : Int64, q = (i32 (r54)).toInt64 := ⟨_, rfl⟩
          rw [← ey56]
          refine jx_ar (pc_q := 58) (st_q := .long ((y53 : Int64) + (y56)) :: []) rfl rfl rfl rfl ?_
          obtain ⟨y57, ey57⟩ : ∃ q : Int64, q = (y53 : Int64) + (y56) := ⟨_, rfl⟩
          rw [← ey57]
          refine jx_hp (pc_q := 61) (st_q := [.long (48), .long (y57)]) rfl rfl rfl rfl rfl rfl ?_
          refine jx_ar (pc_q := 62) (st_q := .long ((y57 : Int64) - (48)) :: []) rfl rfl rfl rfl ?_
          obtain ⟨y58, ey58⟩ : ∃ q : Int64, q = (y57 : Int64) - (48) := ⟨_, rfl⟩
          rw [← ey58]
          refine jx_ld (pc_q := 63) (l_q := jSto2 L 2 (.long (y58))) (st_q := []) rfl rfl ?_
          obtain ⟨L59, eL59⟩ : ∃ q : jL, q = jSto2 L 2 (.long (y58)) := ⟨_, rfl⟩
          rw [← eL59]
          have g60 : jGet L59 0 = some (rv (me)) := eL59 ▸ jg_nr2 (by decide) (by decide) gL_0
          have g61 : jGet L59 1 = some (.int (i32 (fs))) := eL59 ▸ jg_ne2 (by decide) (by decide) gL_1 (Or.inl rfl)
          have g62 : jGet L59 2 = some (.long (y58)) := eL59 ▸ jg_eq2
          clear eL59
          refine jx_ld (pc_q := 64) (l_q := L59) (st_q := [rv (me)]) rfl (jl_rvn g60) ?_
          refine jx_ar (pc_q := 65) (st_q := [rv (me), rv (me)]) rfl rfl ja_dup rfl ?_
          refine cx_gi (pc_q := 68) (c := 10) (q := 11) (v := Fx (me) (11 : Int)) rfl rfl (by decide) (by decide) (Or.inl rfl) rfl o_me t_me rfl ?_
          refine jx_ar (pc_q := 69) (st_q := [.int (i32 (1)), .int (i32 (Fx (me) (11 : Int))), rv (me)]) rfl rfl rfl rfl ?_
          refine jx_add (pc_q := 70) rfl rfl ?_
          refine cx_pi (pc_q := 73) (c := 10) (q := 11) (qi := (11 : Int)) (z := (Fx (me) (11 : Int) + 1)) rfl rfl (by decide) (by decide) rfl rfl rfl (by decide) rfl o_me t_me rfl ?_
          obtain ⟨F63, eF63⟩ : ∃ q, q = uF Fx (me) (11 : Int) ((Fx (me) (11 : Int) + 1)) := ⟨_, rfl⟩
          rw [← eF63]
          have hC64 : HC 0 m tg ln F63 := by rw [eF63]; exact HC_fi (c := 10) (q := 11) hCx t_me (by decide) rfl (by omega) (by omega) ⟨fun _ => ⟨fun w1 w2 => absurd w2 (by omega), fun w => absurd w (by decide)⟩, fun w => absurd w (by decide)⟩
          have hM65 : Fq 0 [(11, 7), (11, 11), (20, -5), (21, -5), (22, -5)] m tg F F63 := by rw [eF63]; exact Fq_p hMx t_me (fun _ => rfl) rfl
          refine jx_go (tg := 7) rfl rfl ?_
          have q66 : F63 (me) (11 : Int) = (Fx (me) (11 : Int) + 1) := (show F63 (me) (11 : Int) = (Fx (me) (11 : Int) + 1) from by rw [eF63]; exact uF_e)
          exact ih _ (by omega) L59 F63 (fs) (y58) rfl g60 g61 g62 hC64 hM65 (by omega) (by omega) (by omega)
set_option maxRecDepth 20000 in
set_option maxHeartbeats 4000000 in
theorem k_LScanner_scanNumber {X : jX} {dd : Nat} {R : Nat → jC} {m : Nat} {tg ln : Int → Int} {F : Int → Int → Int} {me : Int} (hd : 2 ≤ dd) (hC : HC 0 m tg ln F) (o_me : own m me) (t_me : tg me = 11) (p_0 : F me (11 : Int) < F me (10 : Int)) (p_1 : F me (10 : Int) ≤ 3000) : wk X dd 223 [rv me] (cV R m tg ln F) (fun o V_q => ∃ (F_q : Int → Int → Int), V_q = cV R m tg ln F_q ∧ o = .inl none ∧ HC 0 m tg ln F_q ∧ Fq 0 [(11, 7), (11, 11), (20, -5), (21, -5), (22, -5)] m tg F F_q ∧ (F me (11 : Int) ≤ F_q me (11 : Int)) ∧ (F_q me (11 : Int) ≤ F me (10 : Int) + 1) ∧ True) := by
  obtain ⟨d, rfl⟩ : ∃ d, dd = d + 1 := ⟨dd - 1, by omega⟩
  refine wk_of (e := jm223) rfl (by rw [jS_r, jS_0]; exact Nat.le_of_ble_eq_true rfl) ?_
  rw [la_r, la_0]
  show wj X d jm223 (0, [(0, rv (me))], [], cV R m tg ln F) _
  have hM0 : Fq 0 [(11, 7), (11, 11), (20, -5), (21, -5), (22, -5)] m tg F F := Fq_r
  obtain ⟨L0, eL0⟩ : ∃ q : jL, q = [(0, rv (me))] := ⟨_, rfl⟩
  rw [← eL0]
  have g67 : jGet L0 0 = some (rv (me)) := eL0 ▸ (rfl : jGet [(0, rv (me))] 0 = some (rv (me)))
  clear eL0
  refine jx_ld (pc_q := 1) (l_q := L0) (st_q := [rv (me)]) rfl (jl_rvn g67) ?_
  refine cx_gi (pc_q := 4) (c := 10) (q := 11) (v := F (me) (11 : Int)) rfl rfl (by decide) (by decide) (Or.inl rfl) rfl o_me t_me rfl ?_
  have b68 : (0 : Int) ≤ F (me) (11 : Int) ∧ F (me) (11 : Int) ≤ 3002 := by have z := HC_i (c := 10) (q := 11) hC o_me t_me (by decide) rfl; rw [show F (me) ((11 : Nat) : Int) = F (me) (11 : Int) from rfl] at z; exact z
  refine jx_ld (pc_q := 5) (l_q := jSto1 L0 1 (.int (i32 (F (me) (11 : Int))))) (st_q := []) rfl rfl ?_
  obtain ⟨L69, eL69⟩ : ∃ q : jL, q = jSto1 L0 1 (.int (i32 (F (me) (11 : Int)))) := ⟨_, rfl⟩
  rw [← eL69]
  have g70 : jGet L69 0 = some (rv (me)) := eL69 ▸ jg_nr (by decide) g67
  have g71 : jGet L69 1 = some (.int (i32 (F (me) (11 : Int)))) := eL69 ▸ jg_eq
  clear eL69
  refine jx_ar (pc_q := 6) (st_q := [.long (Int64.ofNat 0)]) rfl rfl rfl rfl ?_
  refine jx_ld (pc_q := 7) (l_q := jSto2 L69 2 (.long (Int64.ofNat 0))) (st_q := []) rfl rfl ?_
  obtain ⟨L72, eL72⟩ : ∃ q : jL, q = jSto2 L69 2 (.long (Int64.ofNat 0)) := ⟨_, rfl⟩
  rw [← eL72]
  have g73 : jGet L72 0 = some (rv (me)) := eL72 ▸ jg_nr2 (by decide) (by decide) g70
  have g74 : jGet L72 1 = some (.int (i32 (F (me) (11 : Int)))) := eL72 ▸ jg_ne2 (by decide) (by decide) g71 (Or.inl rfl)
  have g75 : jGet L72 2 = some (.long (Int64.ofNat 0)) := eL72 ▸ jg_eq2
  clear eL72
  exact k_LScanner_scanNumber_at_7 (X := X) (d := d) (R := R) (m := m) (tg := tg) (ln := ln) (F := F) (me := me) (hd := hd) (hC := hC) (o_me := o_me) (t_me := t_me) (p_0 := p_0) (p_1 := p_1) _ L72 F (F (me) (11 : Int)) (Int64.ofNat 0) rfl g73 g74 g75 hC hM0 (by omega) (by omega) (by omega)
set_option maxRecDepth 20000 in
set_option maxHeartbeats 4000000 in
theorem k_LScanner_scanSign_at_30 {X : jX} {d : Nat} {R : Nat → jC} {m : Nat} {tg ln : Int → Int} {F : Int → Int → Int} {me fi : Int} (hd : 2 ≤ d + 1) (hC : HC 0 m tg ln F) (o_me : own m me) (t_me : tg me = 11) (h_fi : (-2147483648 : Int) ≤ fi ∧ fi ≤ 2147483647) (p_0 : F me (11 : Int) < F me (10 : Int)) (p_1 : 0 ≤ fi) (p_2 : fi ≤ 127) (p_3 : F me (10 : Int) ≤ 3000) : ∀ (mm : Nat) (L : jL) (Fx : Int → Int → Int) (sc k : Int), (1000 - k).toNat = mm → jGet L 0 = some (rv (me)) → jGet L 1 = some (.int (i32 (fi))) → jGet L 2 = some (.int (i32 sc)) → jGet L 3 = some (.int (i32 k)) → HC 0 m tg ln Fx → Fq 0 [(11, 7), (11, 11), (20, -5), (21, -5), (22, -5)] m tg F Fx → ((-2147483648 : Int) ≤ sc ∧ sc ≤ 2147483647) → ((-2147483648 : Int) ≤ k ∧ k ≤ 2147483647) → (0 ≤ k) → (k ≤ 1000) → (Fx me (11 : Int) = F me (11 : Int)) → wj X d jm224 (30, L, [], cV R m tg ln Fx) (fun o V_q => ∃ (F_q : Int → Int → Int), V_q = cV R m tg ln F_q ∧ o = .inl none ∧ HC 0 m tg ln F_q ∧ Fq 0 [(11, 7), (11, 11), (20, -5), (21, -5), (22, -5)] m tg F F_q ∧ (F me (11 : Int) ≤ F_q me (11 : Int)) ∧ (F_q me (11 : Int) ≤ F me (10 : Int) + 1) ∧ True) := by
  intro mm
  induction mm using Nat.strongRecOn with
  | ind mm ih =>
    intro L Fx sc k hmm gL_0 gL_1 gL_2 gL_3 hCx hMx rx_sc rx_k iv_0 iv_1 iv_2
    refine jx_ld (pc_q := 31) (l_q := L) (st_q := [.int (i32 (k))]) rfl (jl_iloadn gL_3) ?_
    refine jx_ar (pc_q := 32) (st_q := [.int (i32 (1)), .int (i32 (k))]) rfl rfl rfl rfl ?_
    refine jx_add (pc_q := 33) rfl rfl ?_
    refine jx_hp (pc_q := 35) (st_q := [.ref 2, .int (i32 ((k + 1)))]) rfl rfl rfl rfl rfl rfl ?_
    refine jx_sl (pc_q := 38) (n := 16) rfl rfl rfl ⟨(by rw [jS_i, jS_0]; exact Nat.le_of_ble_eq_true rfl), (by decide)⟩ (by decide) rfl ?_
    refine jx_icmp_ge (pc_q := 41) (tg := 95) rfl rfl rfl (by omega) (by omega) (by decide) (by decide) (fun h1 => ?_) (fun h1 => ?_)
    · have _q := h1
      refine jx_hp (pc_q := 97) (st_q := [.ref 3]) rfl rfl rfl rfl rfl rfl ?_
      refine jx_ld (pc_q := 98) (l_q := L) (st_q := [.int (i32 (fi)), .ref 3]) rfl (jl_iloadn gL_1) ?_
      refine cx_i2c (pc_q := 99) rfl rfl (by omega) (by omega) ?_
      refine jx_si (pc_q := 102) rfl rfl rfl ⟨(Nat.le_of_ble_eq_true rfl), (by decide)⟩ (by omega) (by omega) rfl (fun r2 hr2 => ?_)
      refine jx_ld (pc_q := 103) (l_q := jSto1 L 3 (.int (i32 (r2)))) (st_q := []) rfl rfl ?_
      obtain ⟨L3, eL3⟩ : ∃ q : jL, q = jSto1 L 3 (.int (i32 (r2))) := ⟨_, rfl⟩
      rw [← eL3]
      have g4 : jGet L3 0 = some (rv (me)) := eL3 ▸ jg_nr (by decide) gL_0
      have g5 : jGet L3 1 = some (.int (i32 (fi))) := eL3 ▸ jg_ne (by decide) gL_1 rfl
      have g6 : jGet L3 2 = some (.int (i32 (sc))) := eL3 ▸ jg_ne (by decide) gL_2 rfl
      have g7 : jGet L3 3 = some (.int (i32 (r2))) := eL3 ▸ jg_eq
      clear eL3
      refine jx_ld (pc_q := 104) (l_q := L3) (st_q := [rv (me)]) rfl (jl_rvn g4) ?_
      refine jx_ld (pc_q := 105) (l_q := L3) (st_q := [.int (i32 (r2)), rv (me)]) rfl (jl_iloadn g7) ?_
      refine jx_if_ge (pc_q := 108) (tg := 112) rfl rfl rfl (by omega) (by omega) (fun h8 => ?_) (fun h8 => ?_)
      · have _q := h8
        refine jx_ar (pc_q := 114) (st_q := [.int (i32 (50)), rv (me)]) rfl rfl rfl rfl ?_
        refine jx_ld (pc_q := 115) (l_q := L3) (st_q := [.int (i32 (r2)), .int (i32 (50)), rv (me)]) rfl (jl_iloadn g7) ?_
        refine jx_add (pc_q := 116) rfl rfl ?_
        obtain ⟨z9, ez9⟩ : ∃ q, q = (i32 ((50 + r2))).toInt := ⟨_, rfl⟩
        have bz9 : (-2147483648 : Int) ≤ z9 ∧ z9 ≤ 2147483647 := ez9 ▸ i32_rg _
        rw [show i32 ((50 + r2)) = i32 z9 by rw [ez9, i32_of]]
        clear ez9
        refine jx_ld (pc_q := 117) (l_q := L3) (st_q := [rv (me), .int (i32 (z9)), rv (me)]) rfl (jl_rvn g4) ?_
        refine cx_gi (pc_q := 120) (c := 10) (q := 11) (v := Fx (me) (11 : Int)) rfl rfl (by decide) (by decide) (Or.inl rfl) rfl o_me t_me rfl ?_
        have b10 : (0 : Int) ≤ Fx (me) (11 : Int) ∧ Fx (me) (11 : Int) ≤ 3002 := by have z := HC_i (c := 10) (q := 11) hCx o_me t_me (by decide) rfl; rw [show Fx (me) ((11 : Nat) : Int) = Fx (me) (11 : Int) from rfl] at z; exact z
        refine jx_ar (pc_q := 121) (st_q := [.long (Int64.ofNat 0), .int (i32 (Fx (me) (11 : Int))), .int (i32 (z9)), rv (me)]) rfl rfl rfl rfl ?_
        refine cx_vi (c := 10) (a := me) (st := []) (as := [.int (i32 (z9)), .int (i32 (Fx (me) (11 : Int))), .long (Int64.ofNat 0)]) rfl rfl rfl o_me t_me (by decide) rfl ⟨rfl, rfl, (Nat.le_of_ble_eq_true rfl)⟩ rfl (k_LScanner_add (dd := d) (R := R) (m := m) (tg := tg) (ln := ln) (F := Fx) (me := me) (kd := z9) (fr := Fx (me) (11 : Int)) (vl := Int64.ofNat 0) (hd := by omega) (hC := hCx) (o_me := o_me) (t_me := t_me) (h_kd := by omega) (h_fr := by omega)) (fun o V_q hq => ?_)
        obtain ⟨F11, rfl, rfl, hC12, hM13, -⟩ := hq
        have hM14 : Fq 0 [(11, 7), (11, 11), (20, -5), (21, -5), (22, -5)] m tg F F11 := Fq_t (ln := ln) (ln1 := ln) hMx Ex_r hM13 (by decide) (Or.inl rfl)
        refine Or.inl ⟨rfl, ?_⟩
        refine jx_ld (pc_q := 125) (l_q := L3) (st_q := [rv (me)]) rfl (jl_rvn g4) ?_
        refine jx_ar (pc_q := 126) (st_q := [rv (me), rv (me)]) rfl rfl ja_dup rfl ?_
        refine cx_gi (pc_q := 129) (c := 10) (q := 11) (v := Fx (me) (11 : Int)) rfl rfl (by decide) (by decide) (Or.inl rfl) rfl o_me t_me (show F11 (me) (11 : Int) = Fx (me) (11 : Int) from hM13 _ _ o_me (own_z o_me) (by rw [t_me]; rfl)) ?_
        refine jx_ar (pc_q := 130) (st_q := [.int (i32 (1)), .int (i32 (Fx (me) (11 : Int))), rv (me)]) rfl rfl rfl rfl ?_
        refine jx_add (pc_q := 131) rfl rfl ?_
        refine cx_pi (pc_q := 134) (c := 10) (q := 11) (qi := (11 : Int)) (z := (Fx (me) (11 : Int) + 1)) rfl rfl (by decide) (by decide) rfl rfl rfl (by decide) rfl o_me t_me rfl ?_
        obtain ⟨F15, eF15⟩ : ∃ q, q = uF F11 (me) (11 : Int) ((Fx (me) (11 : Int) + 1)) := ⟨_, rfl⟩
        rw [← eF15]
        have hC16 : HC 0 m tg ln F15 := by rw [eF15]; exact HC_fi (c := 10) (q := 11) hC12 t_me (by decide) rfl (by omega) (by omega) ⟨fun _ => ⟨fun w1 w2 => absurd w2 (by omega), fun w => absurd w (by decide)⟩, fun w => absurd w (by decide)⟩
        have hM17 : Fq 0 [(11, 7), (11, 11), (20, -5), (21, -5), (22, -5)] m tg F F15 := by rw [eF15]; exact Fq_p hM14 t_me (fun _ => rfl) rfl
        refine jx_rt (v := none) rfl rfl rfl rfl rfl rfl ?_
        have q18 : F15 (me) (11 : Int) = (Fx (me) (11 : Int) + 1) := (show F15 (me) (11 : Int) = (Fx (me) (11 : Int) + 1) from by rw [eF15]; exact uF_e)
        exact ⟨F15, rfl, rfl, hC16, hM17, by omega, by omega, trivial⟩
      · have _q := h8
        refine jx_ar (pc_q := 109) (st_q := [.int (i32 (1)), rv (me)]) rfl rfl rfl rfl ?_
        refine jx_go (tg := 116) rfl rfl ?_
        refine jx_ld (pc_q := 117) (l_q := L3) (st_q := [rv (me), .int (i32 (1)), rv (me)]) rfl (jl_rvn g4) ?_
        refine cx_gi (pc_q := 120) (c := 10) (q := 11) (v := Fx (me) (11 : Int)) rfl rfl (by decide) (by decide) (Or.inl rfl) rfl o_me t_me rfl ?_
        have b19 : (0 : Int) ≤ Fx (me) (11 : Int) ∧ Fx (me) (11 : Int) ≤ 3002 := by have z := HC_i (c := 10) (q := 11) hCx o_me t_me (by decide) rfl; rw [show Fx (me) ((11 : Nat) : Int) = Fx (me) (11 : Int) from rfl] at z; exact z
        refine jx_ar (pc_q := 121) (st_q := [.long (Int64.ofNat 0), .int (i32 (Fx (me) (11 : Int))), .int (i32 (1)), rv (me)]) rfl rfl rfl rfl ?_
        refine cx_vi (c := 10) (a := me) (st := []) (as := [.int (i32 (1)), .int (i32 (Fx (me) (11 : Int))), .long (Int64.ofNat 0)]) rfl rfl rfl o_me t_me (by decide) rfl ⟨rfl, rfl, (Nat.le_of_ble_eq_true rfl)⟩ rfl (k_LScanner_add (dd := d) (R := R) (m := m) (tg := tg) (ln := ln) (F := Fx) (me := me) (kd := 1) (fr := Fx (me) (11 : Int)) (vl := Int64.ofNat 0) (hd := by omega) (hC := hCx) (o_me := o_me) (t_me := t_me) (h_kd := by omega) (h_fr := by omega)) (fun o V_q hq => ?_)
        obtain ⟨F20, rfl, rfl, hC21, hM22, -⟩ := hq
        have hM23 : Fq 0 [(11, 7), (11, 11), (20, -5), (21, -5), (22, -5)] m tg F F20 := Fq_t (ln := ln) (ln1 := ln) hMx Ex_r hM22 (by decide) (Or.inl rfl)
        refine Or.inl ⟨rfl, ?_⟩
        refine jx_ld (pc_q := 125) (l_q := L3) (st_q := [rv (me)]) rfl (jl_rvn g4) ?_
        refine jx_ar (pc_q := 126) (st_q := [rv (me), rv (me)]) rfl rfl ja_dup rfl ?_
        refine cx_gi (pc_q := 129) (c := 10) (q := 11) (v := Fx (me) (11 : Int)) rfl rfl (by decide) (by decide) (Or.inl rfl) rfl o_me t_me (show F20 (me) (11 : Int) = Fx (me) (11 : Int) from hM22 _ _ o_me (own_z o_me) (by rw [t_me]; rfl)) ?_
        refine jx_ar (pc_q := 130) (st_q := [.int (i32 (1)), .int (i32 (Fx (me) (11 : Int))), rv (me)]) rfl rfl rfl rfl ?_
        refine jx_add (pc_q := 131) rfl rfl ?_
        refine cx_pi (pc_q := 134) (c := 10) (q := 11) (qi := (11 : Int)) (z := (Fx (me) (11 : Int) + 1)) rfl rfl (by decide) (by decide) rfl rfl rfl (by decide) rfl o_me t_me rfl ?_
        obtain ⟨F24, eF24⟩ : ∃ q, q = uF F20 (me) (11 : Int) ((Fx (me) (11 : Int) + 1)) := ⟨_, rfl⟩
        rw [← eF24]
        have hC25 : HC 0 m tg ln F24 := by rw [eF24]; exact HC_fi (c := 10) (q := 11) hC21 t_me (by decide) rfl (by omega) (by omega) ⟨fun _ => ⟨fun w1 w2 => absurd w2 (by omega), fun w => absurd w (by decide)⟩, fun w => absurd w (by decide)⟩
        have hM26 : Fq 0 [(11, 7), (11, 11), (20, -5), (21, -5), (22, -5)] m tg F F24 := by rw [eF24]; exact Fq_p hM23 t_me (fun _ => rfl) rfl
        refine jx_rt (v := none) rfl rfl rfl rfl rfl rfl ?_
        have q27 : F24 (me) (11 : Int) = (Fx (me) (11 : Int) + 1) := (show F24 (me) (11 : Int) = (Fx (me) (11 : Int) + 1) from by rw [eF24]; exact uF_e)
        exact ⟨F24, rfl, rfl, hC25, hM26, by omega, by omega, trivial⟩
    · have _q := h1
      refine jx_hp (pc_q := 43) (st_q := [.ref 2]) rfl rfl rfl rfl rfl rfl ?_
      refine jx_ld (pc_q := 44) (l_q := L) (st_q := [.int (i32 (k)), .ref 2]) rfl (jl_iloadn gL_3) ?_
      refine jx_sc (pc_q := 47) (n := 16) rfl rfl rfl ⟨(Nat.le_of_ble_eq_true rfl), (by decide)⟩ (by decide) (by omega) (by omega) (by omega) rfl (fun r28 hr28 => ?_)
      refine jx_ld (pc_q := 48) (l_q := L) (st_q := [.int (i32 (fi)), .int (i32 (r28))]) rfl (jl_iloadn gL_1) ?_
      refine jx_icmp_ne (pc_q := 51) (tg := 89) rfl rfl rfl (by omega) (by omega) (by omega) (by omega) (fun h29 => ?_) (fun h29 => ?_)
      · have _q := h29
        refine jx_inc (pc_q := 92) (l_q := jSto1 L 3 (.int (i32 (k + (2))))) (x := k) rfl gL_3 (by decide) rfl rfl ?_
        obtain ⟨L30, eL30⟩ : ∃ q : jL, q = jSto1 L 3 (.int (i32 ((k + (2))))) := ⟨_, rfl⟩
        rw [← eL30]
        have g31 : jGet L30 0 = some (rv (me)) := eL30 ▸ jg_nr (by decide) gL_0
        have g32 : jGet L30 1 = some (.int (i32 (fi))) := eL30 ▸ jg_ne (by decide) gL_1 rfl
        have g33 : jGet L30 2 = some (.int (i32 (sc))) := eL30 ▸ jg_ne (by decide) gL_2 rfl
        have g34 : jGet L30 3 = some (.int (i32 ((k + (2))))) := eL30 ▸ jg_eq
        clear eL30
        refine jx_go (tg := 30) rfl rfl ?_
        exact ih _ (by omega) L30 Fx (sc) ((k + (2))) rfl g31 g32 g33 g34 hCx hMx (by omega) (by omega) (by omega) (by omega) (by omega)
      · have _q := h29
        refine jx_hp (pc_q := 53) (st_q := [.ref 2]) rfl rfl rfl rfl rfl rfl ?_
        refine jx_ld (pc_q := 54) (l_q := L) (st_q := [.int (i32 (k)), .ref 2]) rfl (jl_iloadn gL_3) ?_
        refine jx_ar (pc_q := 55) (st_q := [.int (i32 (1)), .int (i32 (k)), .ref 2]) rfl rfl rfl rfl ?_
        refine jx_add (pc_q := 56) rfl rfl ?_
        refine jx_sc (pc_q := 59) (n := 16) rfl rfl rfl ⟨(Nat.le_of_ble_eq_true rfl), (by decide)⟩ (by decide) (by omega) (by omega) (by omega) rfl (fun r35 hr35 => ?_)
        refine jx_ld (pc_q := 60) (l_q := L) (st_q := [.int (i32 (sc)), .int (i32 (r35))]) rfl (jl_iloadn gL_2) ?_
        refine jx_icmp_ne (pc_q := 63) (tg := 89) rfl rfl rfl (by omega) (by omega) (by omega) (by omega) (fun h36 => ?_) (fun h36 => ?_)
        · have _q := h36
          refine jx_inc (pc_q := 92) (l_q := jSto1 L 3 (.int (i32 (k + (2))))) (x := k) rfl gL_3 (by decide) rfl rfl ?_
          obtain ⟨L37, eL37⟩ : ∃ q : jL, q = jSto1 L 3 (.int (i32 ((k + (2))))) := ⟨_, rfl⟩
          rw [← eL37]
          have g38 : jGet L37 0 = some (rv (me)) := eL37 ▸ jg_nr (by decide) gL_0
          have g39 : jGet L37 1 = some (.int (i32 (fi))) := eL37 ▸ jg_ne (by decide) gL_1 rfl
          have g40 : jGet L37 2 = some (.int (i32 (sc))) := eL37 ▸ jg_ne (by decide) gL_2 rfl
          have g41 : jGet L37 3 = some (.int (i32 ((k + (2))))) := eL37 ▸ jg_eq
          clear eL37
          refine jx_go (tg := 30) rfl rfl ?_
          exact ih _ (by omega) L37 Fx (sc) ((k + (2))) rfl g38 g39 g40 g41 hCx hMx (by omega) (by omega) (by omega) (by omega) (by omega)
        · have _q := h36
          refine jx_ld (pc_q := 64) (l_q := L) (st_q := [rv (me)]) rfl (jl_rvn gL_0) ?_
          refine jx_ar (pc_q := 66) (st_q := [.int (i32 (40)), rv (me)]) rfl rfl rfl rfl ?_
          refine jx_ld (pc_q := 67) (l_q := L) (st_q := [.int (i32 (k)), .int (i32 (40)), rv (me)]) rfl (jl_iloadn gL_3) ?_
          refine jx_ar (pc_q := 68) (st_q := [.int (i32 (2)), .int (i32 (k)), .int (i32 (40)), rv (me)]) rfl rfl rfl rfl ?_
          refine jx_div (pc_q := 69) rfl rfl (by omega) (by omega) (by omega) (by omega) ?_
          refine jx_add (pc_q := 70) rfl rfl ?_
          refine jx_ld (pc_q := 71) (l_q := L) (st_q := [rv (me), .int (i32 ((40 + (k / 2)))), rv (me)]) rfl (jl_rvn gL_0) ?_
          refine cx_gi (pc_q := 74) (c := 10) (q := 11) (v := Fx (me) (11 : Int)) rfl rfl (by decide) (by decide) (Or.inl rfl) rfl o_me t_me rfl ?_
          have b42 : (0 : Int) ≤ Fx (me) (11 : Int) ∧ Fx (me) (11 : Int) ≤ 3002 := by have z := HC_i (c := 10) (q := 11) hCx o_me t_me (by decide) rfl; rw [show Fx (me) ((11 : Nat) : Int) = Fx (me) (11 : Int) from rfl] at z; exact z
          refine jx_ar (pc_q := 75) (st_q := [.long (Int64.ofNat 0), .int (i32 (Fx (me) (11 : Int))), .int (i32 ((40 + (k / 2)))), rv (me)]) rfl rfl rfl rfl ?_
          refine cx_vi (c := 10) (a := me) (st := []) (as := [.int (i32 ((40 + (k / 2)))), .int (i32 (Fx (me) (11 : Int))), .long (Int64.ofNat 0)]) rfl rfl rfl o_me t_me (by decide) rfl ⟨rfl, rfl, (Nat.le_of_ble_eq_true rfl)⟩ rfl (k_LScanner_add (dd := d) (R := R) (m := m) (tg := tg) (ln := ln) (F := Fx) (me := me) (kd := (40 + (k / 2))) (fr := Fx (me) (11 : Int)) (vl := Int64.ofNat 0) (hd := by omega) (hC := hCx) (o_me := o_me) (t_me := t_me) (h_kd := by omega) (h_fr := by omega)) (fun o V_q hq => ?_)
          obtain ⟨F43, rfl, rfl, hC44, hM45, -⟩ := hq
          have hM46 : Fq 0 [(11, 7), (11, 11), (20, -5), (21, -5), (22, -5)] m tg F F43 := Fq_t (ln := ln) (ln1 := ln) hMx Ex_r hM45 (by decide) (Or.inl rfl)
          refine Or.inl ⟨rfl, ?_⟩
          refine jx_ld (pc_q := 79) (l_q := L) (st_q := [rv (me)]) rfl (jl_rvn gL_0) ?_
          refine jx_ar (pc_q := 80) (st_q := [rv (me), rv (me)]) rfl rfl ja_dup rfl ?_
          refine cx_gi (pc_q := 83) (c := 10) (q := 11) (v := Fx (me) (11 : Int)) rfl rfl (by decide) (by decide) (Or.inl rfl) rfl o_me t_me (show F43 (me) (11 : Int) = Fx (me) (11 : Int) from hM45 _ _ o_me (own_z o_me) (by rw [t_me]; rfl)) ?_
          refine jx_ar (pc_q := 84) (st_q := [.int (i32 (2)), .int (i32 (Fx (me) (11 : Int))), rv (me)]) rfl rfl rfl rfl ?_
          refine jx_add (pc_q := 85) rfl rfl ?_
          refine cx_pi (pc_q := 88) (c := 10) (q := 11) (qi := (11 : Int)) (z := (Fx (me) (11 : Int) + 2)) rfl rfl (by decide) (by decide) rfl rfl rfl (by decide) rfl o_me t_me rfl ?_
          obtain ⟨F47, eF47⟩ : ∃ q, q = uF F43 (me) (11 : Int) ((Fx (me) (11 : Int) + 2)) := ⟨_, rfl⟩
          rw [← eF47]
          have hC48 : HC 0 m tg ln F47 := by rw [eF47]; exact HC_fi (c := 10) (q := 11) hC44 t_me (by decide) rfl (by omega) (by omega) ⟨fun _ => ⟨fun w1 w2 => absurd w2 (by omega), fun w => absurd w (by decide)⟩, fun w => absurd w (by decide)⟩
          have hM49 : Fq 0 [(11, 7), (11, 11), (20, -5), (21, -5), (22, -5)] m tg F F47 := by rw [eF47]; exact Fq_p hM46 t_me (fun _ => rfl) rfl
          refine jx_rt (v := none) rfl rfl rfl rfl rfl rfl ?_
          have q50 : F47 (me) (11 : Int) = (Fx (me) (11 : Int) + 2) := (show F47 (me) (11 : Int) = (Fx (me) (11 : Int) + 2) from by rw [eF47]; exact uF_e)
          exact ⟨F47, rfl, rfl, hC48, hM49, by omega, by omega, trivial⟩
set_option maxRecDepth 20000 in
set_option maxHeartbeats 4000000 in
theorem k_LScanner_scanSign {X : jX} {dd : Nat} {R : Nat → jC} {m : Nat} {tg ln : Int → Int} {F : Int → Int → Int} {me fi : Int} (hd : 2 ≤ dd) (hC : HC 0 m tg ln F) (o_me : own m me) (t_me : tg me = 11) (h_fi : (-2147483648 : Int) ≤ fi ∧ fi ≤ 2147483647) (p_0 : F me (11 : Int) < F me (10 : Int)) (p_1 : 0 ≤ fi) (p_2 : fi ≤ 127) (p_3 : F me (10 : Int) ≤ 3000) : wk X dd 224 [rv me, .int (i32 fi)] (cV R m tg ln F) (fun o V_q => ∃ (F_q : Int → Int → Int), V_q = cV R m tg ln F_q ∧ o = .inl none ∧ HC 0 m tg ln F_q ∧ Fq 0 [(11, 7), (11, 11), (20, -5), (21, -5), (22, -5)] m tg F F_q ∧ (F me (11 : Int) ≤ F_q me (11 : Int)) ∧ (F_q me (11 : Int) ≤ F me (10 : Int) + 1) ∧ True) := by
  obtain ⟨d, rfl⟩ : ∃ d, dd = d + 1 := ⟨dd - 1, by omega⟩
  refine wk_of (e := jm224) rfl (by rw [jS_r, jS_i, jS_0]; exact Nat.le_of_ble_eq_true rfl) ?_
  rw [la_r, la_i, la_0]
  show wj X d jm224 (0, [(0, rv (me)), (1, .int (i32 (fi)))], [], cV R m tg ln F) _
  have hM0 : Fq 0 [(11, 7), (11, 11), (20, -5), (21, -5), (22, -5)] m tg F F := Fq_r
  obtain ⟨L0, eL0⟩ : ∃ q : jL, q = [(0, rv (me)), (1, .int (i32 (fi)))] := ⟨_, rfl⟩
  rw [← eL0]
  have g51 : jGet L0 0 = some (rv (me)) := eL0 ▸ (rfl : jGet [(0, rv (me)), (1, .int (i32 (fi)))] 0 = some (rv (me)))
  have g52 : jGet L0 1 = some (.int (i32 (fi))) := eL0 ▸ (rfl : jGet [(0, rv (me)), (1, .int (i32 (fi)))] 1 = some (.int (i32 (fi))))
  clear eL0
  refine jx_ld (pc_q := 1) (l_q := L0) (st_q := [rv (me)]) rfl (jl_rvn g51) ?_
  refine cx_gi (pc_q := 4) (c := 10) (q := 11) (v := F (me) (11 : Int)) rfl rfl (by decide) (by decide) (Or.inl rfl) rfl o_me t_me rfl ?_
  have b53 : (0 : Int) ≤ F (me) (11 : Int) ∧ F (me) (11 : Int) ≤ 3002 := by have z := HC_i (c := 10) (q := 11) hC o_me t_me (by decide) rfl; rw [show F (me) ((11 : Nat) : Int) = F (me) (11 : Int) from rfl] at z; exact z
  refine jx_ar (pc_q := 5) (st_q := [.int (i32 (1)), .int (i32 (F (me) (11 : Int)))]) rfl rfl rfl rfl ?_
  refine jx_add (pc_q := 6) rfl rfl ?_
  refine jx_ld (pc_q := 7) (l_q := L0) (st_q := [rv (me), .int (i32 ((F (me) (11 : Int) + 1)))]) rfl (jl_rvn g51) ?_
  refine cx_gi (pc_q := 10) (c := 10) (q := 10) (v := F (me) (10 : Int)) rfl rfl (by decide) (by decide) (Or.inl rfl) rfl o_me t_me rfl ?_
  have b54 : (0 : Int) ≤ F (me) (10 : Int) ∧ F (me) (10 : Int) ≤ 3000 := by have z := HC_i (c := 10) (q := 10) hC o_me t_me (by decide) rfl; rw [show F (me) ((10 : Nat) : Int) = F (me) (10 : Int) from rfl] at z; exact z
  refine jx_icmp_ge (pc_q := 13) (tg := 26) rfl rfl rfl (by omega) (by omega) (by omega) (by omega) (fun h55 => ?_) (fun h55 => ?_)
  · have _q := h55
    refine jx_ar (pc_q := 27) (st_q := [.int (i32 (0))]) rfl rfl rfl rfl ?_
    refine jx_ld (pc_q := 28) (l_q := jSto1 L0 2 (.int (i32 (0)))) (st_q := []) rfl rfl ?_
    obtain ⟨L56, eL56⟩ : ∃ q : jL, q = jSto1 L0 2 (.int (i32 (0))) := ⟨_, rfl⟩
    rw [← eL56]
    have g57 : jGet L56 0 = some (rv (me)) := eL56 ▸ jg_nr (by decide) g51
    have g58 : jGet L56 1 = some (.int (i32 (fi))) := eL56 ▸ jg_ne (by decide) g52 rfl
    have g59 : jGet L56 2 = some (.int (i32 (0))) := eL56 ▸ jg_eq
    clear eL56
    refine jx_ar (pc_q := 29) (st_q := [.int (i32 (0))]) rfl rfl rfl rfl ?_
    refine jx_ld (pc_q := 30) (l_q := jSto1 L56 3 (.int (i32 (0)))) (st_q := []) rfl rfl ?_
    obtain ⟨L60, eL60⟩ : ∃ q : jL, q = jSto1 L56 3 (.int (i32 (0))) := ⟨_, rfl⟩
    rw [← eL60]
    have g61 : jGet L60 0 = some (rv (me)) := eL60 ▸ jg_nr (by decide) g57
    have g62 : jGet L60 1 = some (.int (i32 (fi))) := eL60 ▸ jg_ne (by decide) g58 rfl
    have g63 : jGet L60 2 = some (.int (i32 (0))) := eL60 ▸ jg_ne (by decide) g59 rfl
    have g64 : jGet L60 3 = some (.int (i32 (0))) := eL60 ▸ jg_eq
    clear eL60
    exact k_LScanner_scanSign_at_30 (X := X) (d := d) (R := R) (m := m) (tg := tg) (ln := ln) (F := F) (me := me) (fi := fi) (hd := hd) (hC := hC) (o_me := o_me) (t_me := t_me) (h_fi := h_fi) (p_0 := p_0) (p_1 := p_1) (p_2 := p_2) (p_3 := p_3) _ L60 F (0) (0) rfl g61 g62 g63 g64 hC hM0 (by omega) (by omega) (by omega) (by omega) (by omega)
  · have _q := h55
    refine jx_ld (pc_q := 14) (l_q := L0) (st_q := [rv (me)]) rfl (jl_rvn g51) ?_
    refine jx_ld (pc_q := 15) (l_q := L0) (st_q := [rv (me), rv (me)]) rfl (jl_rvn g51) ?_
    refine cx_gi (pc_q := 18) (c := 10) (q := 11) (v := F (me) (11 : Int)) rfl rfl (by decide) (by decide) (Or.inl rfl) rfl o_me t_me rfl ?_
    refine jx_ar (pc_q := 19) (st_q := [.int (i32 (1)), .int (i32 (F (me) (11 : Int))), rv (me)]) rfl rfl rfl rfl ?_
    refine jx_add (pc_q := 20) rfl rfl ?_
    refine cx_vi (c := 10) (a := me) (st := []) (as := [.int (i32 ((F (me) (11 : Int) + 1)))]) rfl rfl rfl o_me t_me (by decide) rfl ⟨rfl, rfl, (Nat.le_of_ble_eq_true rfl)⟩ rfl (k_LScanner_sign (dd := d) (R := R) (m := m) (tg := tg) (ln := ln) (F := F) (me := me) (a0 := (F (me) (11 : Int) + 1)) (hd := by omega) (hC := hC) (o_me := o_me) (t_me := t_me) (h_a0 := by omega)) (fun o V_q hq => ?_)
    obtain ⟨r65, rfl, rfl, b66, -⟩ := hq
    refine Or.inr (Or.inl ⟨_, rfl, ?_⟩)
    refine jx_go (tg := 27) rfl rfl ?_
    refine jx_ld (pc_q := 28) (l_q := jSto1 L0 2 (.int (i32 (r65)))) (st_q := []) rfl rfl ?_
    obtain ⟨L67, eL67⟩ : ∃ q : jL, q = jSto1 L0 2 (.int (i32 (r65))) := ⟨_, rfl⟩
    rw [← eL67]
    have g68 : jGet L67 0 = some (rv (me)) := eL67 ▸ jg_nr (by decide) g51
    have g69 : jGet L67 1 = some (.int (i32 (fi))) := eL67 ▸ jg_ne (by decide) g52 rfl
    have g70 : jGet L67 2 = some (.int (i32 (r65))) := eL67 ▸ jg_eq
    clear eL67
    refine jx_ar (pc_q := 29) (st_q := [.int (i32 (0))]) rfl rfl rfl rfl ?_
    refine jx_ld (pc_q := 30) (l_q := jSto1 L67 3 (.int (i32 (0)))) (st_q := []) rfl rfl ?_
    obtain ⟨L71, eL71⟩ : ∃ q : jL, q = jSto1 L67 3 (.int (i32 (0))) := ⟨_, rfl⟩
    rw [← eL71]
    have g72 : jGet L71 0 = some (rv (me)) := eL71 ▸ jg_nr (by decide) g68
    have g73 : jGet L71 1 = some (.int (i32 (fi))) := eL71 ▸ jg_ne (by decide) g69 rfl
    have g74 : jGet L71 2 = some (.int (i32 (r65))) := eL71 ▸ jg_ne (by decide) g70 rfl
    have g75 : jGet L71 3 = some (.int (i32 (0))) := eL71 ▸ jg_eq
    clear eL71
    exact k_LScanner_scanSign_at_30 (X := X) (d := d) (R := R) (m := m) (tg := tg) (ln := ln) (F := F) (me := me) (fi := fi) (hd := hd) (hC := hC) (o_me := o_me) (t_me := t_me) (h_fi := h_fi) (p_0 := p_0) (p_1 := p_1) (p_2 := p_2) (p_3 := p_3) _ L71 F (r65) (0) rfl g72 g73 g74 g75 hC hM0 (by omega) (by omega) (by omega) (by omega) (by omega)
set_option maxRecDepth 20000 in
set_option maxHeartbeats 4000000 in
theorem k_LScanner_scanToken {X : jX} {dd : Nat} {R : Nat → jC} {m : Nat} {tg ln : Int → Int} {F : Int → Int → Int} {me : Int} (hd : 4 ≤ dd) (hC : HC 0 m tg ln F) (o_me : own m me) (t_me : tg me = 11) (p_0 : F me (11 : Int) < F me (10 : Int)) (p_1 : F me (10 : Int) ≤ 3000) : wk X dd 216 [rv me] (cV R m tg ln F) (fun o V_q => ∃ (F_q : Int → Int → Int), V_q = cV R m tg ln F_q ∧ o = .inl none ∧ HC 0 m tg ln F_q ∧ Fq 0 [(11, 7), (11, 11), (20, -5), (21, -5), (22, -5)] m tg F F_q ∧ (F me (11 : Int) ≤ F_q me (11 : Int)) ∧ (F_q me (11 : Int) ≤ F me (10 : Int) + 1) ∧ True) := by
  obtain ⟨d, rfl⟩ : ∃ d, dd = d + 1 := ⟨dd - 1, by omega⟩
  refine wk_of (e := jm216) rfl (by rw [jS_r, jS_0]; exact Nat.le_of_ble_eq_true rfl) ?_
  rw [la_r, la_0]
  show wj X d jm216 (0, [(0, rv (me))], [], cV R m tg ln F) _
  have hM0 : Fq 0 [(11, 7), (11, 11), (20, -5), (21, -5), (22, -5)] m tg F F := Fq_r
  obtain ⟨L0, eL0⟩ : ∃ q : jL, q = [(0, rv (me))] := ⟨_, rfl⟩
  rw [← eL0]
  have g1 : jGet L0 0 = some (rv (me)) := eL0 ▸ (rfl : jGet [(0, rv (me))] 0 = some (rv (me)))
  clear eL0
  refine jx_ld (pc_q := 1) (l_q := L0) (st_q := [rv (me)]) rfl (jl_rvn g1) ?_
  refine jx_ld (pc_q := 2) (l_q := L0) (st_q := [rv (me), rv (me)]) rfl (jl_rvn g1) ?_
  refine cx_gi (pc_q := 5) (c := 10) (q := 11) (v := F (me) (11 : Int)) rfl rfl (by decide) (by decide) (Or.inl rfl) rfl o_me t_me rfl ?_
  have b2 : (0 : Int) ≤ F (me) (11 : Int) ∧ F (me) (11 : Int) ≤ 3002 := by have z := HC_i (c := 10) (q := 11) hC o_me t_me (by decide) rfl; rw [show F (me) ((11 : Nat) : Int) = F (me) (11 : Int) from rfl] at z; exact z
  refine cx_vi (c := 10) (a := me) (st := []) (as := [.int (i32 (F (me) (11 : Int)))]) rfl rfl rfl o_me t_me (by decide) rfl ⟨rfl, rfl, (Nat.le_of_ble_eq_true rfl)⟩ rfl (k_LScanner_sign (dd := d) (R := R) (m := m) (tg := tg) (ln := ln) (F := F) (me := me) (a0 := F (me) (11 : Int)) (hd := by omega) (hC := hC) (o_me := o_me) (t_me := t_me) (h_a0 := by omega)) (fun o V_q hq => ?_)
  obtain ⟨r3, rfl, rfl, b4, -⟩ := hq
  refine Or.inr (Or.inl ⟨_, rfl, ?_⟩)
  refine jx_ld (pc_q := 9) (l_q := jSto1 L0 1 (.int (i32 (r3)))) (st_q := []) rfl rfl ?_
  obtain ⟨L5, eL5⟩ : ∃ q : jL, q = jSto1 L0 1 (.int (i32 (r3))) := ⟨_, rfl⟩
  rw [← eL5]
  have g6 : jGet L5 0 = some (rv (me)) := eL5 ▸ jg_nr (by decide) g1
  have g7 : jGet L5 1 = some (.int (i32 (r3))) := eL5 ▸ jg_eq
  clear eL5
  refine jx_ld (pc_q := 10) (l_q := L5) (st_q := [.int (i32 (r3))]) rfl (jl_iloadn g7) ?_
  refine jx_ar (pc_q := 12) (st_q := [.int (i32 (97)), .int (i32 (r3))]) rfl rfl rfl rfl ?_
  refine jx_icmp_lt (pc_q := 15) (tg := 28) rfl rfl rfl (by omega) (by omega) (by decide) (by decide) (fun h8 => ?_) (fun h8 => ?_)
  · have _q := h8
    refine jx_ld (pc_q := 29) (l_q := L5) (st_q := [.int (i32 (r3))]) rfl (jl_iloadn g7) ?_
    refine cx_st (st := []) (as := [.int (i32 (r3))]) rfl rfl rfl ⟨rfl, (Nat.le_of_ble_eq_true rfl)⟩ rfl (k_LScanner_capital (dd := d) (R := R) (m := m) (tg := tg) (ln := ln) (F := F) (a0 := r3) (hd := by omega) (hC := hC) (h_a0 := by omega)) (fun o V_q hq => ?_)
    obtain ⟨r9, rfl, rfl, b10, -⟩ := hq
    refine Or.inr (Or.inl ⟨_, rfl, ?_⟩)
    refine jx_if_eq (pc_q := 35) (tg := 42) rfl rfl rfl (by omega) (by omega) (fun h11 => ?_) (fun h11 => ?_)
    · have _q := h11
      refine jx_ld (pc_q := 43) (l_q := L5) (st_q := [.int (i32 (r3))]) rfl (jl_iloadn g7) ?_
      refine cx_st (st := []) (as := [.int (i32 (r3))]) rfl rfl rfl ⟨rfl, (Nat.le_of_ble_eq_true rfl)⟩ rfl (k_LScanner_digit (dd := d) (R := R) (m := m) (tg := tg) (ln := ln) (F := F) (a0 := r3) (hd := by omega) (hC := hC) (h_a0 := by omega)) (fun o V_q hq => ?_)
      obtain ⟨r12, rfl, rfl, b13, -⟩ := hq
      refine Or.inr (Or.inl ⟨_, rfl, ?_⟩)
      refine jx_if_eq (pc_q := 49) (tg := 56) rfl rfl rfl (by omega) (by omega) (fun h14 => ?_) (fun h14 => ?_)
      · have _q := h14
        refine jx_ld (pc_q := 57) (l_q := L5) (st_q := [rv (me)]) rfl (jl_rvn g6) ?_
        refine jx_ld (pc_q := 58) (l_q := L5) (st_q := [.int (i32 (r3)), rv (me)]) rfl (jl_iloadn g7) ?_
        refine cx_vi (c := 10) (a := me) (st := []) (as := [.int (i32 (r3))]) rfl rfl rfl o_me t_me (by decide) rfl ⟨rfl, rfl, (Nat.le_of_ble_eq_true rfl)⟩ rfl (k_LScanner_scanSign (dd := d) (R := R) (m := m) (tg := tg) (ln := ln) (F := F) (me := me) (fi := r3) (hd := by omega) (hC := hC) (o_me := o_me) (t_me := t_me) (h_fi := by omega) (p_0 := by omega) (p_1 := by omega) (p_2 := by omega) (p_3 := by omega)) (fun o V_q hq => ?_)
        obtain ⟨F15, rfl, rfl, hC16, hM17, p18, p19, -⟩ := hq
        have hM20 : Fq 0 [(11, 7), (11, 11), (20, -5), (21, -5), (22, -5)] m tg F F15 := Fq_t (ln := ln) (ln1 := ln) hM0 Ex_r hM17 (by decide) (Or.inl rfl)
        refine Or.inl ⟨rfl, ?_⟩
        refine jx_rt (v := none) rfl rfl rfl rfl rfl rfl ?_
        exact ⟨F15, rfl, rfl, hC16, hM20, by omega, by omega, trivial⟩
      · have _q := h14
        refine jx_ld (pc_q := 50) (l_q := L5) (st_q := [rv (me)]) rfl (jl_rvn g6) ?_
        refine cx_vi (c := 10) (a := me) (st := []) (as := []) rfl rfl rfl o_me t_me (by decide) rfl ⟨rfl, rfl, (Nat.le_of_ble_eq_true rfl)⟩ rfl (k_LScanner_scanNumber (dd := d) (R := R) (m := m) (tg := tg) (ln := ln) (F := F) (me := me) (hd := by omega) (hC := hC) (o_me := o_me) (t_me := t_me) (p_0 := by omega) (p_1 := by omega)) (fun o V_q hq => ?_)
        obtain ⟨F21, rfl, rfl, hC22, hM23, p24, p25, -⟩ := hq
        have hM26 : Fq 0 [(11, 7), (11, 11), (20, -5), (21, -5), (22, -5)] m tg F F21 := Fq_t (ln := ln) (ln1 := ln) hM0 Ex_r hM23 (by decide) (Or.inl rfl)
        refine Or.inl ⟨rfl, ?_⟩
        refine jx_go (tg := 61) rfl rfl ?_
        refine jx_rt (v := none) rfl rfl rfl rfl rfl rfl ?_
        exact ⟨F21, rfl, rfl, hC22, hM26, by omega, by omega, trivial⟩
    · have _q := h11
      refine jx_ld (pc_q := 36) (l_q := L5) (st_q := [rv (me)]) rfl (jl_rvn g6) ?_
      refine cx_vi (c := 10) (a := me) (st := []) (as := []) rfl rfl rfl o_me t_me (by decide) rfl ⟨rfl, rfl, (Nat.le_of_ble_eq_true rfl)⟩ rfl (k_LScanner_scanKeyword (dd := d) (R := R) (m := m) (tg := tg) (ln := ln) (F := F) (me := me) (hd := by omega) (hC := hC) (o_me := o_me) (t_me := t_me) (p_0 := by omega) (p_1 := by omega)) (fun o V_q hq => ?_)
      obtain ⟨F27, rfl, rfl, hC28, hM29, p30, p31, -⟩ := hq
      have hM32 : Fq 0 [(11, 7), (11, 11), (20, -5), (21, -5), (22, -5)] m tg F F27 := Fq_t (ln := ln) (ln1 := ln) hM0 Ex_r hM29 (by decide) (Or.inl rfl)
      refine Or.inl ⟨rfl, ?_⟩
      refine jx_go (tg := 61) rfl rfl ?_
      refine jx_rt (v := none) rfl rfl rfl rfl rfl rfl ?_
      exact ⟨F27, rfl, rfl, hC28, hM32, by omega, by omega, trivial⟩
  · have _q := h8
    refine jx_ld (pc_q := 16) (l_q := L5) (st_q := [.int (i32 (r3))]) rfl (jl_iloadn g7) ?_
    refine jx_ar (pc_q := 18) (st_q := [.int (i32 (122)), .int (i32 (r3))]) rfl rfl rfl rfl ?_
    refine jx_icmp_gt (pc_q := 21) (tg := 28) rfl rfl rfl (by omega) (by omega) (by decide) (by decide) (fun h33 => ?_) (fun h33 => ?_)
    · have _q := h33
      refine jx_ld (pc_q := 29) (l_q := L5) (st_q := [.int (i32 (r3))]) rfl (jl_iloadn g7) ?_
      refine cx_st (st := []) (as := [.int (i32 (r3))]) rfl rfl rfl ⟨rfl, (Nat.le_of_ble_eq_true rfl)⟩ rfl (k_LScanner_capital (dd := d) (R := R) (m := m) (tg := tg) (ln := ln) (F := F) (a0 := r3) (hd := by omega) (hC := hC) (h_a0 := by omega)) (fun o V_q hq => ?_)
      obtain ⟨r34, rfl, rfl, b35, -⟩ := hq
      refine Or.inr (Or.inl ⟨_, rfl, ?_⟩)
      refine jx_if_eq (pc_q := 35) (tg := 42) rfl rfl rfl (by omega) (by omega) (fun h36 => ?_) (fun h36 => ?_)
      · have _q := h36
        refine jx_ld (pc_q := 43) (l_q := L5) (st_q := [.int (i32 (r3))]) rfl (jl_iloadn g7) ?_
        refine cx_st (st := []) (as := [.int (i32 (r3))]) rfl rfl rfl ⟨rfl, (Nat.le_of_ble_eq_true rfl)⟩ rfl (k_LScanner_digit (dd := d) (R := R) (m := m) (tg := tg) (ln := ln) (F := F) (a0 := r3) (hd := by omega) (hC := hC) (h_a0 := by omega)) (fun o V_q hq => ?_)
        obtain ⟨r37, rfl, rfl, b38, -⟩ := hq
        refine Or.inr (Or.inl ⟨_, rfl, ?_⟩)
        refine jx_if_eq (pc_q := 49) (tg := 56) rfl rfl rfl (by omega) (by omega) (fun h39 => ?_) (fun h39 => ?_)
        · have _q := h39
          refine jx_ld (pc_q := 57) (l_q := L5) (st_q := [rv (me)]) rfl (jl_rvn g6) ?_
          refine jx_ld (pc_q := 58) (l_q := L5) (st_q := [.int (i32 (r3)), rv (me)]) rfl (jl_iloadn g7) ?_
          refine cx_vi (c := 10) (a := me) (st := []) (as := [.int (i32 (r3))]) rfl rfl rfl o_me t_me (by decide) rfl ⟨rfl, rfl, (Nat.le_of_ble_eq_true rfl)⟩ rfl (k_LScanner_scanSign (dd := d) (R := R) (m := m) (tg := tg) (ln := ln) (F := F) (me := me) (fi := r3) (hd := by omega) (hC := hC) (o_me := o_me) (t_me := t_me) (h_fi := by omega) (p_0 := by omega) (p_1 := by omega) (p_2 := by omega) (p_3 := by omega)) (fun o V_q hq => ?_)
          obtain ⟨F40, rfl, rfl, hC41, hM42, p43, p44, -⟩ := hq
          have hM45 : Fq 0 [(11, 7), (11, 11), (20, -5), (21, -5), (22, -5)] m tg F F40 := Fq_t (ln := ln) (ln1 := ln) hM0 Ex_r hM42 (by decide) (Or.inl rfl)
          refine Or.inl ⟨rfl, ?_⟩
          refine jx_rt (v := none) rfl rfl rfl rfl rfl rfl ?_
          exact ⟨F40, rfl, rfl, hC41, hM45, by omega, by omega, trivial⟩
        · have _q := h39
          refine jx_ld (pc_q := 50) (l_q := L5) (st_q := [rv (me)]) rfl (jl_rvn g6) ?_
          refine cx_vi (c := 10) (a := me) (st := []) (as := []) rfl rfl rfl o_me t_me (by decide) rfl ⟨rfl, rfl, (Nat.le_of_ble_eq_true rfl)⟩ rfl (k_LScanner_scanNumber (dd := d) (R := R) (m := m) (tg := tg) (ln := ln) (F := F) (me := me) (hd := by omega) (hC := hC) (o_me := o_me) (t_me := t_me) (p_0 := by omega) (p_1 := by omega)) (fun o V_q hq => ?_)
          obtain ⟨F46, rfl, rfl, hC47, hM48, p49, p50, -⟩ := hq
          have hM51 : Fq 0 [(11, 7), (11, 11), (20, -5), (21, -5), (22, -5)] m tg F F46 := Fq_t (ln := ln) (ln1 := ln) hM0 Ex_r hM48 (by decide) (Or.inl rfl)
          refine Or.inl ⟨rfl, ?_⟩
          refine jx_go (tg := 61) rfl rfl ?_
          refine jx_rt (v := none) rfl rfl rfl rfl rfl rfl ?_
          exact ⟨F46, rfl, rfl, hC47, hM51, by omega, by omega, trivial⟩
      · have _q := h36
        refine jx_ld (pc_q := 36) (l_q := L5) (st_q := [rv (me)]) rfl (jl_rvn g6) ?_
        refine cx_vi (c := 10) (a := me) (st := []) (as := []) rfl rfl rfl o_me t_me (by decide) rfl ⟨rfl, rfl, (Nat.le_of_ble_eq_true rfl)⟩ rfl (k_LScanner_scanKeyword (dd := d) (R := R) (m := m) (tg := tg) (ln := ln) (F := F) (me := me) (hd := by omega) (hC := hC) (o_me := o_me) (t_me := t_me) (p_0 := by omega) (p_1 := by omega)) (fun o V_q hq => ?_)
        obtain ⟨F52, rfl, rfl, hC53, hM54, p55, p56, -⟩ := hq
        have hM57 : Fq 0 [(11, 7), (11, 11), (20, -5), (21, -5), (22, -5)] m tg F F52 := Fq_t (ln := ln) (ln1 := ln) hM0 Ex_r hM54 (by decide) (Or.inl rfl)
        refine Or.inl ⟨rfl, ?_⟩
        refine jx_go (tg := 61) rfl rfl ?_
        refine jx_rt (v := none) rfl rfl rfl rfl rfl rfl ?_
        exact ⟨F52, rfl, rfl, hC53, hM57, by omega, by omega, trivial⟩
    · have _q := h33
      refine jx_ld (pc_q := 22) (l_q := L5) (st_q := [rv (me)]) rfl (jl_rvn g6) ?_
      refine cx_vi (c := 10) (a := me) (st := []) (as := []) rfl rfl rfl o_me t_me (by decide) rfl ⟨rfl, rfl, (Nat.le_of_ble_eq_true rfl)⟩ rfl (k_LScanner_scanName (dd := d) (R := R) (m := m) (tg := tg) (ln := ln) (F := F) (me := me) (hd := by omega) (hC := hC) (o_me := o_me) (t_me := t_me) (p_0 := by omega) (p_1 := by omega)) (fun o V_q hq => ?_)
      obtain ⟨F58, rfl, rfl, hC59, hM60, p61, p62, -⟩ := hq
      have hM63 : Fq 0 [(11, 7), (11, 11), (20, -5), (21, -5), (22, -5)] m tg F F58 := Fq_t (ln := ln) (ln1 := ln) hM0 Ex_r hM60 (by decide) (Or.inl rfl)
      refine Or.inl ⟨rfl, ?_⟩
      refine jx_go (tg := 61) rfl rfl ?_
      refine jx_rt (v := none) rfl rfl rfl rfl rfl rfl ?_
      exact ⟨F58, rfl, rfl, hC59, hM63, by omega, by omega, trivial⟩
set_option maxRecDepth 20000 in
set_option maxHeartbeats 4000000 in
theorem k_LScanner_scanLine_at_176 {X : jX} {d : Nat} {R : Nat → jC} {m : Nat} {tg ln : Int → Int} {F : Int → Int → Int} {me bg : Int} (hd : 5 ≤ d + 1) (hC : HC 0 m tg ln F) (o_me : own m me) (t_me : tg me = 11) (h_bg : (-2147483648 : Int) ≤ bg ∧ bg ≤ 2147483647) (p_0 : 0 ≤ bg) (p_1 : bg ≤ F me (1 : Int)) (p_2 : F me (1 : Int) ≤ 3000) : ∀ (mm : Nat) (L : jL) (Fx : Int → Int → Int) (af cn k : Int), (3000 - k).toNat = mm → jGet L 0 = some (rv (me)) → jGet L 1 = some (.int (i32 (bg))) → jGet L 2 = some (.int (i32 af)) → jGet L 4 = some (.int (i32 cn)) → jGet L 5 = some (.int (i32 k)) → HC 0 m tg ln Fx → Fq 0 [(11, 7), (11, 9), (11, 10), (11, 11), (11, 14), (20, -5), (21, -5), (22, -5)] m tg F Fx → ((-2147483648 : Int) ≤ af ∧ af ≤ 2147483647) → ((-2147483648 : Int) ≤ cn ∧ cn ≤ 2147483647) → ((-2147483648 : Int) ≤ k ∧ k ≤ 2147483647) → (bg ≤ af) → (af ≤ F me (1 : Int)) → (Fx me (11 : Int) ≤ Fx me (10 : Int) + 1) → (k ≤ 3000) → (Fx me (10 : Int) ≤ 3000) → wj X d jm212 (176, L, [], cV R m tg ln Fx) (fun o V_q => ∃ (F_q : Int → Int → Int) (r : Int), V_q = cV R m tg ln F_q ∧ o = .inl (some (.int (i32 r))) ∧ HC 0 m tg ln F_q ∧ Fq 0 [(11, 7), (11, 9), (11, 10), (11, 11), (11, 14), (20, -5), (21, -5), (22, -5)] m tg F F_q ∧ (-2147483648 ≤ r ∧ r ≤ 2147483647) ∧ (bg < r) ∧ (r ≤ F me (1 : Int) + 1) ∧ True) := by
  intro mm
  induction mm using Nat.strongRecOn with
  | ind mm ih =>
    intro L Fx af cn k hmm gL_0 gL_1 gL_2 gL_4 gL_5 hCx hMx rx_af rx_cn rx_k iv_0 iv_1 iv_2 iv_3 iv_4
    refine jx_ld (pc_q := 178) (l_q := L) (st_q := [.int (i32 (k))]) rfl (jl_iload gL_5) ?_
    refine jx_ld (pc_q := 179) (l_q := L) (st_q := [rv (me), .int (i32 (k))]) rfl (jl_rvn gL_0) ?_
    refine cx_gi (pc_q := 182) (c := 10) (q := 10) (v := Fx (me) (10 : Int)) rfl rfl (by decide) (by decide) (Or.inl rfl) rfl o_me t_me rfl ?_
    have b1 : (0 : Int) ≤ Fx (me) (10 : Int) ∧ Fx (me) (10 : Int) ≤ 3000 := by have z := HC_i (c := 10) (q := 10) hCx o_me t_me (by decide) rfl; rw [show Fx (me) ((10 : Nat) : Int) = Fx (me) (10 : Int) from rfl] at z; exact z
    refine jx_icmp_ge (pc_q := 185) (tg := 210) rfl rfl rfl (by omega) (by omega) (by omega) (by omega) (fun h2 => ?_) (fun h2 => ?_)
    · have _q := h2
      refine jx_ld (pc_q := 212) (l_q := L) (st_q := [.int (i32 (cn))]) rfl (jl_iload gL_4) ?_
      refine jx_if_eq (pc_q := 215) (tg := 225) rfl rfl rfl (by omega) (by omega) (fun h3 => ?_) (fun h3 => ?_)
      · have _q := h3
        refine jx_ld (pc_q := 226) (l_q := L) (st_q := [.int (i32 (af))]) rfl (jl_iloadn gL_2) ?_
        refine jx_ar (pc_q := 227) (st_q := [.int (i32 (1)), .int (i32 (af))]) rfl rfl rfl rfl ?_
        refine jx_add (pc_q := 228) rfl rfl ?_
        refine jx_rt (v := some (.int (i32 ((af + 1))))) rfl rfl rfl rfl rfl rfl ?_
        exact ⟨Fx, ((af + 1)), rfl, rfl, hCx, hMx, by omega, by omega, by omega, trivial⟩
      · have _q := h3
        refine jx_ld (pc_q := 216) (l_q := L) (st_q := [rv (me)]) rfl (jl_rvn gL_0) ?_
        refine jx_ar (pc_q := 217) (st_q := [.int (i32 (0)), rv (me)]) rfl rfl rfl rfl ?_
        refine jx_ld (pc_q := 218) (l_q := L) (st_q := [rv (me), .int (i32 (0)), rv (me)]) rfl (jl_rvn gL_0) ?_
        refine cx_gi (pc_q := 221) (c := 10) (q := 10) (v := Fx (me) (10 : Int)) rfl rfl (by decide) (by decide) (Or.inl rfl) rfl o_me t_me rfl ?_
        refine jx_ar (pc_q := 222) (st_q := [.long (Int64.ofNat 0), .int (i32 (Fx (me) (10 : Int))), .int (i32 (0)), rv (me)]) rfl rfl rfl rfl ?_
        refine cx_vi (c := 10) (a := me) (st := []) (as := [.int (i32 (0)), .int (i32 (Fx (me) (10 : Int))), .long (Int64.ofNat 0)]) rfl rfl rfl o_me t_me (by decide) rfl ⟨rfl, rfl, (Nat.le_of_ble_eq_true rfl)⟩ rfl (k_LScanner_add (dd := d) (R := R) (m := m) (tg := tg) (ln := ln) (F := Fx) (me := me) (kd := 0) (fr := Fx (me) (10 : Int)) (vl := Int64.ofNat 0) (hd := by omega) (hC := hCx) (o_me := o_me) (t_me := t_me) (h_kd := by omega) (h_fr := by omega)) (fun o V_q hq => ?_)
        obtain ⟨F4, rfl, rfl, hC5, hM6, -⟩ := hq
        have hM7 : Fq 0 [(11, 7), (11, 9), (11, 10), (11, 11), (11, 14), (20, -5), (21, -5), (22, -5)] m tg F F4 := Fq_t (ln := ln) (ln1 := ln) hMx Ex_r hM6 (by decide) (Or.inl rfl)
        refine Or.inl ⟨rfl, ?_⟩
        refine jx_ld (pc_q := 226) (l_q := L) (st_q := [.int (i32 (af))]) rfl (jl_iloadn gL_2) ?_
        refine jx_ar (pc_q := 227) (st_q := [.int (i32 (1)), .int (i32 (af))]) rfl rfl rfl rfl ?_
        refine jx_add (pc_q := 228) rfl rfl ?_
        refine jx_rt (v := some (.int (i32 ((af + 1))))) rfl rfl rfl rfl rfl rfl ?_
        exact ⟨F4, ((af + 1)), rfl, rfl, hC5, hM7, by omega, by omega, by omega, trivial⟩
    · have _q := h2
      refine jx_ld (pc_q := 186) (l_q := L) (st_q := [rv (me)]) rfl (jl_rvn gL_0) ?_
      refine cx_gi (pc_q := 189) (c := 10) (q := 11) (v := Fx (me) (11 : Int)) rfl rfl (by decide) (by decide) (Or.inl rfl) rfl o_me t_me rfl ?_
      have b8 : (0 : Int) ≤ Fx (me) (11 : Int) ∧ Fx (me) (11 : Int) ≤ 3002 := by have z := HC_i (c := 10) (q := 11) hCx o_me t_me (by decide) rfl; rw [show Fx (me) ((11 : Nat) : Int) = Fx (me) (11 : Int) from rfl] at z; exact z
      refine jx_ld (pc_q := 190) (l_q := L) (st_q := [rv (me), .int (i32 (Fx (me) (11 : Int)))]) rfl (jl_rvn gL_0) ?_
      refine cx_gi (pc_q := 193) (c := 10) (q := 10) (v := Fx (me) (10 : Int)) rfl rfl (by decide) (by decide) (Or.inl rfl) rfl o_me t_me rfl ?_
      refine jx_icmp_ge (pc_q := 196) (tg := 210) rfl rfl rfl (by omega) (by omega) (by omega) (by omega) (fun h9 => ?_) (fun h9 => ?_)
      · have _q := h9
        refine jx_ld (pc_q := 212) (l_q := L) (st_q := [.int (i32 (cn))]) rfl (jl_iload gL_4) ?_
        refine jx_if_eq (pc_q := 215) (tg := 225) rfl rfl rfl (by omega) (by omega) (fun h10 => ?_) (fun h10 => ?_)
        · have _q := h10
          refine jx_ld (pc_q := 226) (l_q := L) (st_q := [.int (i32 (af))]) rfl (jl_iloadn gL_2) ?_
          refine jx_ar (pc_q := 227) (st_q := [.int (i32 (1)), .int (i32 (af))]) rfl rfl rfl rfl ?_
          refine jx_add (pc_q := 228) rfl rfl ?_
          refine jx_rt (v := some (.int (i32 ((af + 1))))) rfl rfl rfl rfl rfl rfl ?_
          exact ⟨Fx, ((af + 1)), rfl, rfl, hCx, hMx, by omega, by omega, by omega, trivial⟩
        · have _q := h10
          refine jx_ld (pc_q := 216) (l_q := L) (st_q := [rv (me)]) rfl (jl_rvn gL_0) ?_
          refine jx_ar (pc_q := 217) (st_q := [.int (i32 (0)), rv (me)]) rfl rfl rfl rfl ?_
          refine jx_ld (pc_q := 218) (l_q := L) (st_q := [rv (me), .int (i32 (0)), rv (me)]) rfl (jl_rvn gL_0) ?_
          refine cx_gi (pc_q := 221) (c := 10) (q := 10) (v := Fx (me) (10 : Int)) rfl rfl (by decide) (by decide) (Or.inl rfl) rfl o_me t_me rfl ?_
          refine jx_ar (pc_q := 222) (st_q := [.long (Int64.ofNat 0), .int (i32 (Fx (me) (10 : Int))), .int (i32 (0)), rv (me)]) rfl rfl rfl rfl ?_
          refine cx_vi (c := 10) (a := me) (st := []) (as := [.int (i32 (0)), .int (i32 (Fx (me) (10 : Int))), .long (Int64.ofNat 0)]) rfl rfl rfl o_me t_me (by decide) rfl ⟨rfl, rfl, (Nat.le_of_ble_eq_true rfl)⟩ rfl (k_LScanner_add (dd := d) (R := R) (m := m) (tg := tg) (ln := ln) (F := Fx) (me := me) (kd := 0) (fr := Fx (me) (10 : Int)) (vl := Int64.ofNat 0) (hd := by omega) (hC := hCx) (o_me := o_me) (t_me := t_me) (h_kd := by omega) (h_fr := by omega)) (fun o V_q hq => ?_)
          obtain ⟨F11, rfl, rfl, hC12, hM13, -⟩ := hq
          have hM14 : Fq 0 [(11, 7), (11, 9), (11, 10), (11, 11), (11, 14), (20, -5), (21, -5), (22, -5)] m tg F F11 := Fq_t (ln := ln) (ln1 := ln) hMx Ex_r hM13 (by decide) (Or.inl rfl)
          refine Or.inl ⟨rfl, ?_⟩
          refine jx_ld (pc_q := 226) (l_q := L) (st_q := [.int (i32 (af))]) rfl (jl_iloadn gL_2) ?_
          refine jx_ar (pc_q := 227) (st_q := [.int (i32 (1)), .int (i32 (af))]) rfl rfl rfl rfl ?_
          refine jx_add (pc_q := 228) rfl rfl ?_
          refine jx_rt (v := some (.int (i32 ((af + 1))))) rfl rfl rfl rfl rfl rfl ?_
          exact ⟨F11, ((af + 1)), rfl, rfl, hC12, hM14, by omega, by omega, by omega, trivial⟩
      · have _q := h9
        refine jx_ld (pc_q := 197) (l_q := L) (st_q := [rv (me)]) rfl (jl_rvn gL_0) ?_
        refine cx_vi (c := 10) (a := me) (st := []) (as := []) rfl rfl rfl o_me t_me (by decide) rfl ⟨rfl, rfl, (Nat.le_of_ble_eq_true rfl)⟩ rfl (k_LScanner_scanToken (dd := d) (R := R) (m := m) (tg := tg) (ln := ln) (F := Fx) (me := me) (hd := by omega) (hC := hCx) (o_me := o_me) (t_me := t_me) (p_0 := by omega) (p_1 := by omega)) (fun o V_q hq => ?_)
        obtain ⟨F15, rfl, rfl, hC16, hM17, p18, p19, -⟩ := hq
        have hM20 : Fq 0 [(11, 7), (11, 9), (11, 10), (11, 11), (11, 14), (20, -5), (21, -5), (22, -5)] m tg F F15 := Fq_t (ln := ln) (ln1 := ln) hMx Ex_r hM17 (by decide) (Or.inl rfl)
        refine Or.inl ⟨rfl, ?_⟩
        refine jx_ld (pc_q := 201) (l_q := L) (st_q := [rv (me)]) rfl (jl_rvn gL_0) ?_
        have q21 : F15 (me) (10 : Int) = Fx (me) (10 : Int) := (show F15 (me) (10 : Int) = Fx (me) (10 : Int) from hM17 _ _ o_me (own_z o_me) (by rw [t_me]; rfl))
        refine cx_vi (c := 10) (a := me) (st := []) (as := []) rfl rfl rfl o_me t_me (by decide) rfl ⟨rfl, rfl, (Nat.le_of_ble_eq_true rfl)⟩ rfl (k_LScanner_skipBlanks (dd := d) (R := R) (m := m) (tg := tg) (ln := ln) (F := F15) (me := me) (hd := by omega) (hC := hC16) (o_me := o_me) (t_me := t_me) (p_0 := by omega) (p_1 := by omega)) (fun o V_q hq => ?_)
        obtain ⟨F22, rfl, rfl, hC23, hM24, p25, p26, -⟩ := hq
        have hM27 : Fq 0 [(11, 7), (11, 9), (11, 10), (11, 11), (11, 14), (20, -5), (21, -5), (22, -5)] m tg F F22 := Fq_t (ln := ln) (ln1 := ln) hM20 Ex_r hM24 (by decide) (Or.inl rfl)
        refine Or.inl ⟨rfl, ?_⟩
        refine jx_inc (pc_q := 207) (l_q := jSto1 L 5 (.int (i32 (k + (1))))) (x := k) rfl gL_5 (by decide) rfl rfl ?_
        obtain ⟨L28, eL28⟩ : ∃ q : jL, q = jSto1 L 5 (.int (i32 ((k + (1))))) := ⟨_, rfl⟩
        rw [← eL28]
        have g29 : jGet L28 0 = some (rv (me)) := eL28 ▸ jg_nr (by decide) gL_0
        have g30 : jGet L28 1 = some (.int (i32 (bg))) := eL28 ▸ jg_ne (by decide) gL_1 rfl
        have g31 : jGet L28 2 = some (.int (i32 (af))) := eL28 ▸ jg_ne (by decide) gL_2 rfl
        have g32 : jGet L28 4 = some (.int (i32 (cn))) := eL28 ▸ jg_ne (by decide) gL_4 rfl
        have g33 : jGet L28 5 = some (.int (i32 ((k + (1))))) := eL28 ▸ jg_eq
        clear eL28
        refine jx_go (tg := 176) rfl rfl ?_
        have q34 : F22 (me) (10 : Int) = Fx (me) (10 : Int) := ((show F22 (me) (10 : Int) = F15 (me) (10 : Int) from hM24 _ _ o_me (own_z o_me) (by rw [t_me]; rfl)).trans (show F15 (me) (10 : Int) = Fx (me) (10 : Int) from hM17 _ _ o_me (own_z o_me) (by rw [t_me]; rfl)))
        exact ih _ (by omega) L28 F22 (af) (cn) ((k + (1))) rfl g29 g30 g31 g32 g33 hC23 hM27 (by omega) (by omega) (by omega) (by omega) (by omega) (by omega) (by omega) (by omega)
set_option maxRecDepth 20000 in
set_option maxHeartbeats 4000000 in
theorem k_LScanner_scanLine_at_80 {X : jX} {d : Nat} {R : Nat → jC} {m : Nat} {tg ln : Int → Int} {F : Int → Int → Int} {me bg : Int} (hd : 5 ≤ d + 1) (hC : HC 0 m tg ln F) (o_me : own m me) (t_me : tg me = 11) (h_bg : (-2147483648 : Int) ≤ bg ∧ bg ≤ 2147483647) (p_0 : 0 ≤ bg) (p_1 : bg ≤ F me (1 : Int)) (p_2 : F me (1 : Int) ≤ 3000) : ∀ (mm : Nat) (L : jL) (Fx : Int → Int → Int) (af : Int), (F me (1 : Int) - af).toNat = mm → jGet L 0 = some (rv (me)) → jGet L 1 = some (.int (i32 (bg))) → jGet L 2 = some (.int (i32 af)) → HC 0 m tg ln Fx → Fq 0 [(11, 7), (11, 9), (11, 10), (11, 11), (11, 14), (20, -5), (21, -5), (22, -5)] m tg F Fx → ((-2147483648 : Int) ≤ af ∧ af ≤ 2147483647) → (bg ≤ Fx me (10 : Int)) → (Fx me (10 : Int) ≤ af) → (af ≤ F me (1 : Int)) → (Fx me (9 : Int) = bg) → wj X d jm212 (80, L, [], cV R m tg ln Fx) (fun o V_q => ∃ (F_q : Int → Int → Int) (r : Int), V_q = cV R m tg ln F_q ∧ o = .inl (some (.int (i32 r))) ∧ HC 0 m tg ln F_q ∧ Fq 0 [(11, 7), (11, 9), (11, 10), (11, 11), (11, 14), (20, -5), (21, -5), (22, -5)] m tg F F_q ∧ (-2147483648 ≤ r ∧ r ≤ 2147483647) ∧ (bg < r) ∧ (r ≤ F me (1 : Int) + 1) ∧ True) := by
  intro mm
  induction mm using Nat.strongRecOn with
  | ind mm ih =>
    intro L Fx af hmm gL_0 gL_1 gL_2 hCx hMx rx_af iv_0 iv_1 iv_2 iv_3
    refine jx_ld (pc_q := 81) (l_q := L) (st_q := [.int (i32 (af))]) rfl (jl_iloadn gL_2) ?_
    refine jx_ld (pc_q := 82) (l_q := L) (st_q := [rv (me), .int (i32 (af))]) rfl (jl_rvn gL_0) ?_
    refine cx_gi (pc_q := 85) (c := 10) (q := 1) (v := F (me) (1 : Int)) rfl rfl (by decide) (by decide) (Or.inl rfl) rfl o_me t_me (show Fx (me) (1 : Int) = F (me) (1 : Int) from hMx _ _ o_me (own_z o_me) (by rw [t_me]; rfl)) ?_
    have b35 : (0 : Int) ≤ F (me) (1 : Int) ∧ F (me) (1 : Int) ≤ 3000 := by have z := HC_i (c := 10) (q := 1) hCx o_me t_me (by decide) rfl; rw [show Fx (me) ((1 : Nat) : Int) = F (me) (1 : Int) from (show Fx (me) (1 : Int) = F (me) (1 : Int) from hMx _ _ o_me (own_z o_me) (by rw [t_me]; rfl))] at z; exact z
    refine jx_icmp_ge (pc_q := 88) (tg := 104) rfl rfl rfl (by omega) (by omega) (by omega) (by omega) (fun h36 => ?_) (fun h36 => ?_)
    · have _q := h36
      refine jx_ld (pc_q := 105) (l_q := L) (st_q := [rv (me)]) rfl (jl_rvn gL_0) ?_
      refine jx_ld (pc_q := 106) (l_q := L) (st_q := [rv (me), rv (me)]) rfl (jl_rvn gL_0) ?_
      refine cx_gi (pc_q := 109) (c := 10) (q := 9) (v := Fx (me) (9 : Int)) rfl rfl (by decide) (by decide) (Or.inl rfl) rfl o_me t_me rfl ?_
      have b37 : (0 : Int) ≤ Fx (me) (9 : Int) ∧ Fx (me) (9 : Int) ≤ 3000 := by have z := HC_i (c := 10) (q := 9) hCx o_me t_me (by decide) rfl; rw [show Fx (me) ((9 : Nat) : Int) = Fx (me) (9 : Int) from rfl] at z; exact z
      refine cx_pi (pc_q := 112) (c := 10) (q := 11) (qi := (11 : Int)) (z := Fx (me) (9 : Int)) rfl rfl (by decide) (by decide) rfl rfl rfl (by decide) rfl o_me t_me rfl ?_
      obtain ⟨F38, eF38⟩ : ∃ q, q = uF Fx (me) (11 : Int) (Fx (me) (9 : Int)) := ⟨_, rfl⟩
      rw [← eF38]
      have hC39 : HC 0 m tg ln F38 := by rw [eF38]; exact HC_fi (c := 10) (q := 11) hCx t_me (by decide) rfl (by omega) (by omega) ⟨fun _ => ⟨fun w1 w2 => absurd w2 (by omega), fun w => absurd w (by decide)⟩, fun w => absurd w (by decide)⟩
      have hM40 : Fq 0 [(11, 7), (11, 9), (11, 10), (11, 11), (11, 14), (20, -5), (21, -5), (22, -5)] m tg F F38 := by rw [eF38]; exact Fq_p hMx t_me (fun _ => rfl) rfl
      refine jx_ld (pc_q := 113) (l_q := L) (st_q := [rv (me)]) rfl (jl_rvn gL_0) ?_
      have q41 : F38 (me) (11 : Int) = Fx (me) (9 : Int) := (show F38 (me) (11 : Int) = Fx (me) (9 : Int) from by rw [eF38]; exact uF_e)
      have q42 : F38 (me) (10 : Int) = Fx (me) (10 : Int) := (show F38 (me) (10 : Int) = Fx (me) (10 : Int) from by rw [eF38]; exact uF_j (by decide))
      refine cx_vi (c := 10) (a := me) (st := []) (as := []) rfl rfl rfl o_me t_me (by decide) rfl ⟨rfl, rfl, (Nat.le_of_ble_eq_true rfl)⟩ rfl (k_LScanner_skipBlanks (dd := d) (R := R) (m := m) (tg := tg) (ln := ln) (F := F38) (me := me) (hd := by omega) (hC := hC39) (o_me := o_me) (t_me := t_me) (p_0 := by omega) (p_1 := by omega)) (fun o V_q hq => ?_)
      obtain ⟨F43, rfl, rfl, hC44, hM45, p46, p47, -⟩ := hq
      have hM48 : Fq 0 [(11, 7), (11, 9), (11, 10), (11, 11), (11, 14), (20, -5), (21, -5), (22, -5)] m tg F F43 := Fq_t (ln := ln) (ln1 := ln) hM40 Ex_r hM45 (by decide) (Or.inl rfl)
      refine Or.inl ⟨rfl, ?_⟩
      refine jx_ld (pc_q := 117) (l_q := L) (st_q := [rv (me)]) rfl (jl_rvn gL_0) ?_
      refine cx_gi (pc_q := 120) (c := 10) (q := 11) (v := F43 (me) (11 : Int)) rfl rfl (by decide) (by decide) (Or.inl rfl) rfl o_me t_me rfl ?_
      have b49 : (0 : Int) ≤ F43 (me) (11 : Int) ∧ F43 (me) (11 : Int) ≤ 3002 := by have z := HC_i (c := 10) (q := 11) hC44 o_me t_me (by decide) rfl; rw [show F43 (me) ((11 : Nat) : Int) = F43 (me) (11 : Int) from rfl] at z; exact z
      refine jx_ld (pc_q := 121) (l_q := L) (st_q := [rv (me), .int (i32 (F43 (me) (11 : Int)))]) rfl (jl_rvn gL_0) ?_
      refine cx_gi (pc_q := 124) (c := 10) (q := 9) (v := Fx (me) (9 : Int)) rfl rfl (by decide) (by decide) (Or.inl rfl) rfl o_me t_me ((show F43 (me) (9 : Int) = F38 (me) (9 : Int) from hM45 _ _ o_me (own_z o_me) (by rw [t_me]; rfl)).trans (show F38 (me) (9 : Int) = Fx (me) (9 : Int) from by rw [eF38]; exact uF_j (by decide))) ?_
      refine jx_sub (pc_q := 125) rfl rfl ?_
      refine jx_ld (pc_q := 126) (l_q := jSto1 L 3 (.int (i32 ((F43 (me) (11 : Int) - Fx (me) (9 : Int)))))) (st_q := []) rfl rfl ?_
      obtain ⟨L50, eL50⟩ : ∃ q : jL, q = jSto1 L 3 (.int (i32 ((F43 (me) (11 : Int) - Fx (me) (9 : Int))))) := ⟨_, rfl⟩
      rw [← eL50]
      have g51 : jGet L50 0 = some (rv (me)) := eL50 ▸ jg_nr (by decide) gL_0
      have g52 : jGet L50 1 = some (.int (i32 (bg))) := eL50 ▸ jg_ne (by decide) gL_1 rfl
      have g53 : jGet L50 2 = some (.int (i32 (af))) := eL50 ▸ jg_ne (by decide) gL_2 rfl
      have g54 : jGet L50 3 = some (.int (i32 ((F43 (me) (11 : Int) - Fx (me) (9 : Int))))) := eL50 ▸ jg_eq
      clear eL50
      refine jx_ld (pc_q := 127) (l_q := L50) (st_q := [rv (me)]) rfl (jl_rvn g51) ?_
      refine cx_gi (pc_q := 130) (c := 10) (q := 11) (v := F43 (me) (11 : Int)) rfl rfl (by decide) (by decide) (Or.inl rfl) rfl o_me t_me rfl ?_
      refine jx_ld (pc_q := 131) (l_q := L50) (st_q := [rv (me), .int (i32 (F43 (me) (11 : Int)))]) rfl (jl_rvn g51) ?_
      refine cx_gi (pc_q := 134) (c := 10) (q := 10) (v := Fx (me) (10 : Int)) rfl rfl (by decide) (by decide) (Or.inl rfl) rfl o_me t_me ((show F43 (me) (10 : Int) = F38 (me) (10 : Int) from hM45 _ _ o_me (own_z o_me) (by rw [t_me]; rfl)).trans (show F38 (me) (10 : Int) = Fx (me) (10 : Int) from by rw [eF38]; exact uF_j (by decide))) ?_
      have b55 : (0 : Int) ≤ Fx (me) (10 : Int) ∧ Fx (me) (10 : Int) ≤ 3000 := by have z := HC_i (c := 10) (q := 10) hC44 o_me t_me (by decide) rfl; rw [show F43 (me) ((10 : Nat) : Int) = Fx (me) (10 : Int) from ((show F43 (me) (10 : Int) = F38 (me) (10 : Int) from hM45 _ _ o_me (own_z o_me) (by rw [t_me]; rfl)).trans (show F38 (me) (10 : Int) = Fx (me) (10 : Int) from by rw [eF38]; exact uF_j (by decide)))] at z; exact z
      refine jx_icmp_ge (pc_q := 137) (tg := 141) rfl rfl rfl (by omega) (by omega) (by omega) (by omega) (fun h56 => ?_) (fun h56 => ?_)
      · have _q := h56
        refine jx_ar (pc_q := 142) (st_q := [.int (i32 (0))]) rfl rfl rfl rfl ?_
        refine jx_ld (pc_q := 144) (l_q := jSto1 L50 4 (.int (i32 (0)))) (st_q := []) rfl rfl ?_
        obtain ⟨L57, eL57⟩ : ∃ q : jL, q = jSto1 L50 4 (.int (i32 (0))) := ⟨_, rfl⟩
        rw [← eL57]
        have g58 : jGet L57 0 = some (rv (me)) := eL57 ▸ jg_nr (by decide) g51
        have g59 : jGet L57 1 = some (.int (i32 (bg))) := eL57 ▸ jg_ne (by decide) g52 rfl
        have g60 : jGet L57 2 = some (.int (i32 (af))) := eL57 ▸ jg_ne (by decide) g53 rfl
        have g61 : jGet L57 3 = some (.int (i32 ((F43 (me) (11 : Int) - Fx (me) (9 : Int))))) := eL57 ▸ jg_ne (by decide) g54 rfl
        have g62 : jGet L57 4 = some (.int (i32 (0))) := eL57 ▸ jg_eq
        clear eL57
        refine jx_ld (pc_q := 145) (l_q := L57) (st_q := [rv (me)]) rfl (jl_rvn g58) ?_
        refine jx_ld (pc_q := 146) (l_q := L57) (st_q := [.int (i32 ((F43 (me) (11 : Int) - Fx (me) (9 : Int)))), rv (me)]) rfl (jl_iloadn g61) ?_
        refine jx_ar (pc_q := 147) (st_q := [.int (i32 (2)), .int (i32 ((F43 (me) (11 : Int) - Fx (me) (9 : Int)))), rv (me)]) rfl rfl rfl rfl ?_
        refine jx_remw (pc_q := 148) rfl rfl (by omega) (by omega) (by omega) (fun r63 hr63 => ?_)
        refine jx_if_ne (pc_q := 151) (tg := 165) rfl rfl rfl (by omega) (by omega) (fun h64 => ?_) (fun h64 => ?_)
        · have _q := h64
          refine jx_ar (pc_q := 167) (st_q := [.int (i32 (-2)), rv (me)]) rfl rfl rfl rfl ?_
          refine cx_pi (pc_q := 170) (c := 10) (q := 14) (qi := (14 : Int)) (z := -2) rfl rfl (by decide) (by decide) rfl rfl rfl (by decide) rfl o_me t_me rfl ?_
          obtain ⟨F65, eF65⟩ : ∃ q, q = uF F43 (me) (14 : Int) (-2) := ⟨_, rfl⟩
          rw [← eF65]
          have hC66 : HC 0 m tg ln F65 := by rw [eF65]; exact HC_fi (c := 10) (q := 14) hC44 t_me (by decide) rfl (by omega) (by omega) ⟨fun _ => ⟨fun w1 w2 => absurd w2 (by omega), fun w => absurd w (by decide)⟩, fun w => absurd w (by decide)⟩
          have hM67 : Fq 0 [(11, 7), (11, 9), (11, 10), (11, 11), (11, 14), (20, -5), (21, -5), (22, -5)] m tg F F65 := by rw [eF65]; exact Fq_p hM48 t_me (fun _ => rfl) rfl
          refine jx_ld (pc_q := 171) (l_q := L57) (st_q := [rv (me)]) rfl (jl_rvn g58) ?_
          refine cx_gi (pc_q := 174) (c := 10) (q := 9) (v := Fx (me) (9 : Int)) rfl rfl (by decide) (by decide) (Or.inl rfl) rfl o_me t_me ((show F65 (me) (9 : Int) = F43 (me) (9 : Int) from by rw [eF65]; exact uF_j (by decide)).trans ((show F43 (me) (9 : Int) = F38 (me) (9 : Int) from hM45 _ _ o_me (own_z o_me) (by rw [t_me]; rfl)).trans (show F38 (me) (9 : Int) = Fx (me) (9 : Int) from by rw [eF38]; exact uF_j (by decide)))) ?_
          refine jx_ld (pc_q := 176) (l_q := jSto1 L57 5 (.int (i32 (Fx (me) (9 : Int))))) (st_q := []) rfl rfl ?_
          obtain ⟨L68, eL68⟩ : ∃ q : jL, q = jSto1 L57 5 (.int (i32 (Fx (me) (9 : Int)))) := ⟨_, rfl⟩
          rw [← eL68]
          have g69 : jGet L68 0 = some (rv (me)) := eL68 ▸ jg_nr (by decide) g58
          have g70 : jGet L68 1 = some (.int (i32 (bg))) := eL68 ▸ jg_ne (by decide) g59 rfl
          have g71 : jGet L68 2 = some (.int (i32 (af))) := eL68 ▸ jg_ne (by decide) g60 rfl
          have g72 : jGet L68 3 = some (.int (i32 ((F43 (me) (11 : Int) - Fx (me) (9 : Int))))) := eL68 ▸ jg_ne (by decide) g61 rfl
          have g73 : jGet L68 4 = some (.int (i32 (0))) := eL68 ▸ jg_ne (by decide) g62 rfl
          have g74 : jGet L68 5 = some (.int (i32 (Fx (me) (9 : Int)))) := eL68 ▸ jg_eq
          clear eL68
          have q75 : F65 (me) (11 : Int) = F43 (me) (11 : Int) := (show F65 (me) (11 : Int) = F43 (me) (11 : Int) from by rw [eF65]; exact uF_j (by decide))
          have q76 : F65 (me) (10 : Int) = Fx (me) (10 : Int) := ((show F65 (me) (10 : Int) = F43 (me) (10 : Int) from by rw [eF65]; exact uF_j (by decide)).trans ((show F43 (me) (10 : Int) = F38 (me) (10 : Int) from hM45 _ _ o_me (own_z o_me) (by rw [t_me]; rfl)).trans (show F38 (me) (10 : Int) = Fx (me) (10 : Int) from by rw [eF38]; exact uF_j (by decide))))
          exact k_LScanner_scanLine_at_176 (X := X) (d := d) (R := R) (m := m) (tg := tg) (ln := ln) (F := F) (me := me) (bg := bg) (hd := hd) (hC := hC) (o_me := o_me) (t_me := t_me) (h_bg := h_bg) (p_0 := p_0) (p_1 := p_1) (p_2 := p_2) _ L68 F65 (af) (0) (Fx (me) (9 : Int)) rfl g69 g70 g71 g73 g74 hC66 hM67 (by omega) (by omega) (by omega) (by omega) (by omega) (by omega) (by omega) (by omega)
        · have _q := h64
          refine jx_ld (pc_q := 152) (l_q := L57) (st_q := [.int (i32 ((F43 (me) (11 : Int) - Fx (me) (9 : Int)))), rv (me)]) rfl (jl_iloadn g61) ?_
          refine jx_ar (pc_q := 153) (st_q := [.int (i32 (2)), .int (i32 ((F43 (me) (11 : Int) - Fx (me) (9 : Int)))), rv (me)]) rfl rfl rfl rfl ?_
          refine jx_div (pc_q := 154) rfl rfl (by omega) (by omega) (by omega) (by omega) ?_
          refine jx_ar (pc_q := 156) (st_q := [.int (i32 (15)), .int (i32 (((F43 (me) (11 : Int) - Fx (me) (9 : Int)) / 2))), rv (me)]) rfl rfl rfl rfl ?_
          refine jx_icmp_gt (pc_q := 159) (tg := 165) rfl rfl rfl (by omega) (by omega) (by decide) (by decide) (fun h77 => ?_) (fun h77 => ?_)
          · have _q := h77
            refine jx_ar (pc_q := 167) (st_q := [.int (i32 (-2)), rv (me)]) rfl rfl rfl rfl ?_
            refine cx_pi (pc_q := 170) (c := 10) (q := 14) (qi := (14 : Int)) (z := -2) rfl rfl (by decide) (by decide) rfl rfl rfl (by decide) rfl o_me t_me rfl ?_
            obtain ⟨F78, eF78⟩ : ∃ q, q = uF F43 (me) (14 : Int) (-2) := ⟨_, rfl⟩
            rw [← eF78]
            have hC79 : HC 0 m tg ln F78 := by rw [eF78]; exact HC_fi (c := 10) (q := 14) hC44 t_me (by decide) rfl (by omega) (by omega) ⟨fun _ => ⟨fun w1 w2 => absurd w2 (by omega), fun w => absurd w (by decide)⟩, fun w => absurd w (by decide)⟩
            have hM80 : Fq 0 [(11, 7), (11, 9), (11, 10), (11, 11), (11, 14), (20, -5), (21, -5), (22, -5)] m tg F F78 := by rw [eF78]; exact Fq_p hM48 t_me (fun _ => rfl) rfl
            refine jx_ld (pc_q := 171) (l_q := L57) (st_q := [rv (me)]) rfl (jl_rvn g58) ?_
            refine cx_gi (pc_q := 174) (c := 10) (q := 9) (v := Fx (me) (9 : Int)) rfl rfl (by decide) (by decide) (Or.inl rfl) rfl o_me t_me ((show F78 (me) (9 : Int) = F43 (me) (9 : Int) from by rw [eF78]; exact uF_j (by decide)).trans ((show F43 (me) (9 : Int) = F38 (me) (9 : Int) from hM45 _ _ o_me (own_z o_me) (by rw [t_me]; rfl)).trans (show F38 (me) (9 : Int) = Fx (me) (9 : Int) from by rw [eF38]; exact uF_j (by decide)))) ?_
            refine jx_ld (pc_q := 176) (l_q := jSto1 L57 5 (.int (i32 (Fx (me) (9 : Int))))) (st_q := []) rfl rfl ?_
            obtain ⟨L81, eL81⟩ : ∃ q : jL, q = jSto1 L57 5 (.int (i32 (Fx (me) (9 : Int)))) := ⟨_, rfl⟩
            rw [← eL81]
            have g82 : jGet L81 0 = some (rv (me)) := eL81 ▸ jg_nr (by decide) g58
            have g83 : jGet L81 1 = some (.int (i32 (bg))) := eL81 ▸ jg_ne (by decide) g59 rfl
            have g84 : jGet L81 2 = some (.int (i32 (af))) := eL81 ▸ jg_ne (by decide) g60 rfl
            have g85 : jGet L81 3 = some (.int (i32 ((F43 (me) (11 : Int) - Fx (me) (9 : Int))))) := eL81 ▸ jg_ne (by decide) g61 rfl
            have g86 : jGet L81 4 = some (.int (i32 (0))) := eL81 ▸ jg_ne (by decide) g62 rfl
            have g87 : jGet L81 5 = some (.int (i32 (Fx (me) (9 : Int)))) := eL81 ▸ jg_eq
            clear eL81
            have q88 : F78 (me) (11 : Int) = F43 (me) (11 : Int) := (show F78 (me) (11 : Int) = F43 (me) (11 : Int) from by rw [eF78]; exact uF_j (by decide))
            have q89 : F78 (me) (10 : Int) = Fx (me) (10 : Int) := ((show F78 (me) (10 : Int) = F43 (me) (10 : Int) from by rw [eF78]; exact uF_j (by decide)).trans ((show F43 (me) (10 : Int) = F38 (me) (10 : Int) from hM45 _ _ o_me (own_z o_me) (by rw [t_me]; rfl)).trans (show F38 (me) (10 : Int) = Fx (me) (10 : Int) from by rw [eF38]; exact uF_j (by decide))))
            exact k_LScanner_scanLine_at_176 (X := X) (d := d) (R := R) (m := m) (tg := tg) (ln := ln) (F := F) (me := me) (bg := bg) (hd := hd) (hC := hC) (o_me := o_me) (t_me := t_me) (h_bg := h_bg) (p_0 := p_0) (p_1 := p_1) (p_2 := p_2) _ L81 F78 (af) (0) (Fx (me) (9 : Int)) rfl g82 g83 g84 g86 g87 hC79 hM80 (by omega) (by omega) (by omega) (by omega) (by omega) (by omega) (by omega) (by omega)
          · have _q := h77
            refine jx_ld (pc_q := 160) (l_q := L57) (st_q := [.int (i32 ((F43 (me) (11 : Int) - Fx (me) (9 : Int)))), rv (me)]) rfl (jl_iloadn g61) ?_
            refine jx_ar (pc_q := 161) (st_q := [.int (i32 (2)), .int (i32 ((F43 (me) (11 : Int) - Fx (me) (9 : Int)))), rv (me)]) rfl rfl rfl rfl ?_
            refine jx_div (pc_q := 162) rfl rfl (by omega) (by omega) (by omega) (by omega) ?_
            refine jx_go (tg := 167) rfl rfl ?_
            refine cx_pi (pc_q := 170) (c := 10) (q := 14) (qi := (14 : Int)) (z := ((F43 (me) (11 : Int) - Fx (me) (9 : Int)) / 2)) rfl rfl (by decide) (by decide) rfl rfl rfl (by decide) rfl o_me t_me rfl ?_
            obtain ⟨F90, eF90⟩ : ∃ q, q = uF F43 (me) (14 : Int) (((F43 (me) (11 : Int) - Fx (me) (9 : Int)) / 2)) := ⟨_, rfl⟩
            rw [← eF90]
            have hC91 : HC 0 m tg ln F90 := by rw [eF90]; exact HC_fi (c := 10) (q := 14) hC44 t_me (by decide) rfl (by omega) (by omega) ⟨fun _ => ⟨fun w1 w2 => absurd w2 (by omega), fun w => absurd w (by decide)⟩, fun w => absurd w (by decide)⟩
            have hM92 : Fq 0 [(11, 7), (11, 9), (11, 10), (11, 11), (11, 14), (20, -5), (21, -5), (22, -5)] m tg F F90 := by rw [eF90]; exact Fq_p hM48 t_me (fun _ => rfl) rfl
            refine jx_ld (pc_q := 171) (l_q := L57) (st_q := [rv (me)]) rfl (jl_rvn g58) ?_
            refine cx_gi (pc_q := 174) (c := 10) (q := 9) (v := Fx (me) (9 : Int)) rfl rfl (by decide) (by decide) (Or.inl rfl) rfl o_me t_me ((show F90 (me) (9 : Int) = F43 (me) (9 : Int) from by rw [eF90]; exact uF_j (by decide)).trans ((show F43 (me) (9 : Int) = F38 (me) (9 : Int) from hM45 _ _ o_me (own_z o_me) (by rw [t_me]; rfl)).trans (show F38 (me) (9 : Int) = Fx (me) (9 : Int) from by rw [eF38]; exact uF_j (by decide)))) ?_
            refine jx_ld (pc_q := 176) (l_q := jSto1 L57 5 (.int (i32 (Fx (me) (9 : Int))))) (st_q := []) rfl rfl ?_
            obtain ⟨L93, eL93⟩ : ∃ q : jL, q = jSto1 L57 5 (.int (i32 (Fx (me) (9 : Int)))) := ⟨_, rfl⟩
            rw [← eL93]
            have g94 : jGet L93 0 = some (rv (me)) := eL93 ▸ jg_nr (by decide) g58
            have g95 : jGet L93 1 = some (.int (i32 (bg))) := eL93 ▸ jg_ne (by decide) g59 rfl
            have g96 : jGet L93 2 = some (.int (i32 (af))) := eL93 ▸ jg_ne (by decide) g60 rfl
            have g97 : jGet L93 3 = some (.int (i32 ((F43 (me) (11 : Int) - Fx (me) (9 : Int))))) := eL93 ▸ jg_ne (by decide) g61 rfl
            have g98 : jGet L93 4 = some (.int (i32 (0))) := eL93 ▸ jg_ne (by decide) g62 rfl
            have g99 : jGet L93 5 = some (.int (i32 (Fx (me) (9 : Int)))) := eL93 ▸ jg_eq
            clear eL93
            have q100 : F90 (me) (11 : Int) = F43 (me) (11 : Int) := (show F90 (me) (11 : Int) = F43 (me) (11 : Int) from by rw [eF90]; exact uF_j (by decide))
            have q101 : F90 (me) (10 : Int) = Fx (me) (10 : Int) := ((show F90 (me) (10 : Int) = F43 (me) (10 : Int) from by rw [eF90]; exact uF_j (by decide)).trans ((show F43 (me) (10 : Int) = F38 (me) (10 : Int) from hM45 _ _ o_me (own_z o_me) (by rw [t_me]; rfl)).trans (show F38 (me) (10 : Int) = Fx (me) (10 : Int) from by rw [eF38]; exact uF_j (by decide))))
            exact k_LScanner_scanLine_at_176 (X := X) (d := d) (R := R) (m := m) (tg := tg) (ln := ln) (F := F) (me := me) (bg := bg) (hd := hd) (hC := hC) (o_me := o_me) (t_me := t_me) (h_bg := h_bg) (p_0 := p_0) (p_1 := p_1) (p_2 := p_2) _ L93 F90 (af) (0) (Fx (me) (9 : Int)) rfl g94 g95 g96 g98 g99 hC91 hM92 (by omega) (by omega) (by omega) (by omega) (by omega) (by omega) (by omega) (by omega)
      · have _q := h56
        refine jx_ar (pc_q := 138) (st_q := [.int (i32 (1))]) rfl rfl rfl rfl ?_
        refine jx_go (tg := 142) rfl rfl ?_
        refine jx_ld (pc_q := 144) (l_q := jSto1 L50 4 (.int (i32 (1)))) (st_q := []) rfl rfl ?_
        obtain ⟨L102, eL102⟩ : ∃ q : jL, q = jSto1 L50 4 (.int (i32 (1))) := ⟨_, rfl⟩
        rw [← eL102]
        have g103 : jGet L102 0 = some (rv (me)) := eL102 ▸ jg_nr (by decide) g51
        have g104 : jGet L102 1 = some (.int (i32 (bg))) := eL102 ▸ jg_ne (by decide) g52 rfl
        have g105 : jGet L102 2 = some (.int (i32 (af))) := eL102 ▸ jg_ne (by decide) g53 rfl
        have g106 : jGet L102 3 = some (.int (i32 ((F43 (me) (11 : Int) - Fx (me) (9 : Int))))) := eL102 ▸ jg_ne (by decide) g54 rfl
        have g107 : jGet L102 4 = some (.int (i32 (1))) := eL102 ▸ jg_eq
        clear eL102
        refine jx_ld (pc_q := 145) (l_q := L102) (st_q := [rv (me)]) rfl (jl_rvn g103) ?_
        refine jx_ld (pc_q := 146) (l_q := L102) (st_q := [.int (i32 ((F43 (me) (11 : Int) - Fx (me) (9 : Int)))), rv (me)]) rfl (jl_iloadn g106) ?_
        refine jx_ar (pc_q := 147) (st_q := [.int (i32 (2)), .int (i32 ((F43 (me) (11 : Int) - Fx (me) (9 : Int)))), rv (me)]) rfl rfl rfl rfl ?_
        refine jx_remw (pc_q := 148) rfl rfl (by omega) (by omega) (by omega) (fun r108 hr108 => ?_)
        refine jx_if_ne (pc_q := 151) (tg := 165) rfl rfl rfl (by omega) (by omega) (fun h109 => ?_) (fun h109 => ?_)
        · have _q := h109
          refine jx_ar (pc_q := 167) (st_q := [.int (i32 (-2)), rv (me)]) rfl rfl rfl rfl ?_
          refine cx_pi (pc_q := 170) (c := 10) (q := 14) (qi := (14 : Int)) (z := -2) rfl rfl (by decide) (by decide) rfl rfl rfl (by decide) rfl o_me t_me rfl ?_
          obtain ⟨F110, eF110⟩ : ∃ q, q = uF F43 (me) (14 : Int) (-2) := ⟨_, rfl⟩
          rw [← eF110]
          have hC111 : HC 0 m tg ln F110 := by rw [eF110]; exact HC_fi (c := 10) (q := 14) hC44 t_me (by decide) rfl (by omega) (by omega) ⟨fun _ => ⟨fun w1 w2 => absurd w2 (by omega), fun w => absurd w (by decide)⟩, fun w => absurd w (by decide)⟩
          have hM112 : Fq 0 [(11, 7), (11, 9), (11, 10), (11, 11), (11, 14), (20, -5), (21, -5), (22, -5)] m tg F F110 := by rw [eF110]; exact Fq_p hM48 t_me (fun _ => rfl) rfl
          refine jx_ld (pc_q := 171) (l_q := L102) (st_q := [rv (me)]) rfl (jl_rvn g103) ?_
          refine cx_gi (pc_q := 174) (c := 10) (q := 9) (v := Fx (me) (9 : Int)) rfl rfl (by decide) (by decide) (Or.inl rfl) rfl o_me t_me ((show F110 (me) (9 : Int) = F43 (me) (9 : Int) from by rw [eF110]; exact uF_j (by decide)).trans ((show F43 (me) (9 : Int) = F38 (me) (9 : Int) from hM45 _ _ o_me (own_z o_me) (by rw [t_me]; rfl)).trans (show F38 (me) (9 : Int) = Fx (me) (9 : Int) from by rw [eF38]; exact uF_j (by decide)))) ?_
          refine jx_ld (pc_q := 176) (l_q := jSto1 L102 5 (.int (i32 (Fx (me) (9 : Int))))) (st_q := []) rfl rfl ?_
          obtain ⟨L113, eL113⟩ : ∃ q : jL, q = jSto1 L102 5 (.int (i32 (Fx (me) (9 : Int)))) := ⟨_, rfl⟩
          rw [← eL113]
          have g114 : jGet L113 0 = some (rv (me)) := eL113 ▸ jg_nr (by decide) g103
          have g115 : jGet L113 1 = some (.int (i32 (bg))) := eL113 ▸ jg_ne (by decide) g104 rfl
          have g116 : jGet L113 2 = some (.int (i32 (af))) := eL113 ▸ jg_ne (by decide) g105 rfl
          have g117 : jGet L113 3 = some (.int (i32 ((F43 (me) (11 : Int) - Fx (me) (9 : Int))))) := eL113 ▸ jg_ne (by decide) g106 rfl
          have g118 : jGet L113 4 = some (.int (i32 (1))) := eL113 ▸ jg_ne (by decide) g107 rfl
          have g119 : jGet L113 5 = some (.int (i32 (Fx (me) (9 : Int)))) := eL113 ▸ jg_eq
          clear eL113
          have q120 : F110 (me) (11 : Int) = F43 (me) (11 : Int) := (show F110 (me) (11 : Int) = F43 (me) (11 : Int) from by rw [eF110]; exact uF_j (by decide))
          have q121 : F110 (me) (10 : Int) = Fx (me) (10 : Int) := ((show F110 (me) (10 : Int) = F43 (me) (10 : Int) from by rw [eF110]; exact uF_j (by decide)).trans ((show F43 (me) (10 : Int) = F38 (me) (10 : Int) from hM45 _ _ o_me (own_z o_me) (by rw [t_me]; rfl)).trans (show F38 (me) (10 : Int) = Fx (me) (10 : Int) from by rw [eF38]; exact uF_j (by decide))))
          exact k_LScanner_scanLine_at_176 (X := X) (d := d) (R := R) (m := m) (tg := tg) (ln := ln) (F := F) (me := me) (bg := bg) (hd := hd) (hC := hC) (o_me := o_me) (t_me := t_me) (h_bg := h_bg) (p_0 := p_0) (p_1 := p_1) (p_2 := p_2) _ L113 F110 (af) (1) (Fx (me) (9 : Int)) rfl g114 g115 g116 g118 g119 hC111 hM112 (by omega) (by omega) (by omega) (by omega) (by omega) (by omega) (by omega) (by omega)
        · have _q := h109
          refine jx_ld (pc_q := 152) (l_q := L102) (st_q := [.int (i32 ((F43 (me) (11 : Int) - Fx (me) (9 : Int)))), rv (me)]) rfl (jl_iloadn g106) ?_
          refine jx_ar (pc_q := 153) (st_q := [.int (i32 (2)), .int (i32 ((F43 (me) (11 : Int) - Fx (me) (9 : Int)))), rv (me)]) rfl rfl rfl rfl ?_
          refine jx_div (pc_q := 154) rfl rfl (by omega) (by omega) (by omega) (by omega) ?_
          refine jx_ar (pc_q := 156) (st_q := [.int (i32 (15)), .int (i32 (((F43 (me) (11 : Int) - Fx (me) (9 : Int)) / 2))), rv (me)]) rfl rfl rfl rfl ?_
          refine jx_icmp_gt (pc_q := 159) (tg := 165) rfl rfl rfl (by omega) (by omega) (by decide) (by decide) (fun h122 => ?_) (fun h122 => ?_)
          · have _q := h122
            refine jx_ar (pc_q := 167) (st_q := [.int (i32 (-2)), rv (me)]) rfl rfl rfl rfl ?_
            refine cx_pi (pc_q := 170) (c := 10) (q := 14) (qi := (14 : Int)) (z := -2) rfl rfl (by decide) (by decide) rfl rfl rfl (by decide) rfl o_me t_me rfl ?_
            obtain ⟨F123, eF123⟩ : ∃ q, q = uF F43 (me) (14 : Int) (-2) := ⟨_, rfl⟩
            rw [← eF123]
            have hC124 : HC 0 m tg ln F123 := by rw [eF123]; exact HC_fi (c := 10) (q := 14) hC44 t_me (by decide) rfl (by omega) (by omega) ⟨fun _ => ⟨fun w1 w2 => absurd w2 (by omega), fun w => absurd w (by decide)⟩, fun w => absurd w (by decide)⟩
            have hM125 : Fq 0 [(11, 7), (11, 9), (11, 10), (11, 11), (11, 14), (20, -5), (21, -5), (22, -5)] m tg F F123 := by rw [eF123]; exact Fq_p hM48 t_me (fun _ => rfl) rfl
            refine jx_ld (pc_q := 171) (l_q := L102) (st_q := [rv (me)]) rfl (jl_rvn g103) ?_
            refine cx_gi (pc_q := 174) (c := 10) (q := 9) (v := Fx (me) (9 : Int)) rfl rfl (by decide) (by decide) (Or.inl rfl) rfl o_me t_me ((show F123 (me) (9 : Int) = F43 (me) (9 : Int) from by rw [eF123]; exact uF_j (by decide)).trans ((show F43 (me) (9 : Int) = F38 (me) (9 : Int) from hM45 _ _ o_me (own_z o_me) (by rw [t_me]; rfl)).trans (show F38 (me) (9 : Int) = Fx (me) (9 : Int) from by rw [eF38]; exact uF_j (by decide)))) ?_
            refine jx_ld (pc_q := 176) (l_q := jSto1 L102 5 (.int (i32 (Fx (me) (9 : Int))))) (st_q := []) rfl rfl ?_
            obtain ⟨L126, eL126⟩ : ∃ q : jL, q = jSto1 L102 5 (.int (i32 (Fx (me) (9 : Int)))) := ⟨_, rfl⟩
            rw [← eL126]
            have g127 : jGet L126 0 = some (rv (me)) := eL126 ▸ jg_nr (by decide) g103
            have g128 : jGet L126 1 = some (.int (i32 (bg))) := eL126 ▸ jg_ne (by decide) g104 rfl
            have g129 : jGet L126 2 = some (.int (i32 (af))) := eL126 ▸ jg_ne (by decide) g105 rfl
            have g130 : jGet L126 3 = some (.int (i32 ((F43 (me) (11 : Int) - Fx (me) (9 : Int))))) := eL126 ▸ jg_ne (by decide) g106 rfl
            have g131 : jGet L126 4 = some (.int (i32 (1))) := eL126 ▸ jg_ne (by decide) g107 rfl
            have g132 : jGet L126 5 = some (.int (i32 (Fx (me) (9 : Int)))) := eL126 ▸ jg_eq
            clear eL126
            have q133 : F123 (me) (11 : Int) = F43 (me) (11 : Int) := (show F123 (me) (11 : Int) = F43 (me) (11 : Int) from by rw [eF123]; exact uF_j (by decide))
            have q134 : F123 (me) (10 : Int) = Fx (me) (10 : Int) := ((show F123 (me) (10 : Int) = F43 (me) (10 : Int) from by rw [eF123]; exact uF_j (by decide)).trans ((show F43 (me) (10 : Int) = F38 (me) (10 : Int) from hM45 _ _ o_me (own_z o_me) (by rw [t_me]; rfl)).trans (show F38 (me) (10 : Int) = Fx (me) (10 : Int) from by rw [eF38]; exact uF_j (by decide))))
            exact k_LScanner_scanLine_at_176 (X := X) (d := d) (R := R) (m := m) (tg := tg) (ln := ln) (F := F) (me := me) (bg := bg) (hd := hd) (hC := hC) (o_me := o_me) (t_me := t_me) (h_bg := h_bg) (p_0 := p_0) (p_1 := p_1) (p_2 := p_2) _ L126 F123 (af) (1) (Fx (me) (9 : Int)) rfl g127 g128 g129 g131 g132 hC124 hM125 (by omega) (by omega) (by omega) (by omega) (by omega) (by omega) (by omega) (by omega)
          · have _q := h122
            refine jx_ld (pc_q := 160) (l_q := L102) (st_q := [.int (i32 ((F43 (me) (11 : Int) - Fx (me) (9 : Int)))), rv (me)]) rfl (jl_iloadn g106) ?_
            refine jx_ar (pc_q := 161) (st_q := [.int (i32 (2)), .int (i32 ((F43 (me) (11 : Int) - Fx (me) (9 : Int)))), rv (me)]) rfl rfl rfl rfl ?_
            refine jx_div (pc_q := 162) rfl rfl (by omega) (by omega) (by omega) (by omega) ?_
            refine jx_go (tg := 167) rfl rfl ?_
            refine cx_pi (pc_q := 170) (c := 10) (q := 14) (qi := (14 : Int)) (z := ((F43 (me) (11 : Int) - Fx (me) (9 : Int)) / 2)) rfl rfl (by decide) (by decide) rfl rfl rfl (by decide) rfl o_me t_me rfl ?_
            obtain ⟨F135, eF135⟩ : ∃ q, q = uF F43 (me) (14 : Int) (((F43 (me) (11 : Int) - Fx (me) (9 : Int)) / 2)) := ⟨_, rfl⟩
            rw [← eF135]
            have hC136 : HC 0 m tg ln F135 := by rw [eF135]; exact HC_fi (c := 10) (q := 14) hC44 t_me (by decide) rfl (by omega) (by omega) ⟨fun _ => ⟨fun w1 w2 => absurd w2 (by omega), fun w => absurd w (by decide)⟩, fun w => absurd w (by decide)⟩
            have hM137 : Fq 0 [(11, 7), (11, 9), (11, 10), (11, 11), (11, 14), (20, -5), (21, -5), (22, -5)] m tg F F135 := by rw [eF135]; exact Fq_p hM48 t_me (fun _ => rfl) rfl
            refine jx_ld (pc_q := 171) (l_q := L102) (st_q := [rv (me)]) rfl (jl_rvn g103) ?_
            refine cx_gi (pc_q := 174) (c := 10) (q := 9) (v := Fx (me) (9 : Int)) rfl rfl (by decide) (by decide) (Or.inl rfl) rfl o_me t_me ((show F135 (me) (9 : Int) = F43 (me) (9 : Int) from by rw [eF135]; exact uF_j (by decide)).trans ((show F43 (me) (9 : Int) = F38 (me) (9 : Int) from hM45 _ _ o_me (own_z o_me) (by rw [t_me]; rfl)).trans (show F38 (me) (9 : Int) = Fx (me) (9 : Int) from by rw [eF38]; exact uF_j (by decide)))) ?_
            refine jx_ld (pc_q := 176) (l_q := jSto1 L102 5 (.int (i32 (Fx (me) (9 : Int))))) (st_q := []) rfl rfl ?_
            obtain ⟨L138, eL138⟩ : ∃ q : jL, q = jSto1 L102 5 (.int (i32 (Fx (me) (9 : Int)))) := ⟨_, rfl⟩
            rw [← eL138]
            have g139 : jGet L138 0 = some (rv (me)) := eL138 ▸ jg_nr (by decide) g103
            have g140 : jGet L138 1 = some (.int (i32 (bg))) := eL138 ▸ jg_ne (by decide) g104 rfl
            have g141 : jGet L138 2 = some (.int (i32 (af))) := eL138 ▸ jg_ne (by decide) g105 rfl
            have g142 : jGet L138 3 = some (.int (i32 ((F43 (me) (11 : Int) - Fx (me) (9 : Int))))) := eL138 ▸ jg_ne (by decide) g106 rfl
            have g143 : jGet L138 4 = some (.int (i32 (1))) := eL138 ▸ jg_ne (by decide) g107 rfl
            have g144 : jGet L138 5 = some (.int (i32 (Fx (me) (9 : Int)))) := eL138 ▸ jg_eq
            clear eL138
            have q145 : F135 (me) (11 : Int) = F43 (me) (11 : Int) := (show F135 (me) (11 : Int) = F43 (me) (11 : Int) from by rw [eF135]; exact uF_j (by decide))
            have q146 : F135 (me) (10 : Int) = Fx (me) (10 : Int) := ((show F135 (me) (10 : Int) = F43 (me) (10 : Int) from by rw [eF135]; exact uF_j (by decide)).trans ((show F43 (me) (10 : Int) = F38 (me) (10 : Int) from hM45 _ _ o_me (own_z o_me) (by rw [t_me]; rfl)).trans (show F38 (me) (10 : Int) = Fx (me) (10 : Int) from by rw [eF38]; exact uF_j (by decide))))
            exact k_LScanner_scanLine_at_176 (X := X) (d := d) (R := R) (m := m) (tg := tg) (ln := ln) (F := F) (me := me) (bg := bg) (hd := hd) (hC := hC) (o_me := o_me) (t_me := t_me) (h_bg := h_bg) (p_0 := p_0) (p_1 := p_1) (p_2 := p_2) _ L138 F135 (af) (1) (Fx (me) (9 : Int)) rfl g139 g140 g141 g143 g144 hC136 hM137 (by omega) (by omega) (by omega) (by omega) (by omega) (by omega) (by omega) (by omega)
    · have _q := h36
      refine jx_ld (pc_q := 89) (l_q := L) (st_q := [rv (me)]) rfl (jl_rvn gL_0) ?_
      refine jx_ld (pc_q := 90) (l_q := L) (st_q := [.int (i32 (af)), rv (me)]) rfl (jl_iloadn gL_2) ?_
      refine cx_vi (c := 10) (a := me) (st := []) (as := [.int (i32 (af))]) rfl rfl rfl o_me t_me (by decide) rfl ⟨rfl, rfl, (Nat.le_of_ble_eq_true rfl)⟩ rfl (k_LScanner_sign (dd := d) (R := R) (m := m) (tg := tg) (ln := ln) (F := Fx) (me := me) (a0 := af) (hd := by omega) (hC := hCx) (o_me := o_me) (t_me := t_me) (h_a0 := by omega)) (fun o V_q hq => ?_)
      obtain ⟨r147, rfl, rfl, b148, -⟩ := hq
      refine Or.inr (Or.inl ⟨_, rfl, ?_⟩)
      refine jx_ar (pc_q := 95) (st_q := [.int (i32 (10)), .int (i32 (r147))]) rfl rfl rfl rfl ?_
      refine jx_icmp_eq (pc_q := 98) (tg := 104) rfl rfl rfl (by omega) (by omega) (by decide) (by decide) (fun h149 => ?_) (fun h149 => ?_)
      · have _q := h149
        refine jx_ld (pc_q := 105) (l_q := L) (st_q := [rv (me)]) rfl (jl_rvn gL_0) ?_
        refine jx_ld (pc_q := 106) (l_q := L) (st_q := [rv (me), rv (me)]) rfl (jl_rvn gL_0) ?_
        refine cx_gi (pc_q := 109) (c := 10) (q := 9) (v := Fx (me) (9 : Int)) rfl rfl (by decide) (by decide) (Or.inl rfl) rfl o_me t_me rfl ?_
        have b150 : (0 : Int) ≤ Fx (me) (9 : Int) ∧ Fx (me) (9 : Int) ≤ 3000 := by have z := HC_i (c := 10) (q := 9) hCx o_me t_me (by decide) rfl; rw [show Fx (me) ((9 : Nat) : Int) = Fx (me) (9 : Int) from rfl] at z; exact z
        refine cx_pi (pc_q := 112) (c := 10) (q := 11) (qi := (11 : Int)) (z := Fx (me) (9 : Int)) rfl rfl (by decide) (by decide) rfl rfl rfl (by decide) rfl o_me t_me rfl ?_
        obtain ⟨F151, eF151⟩ : ∃ q, q = uF Fx (me) (11 : Int) (Fx (me) (9 : Int)) := ⟨_, rfl⟩
        rw [← eF151]
        have hC152 : HC 0 m tg ln F151 := by rw [eF151]; exact HC_fi (c := 10) (q := 11) hCx t_me (by decide) rfl (by omega) (by omega) ⟨fun _ => ⟨fun w1 w2 => absurd w2 (by omega), fun w => absurd w (by decide)⟩, fun w => absurd w (by decide)⟩
        have hM153 : Fq 0 [(11, 7), (11, 9), (11, 10), (11, 11), (11, 14), (20, -5), (21, -5), (22, -5)] m tg F F151 := by rw [eF151]; exact Fq_p hMx t_me (fun _ => rfl) rfl
        refine jx_ld (pc_q := 113) (l_q := L) (st_q := [rv (me)]) rfl (jl_rvn gL_0) ?_
        have q154 : F151 (me) (11 : Int) = Fx (me) (9 : Int) := (show F151 (me) (11 : Int) = Fx (me) (9 : Int) from by rw [eF151]; exact uF_e)
        have q155 : F151 (me) (10 : Int) = Fx (me) (10 : Int) := (show F151 (me) (10 : Int) = Fx (me) (10 : Int) from by rw [eF151]; exact uF_j (by decide))
        refine cx_vi (c := 10) (a := me) (st := []) (as := []) rfl rfl rfl o_me t_me (by decide) rfl ⟨rfl, rfl, (Nat.le_of_ble_eq_true rfl)⟩ rfl (k_LScanner_skipBlanks (dd := d) (R := R) (m := m) (tg := tg) (ln := ln) (F := F151) (me := me) (hd := by omega) (hC := hC152) (o_me := o_me) (t_me := t_me) (p_0 := by omega) (p_1 := by omega)) (fun o V_q hq => ?_)
        obtain ⟨F156, rfl, rfl, hC157, hM158, p159, p160, -⟩ := hq
        have hM161 : Fq 0 [(11, 7), (11, 9), (11, 10), (11, 11), (11, 14), (20, -5), (21, -5), (22, -5)] m tg F F156 := Fq_t (ln := ln) (ln1 := ln) hM153 Ex_r hM158 (by decide) (Or.inl rfl)
        refine Or.inl ⟨rfl, ?_⟩
        refine jx_ld (pc_q := 117) (l_q := L) (st_q := [rv (me)]) rfl (jl_rvn gL_0) ?_
        refine cx_gi (pc_q := 120) (c := 10) (q := 11) (v := F156 (me) (11 : Int)) rfl rfl (by decide) (by decide) (Or.inl rfl) rfl o_me t_me rfl ?_
        have b162 : (0 : Int) ≤ F156 (me) (11 : Int) ∧ F156 (me) (11 : Int) ≤ 3002 := by have z := HC_i (c := 10) (q := 11) hC157 o_me t_me (by decide) rfl; rw [show F156 (me) ((11 : Nat) : Int) = F156 (me) (11 : Int) from rfl] at z; exact z
        refine jx_ld (pc_q := 121) (l_q := L) (st_q := [rv (me), .int (i32 (F156 (me) (11 : Int)))]) rfl (jl_rvn gL_0) ?_
        refine cx_gi (pc_q := 124) (c := 10) (q := 9) (v := Fx (me) (9 : Int)) rfl rfl (by decide) (by decide) (Or.inl rfl) rfl o_me t_me ((show F156 (me) (9 : Int) = F151 (me) (9 : Int) from hM158 _ _ o_me (own_z o_me) (by rw [t_me]; rfl)).trans (show F151 (me) (9 : Int) = Fx (me) (9 : Int) from by rw [eF151]; exact uF_j (by decide))) ?_
        refine jx_sub (pc_q := 125) rfl rfl ?_
        refine jx_ld (pc_q := 126) (l_q := jSto1 L 3 (.int (i32 ((F156 (me) (11 : Int) - Fx (me) (9 : Int)))))) (st_q := []) rfl rfl ?_
        obtain ⟨L163, eL163⟩ : ∃ q : jL, q = jSto1 L 3 (.int (i32 ((F156 (me) (11 : Int) - Fx (me) (9 : Int))))) := ⟨_, rfl⟩
        rw [← eL163]
        have g164 : jGet L163 0 = some (rv (me)) := eL163 ▸ jg_nr (by decide) gL_0
        have g165 : jGet L163 1 = some (.int (i32 (bg))) := eL163 ▸ jg_ne (by decide) gL_1 rfl
        have g166 : jGet L163 2 = some (.int (i32 (af))) := eL163 ▸ jg_ne (by decide) gL_2 rfl
        have g167 : jGet L163 3 = some (.int (i32 ((F156 (me) (11 : Int) - Fx (me) (9 : Int))))) := eL163 ▸ jg_eq
        clear eL163
        refine jx_ld (pc_q := 127) (l_q := L163) (st_q := [rv (me)]) rfl (jl_rvn g164) ?_
        refine cx_gi (pc_q := 130) (c := 10) (q := 11) (v := F156 (me) (11 : Int)) rfl rfl (by decide) (by decide) (Or.inl rfl) rfl o_me t_me rfl ?_
        refine jx_ld (pc_q := 131) (l_q := L163) (st_q := [rv (me), .int (i32 (F156 (me) (11 : Int)))]) rfl (jl_rvn g164) ?_
        refine cx_gi (pc_q := 134) (c := 10) (q := 10) (v := Fx (me) (10 : Int)) rfl rfl (by decide) (by decide) (Or.inl rfl) rfl o_me t_me ((show F156 (me) (10 : Int) = F151 (me) (10 : Int) from hM158 _ _ o_me (own_z o_me) (by rw [t_me]; rfl)).trans (show F151 (me) (10 : Int) = Fx (me) (10 : Int) from by rw [eF151]; exact uF_j (by decide))) ?_
        have b168 : (0 : Int) ≤ Fx (me) (10 : Int) ∧ Fx (me) (10 : Int) ≤ 3000 := by have z := HC_i (c := 10) (q := 10) hC157 o_me t_me (by decide) rfl; rw [show F156 (me) ((10 : Nat) : Int) = Fx (me) (10 : Int) from ((show F156 (me) (10 : Int) = F151 (me) (10 : Int) from hM158 _ _ o_me (own_z o_me) (by rw [t_me]; rfl)).trans (show F151 (me) (10 : Int) = Fx (me) (10 : Int) from by rw [eF151]; exact uF_j (by decide)))] at z; exact z
        refine jx_icmp_ge (pc_q := 137) (tg := 141) rfl rfl rfl (by omega) (by omega) (by omega) (by omega) (fun h169 => ?_) (fun h169 => ?_)
        · have _q := h169
          refine jx_ar (pc_q := 142) (st_q := [.int (i32 (0))]) rfl rfl rfl rfl ?_
          refine jx_ld (pc_q := 144) (l_q := jSto1 L163 4 (.int (i32 (0)))) (st_q := []) rfl rfl ?_
          obtain ⟨L170, eL170⟩ : ∃ q : jL, q = jSto1 L163 4 (.int (i32 (0))) := ⟨_, rfl⟩
          rw [← eL170]
          have g171 : jGet L170 0 = some (rv (me)) := eL170 ▸ jg_nr (by decide) g164
          have g172 : jGet L170 1 = some (.int (i32 (bg))) := eL170 ▸ jg_ne (by decide) g165 rfl
          have g173 : jGet L170 2 = some (.int (i32 (af))) := eL170 ▸ jg_ne (by decide) g166 rfl
          have g174 : jGet L170 3 = some (.int (i32 ((F156 (me) (11 : Int) - Fx (me) (9 : Int))))) := eL170 ▸ jg_ne (by decide) g167 rfl
          have g175 : jGet L170 4 = some (.int (i32 (0))) := eL170 ▸ jg_eq
          clear eL170
          refine jx_ld (pc_q := 145) (l_q := L170) (st_q := [rv (me)]) rfl (jl_rvn g171) ?_
          refine jx_ld (pc_q := 146) (l_q := L170) (st_q := [.int (i32 ((F156 (me) (11 : Int) - Fx (me) (9 : Int)))), rv (me)]) rfl (jl_iloadn g174) ?_
          refine jx_ar (pc_q := 147) (st_q := [.int (i32 (2)), .int (i32 ((F156 (me) (11 : Int) - Fx (me) (9 : Int)))), rv (me)]) rfl rfl rfl rfl ?_
          refine jx_remw (pc_q := 148) rfl rfl (by omega) (by omega) (by omega) (fun r176 hr176 => ?_)
          refine jx_if_ne (pc_q := 151) (tg := 165) rfl rfl rfl (by omega) (by omega) (fun h177 => ?_) (fun h177 => ?_)
          · have _q := h177
            refine jx_ar (pc_q := 167) (st_q := [.int (i32 (-2)), rv (me)]) rfl rfl rfl rfl ?_
            refine cx_pi (pc_q := 170) (c := 10) (q := 14) (qi := (14 : Int)) (z := -2) rfl rfl (by decide) (by decide) rfl rfl rfl (by decide) rfl o_me t_me rfl ?_
            obtain ⟨F178, eF178⟩ : ∃ q, q = uF F156 (me) (14 : Int) (-2) := ⟨_, rfl⟩
            rw [← eF178]
            have hC179 : HC 0 m tg ln F178 := by rw [eF178]; exact HC_fi (c := 10) (q := 14) hC157 t_me (by decide) rfl (by omega) (by omega) ⟨fun _ => ⟨fun w1 w2 => absurd w2 (by omega), fun w => absurd w (by decide)⟩, fun w => absurd w (by decide)⟩
            have hM180 : Fq 0 [(11, 7), (11, 9), (11, 10), (11, 11), (11, 14), (20, -5), (21, -5), (22, -5)] m tg F F178 := by rw [eF178]; exact Fq_p hM161 t_me (fun _ => rfl) rfl
            refine jx_ld (pc_q := 171) (l_q := L170) (st_q := [rv (me)]) rfl (jl_rvn g171) ?_
            refine cx_gi (pc_q := 174) (c := 10) (q := 9) (v := Fx (me) (9 : Int)) rfl rfl (by decide) (by decide) (Or.inl rfl) rfl o_me t_me ((show F178 (me) (9 : Int) = F156 (me) (9 : Int) from by rw [eF178]; exact uF_j (by decide)).trans ((show F156 (me) (9 : Int) = F151 (me) (9 : Int) from hM158 _ _ o_me (own_z o_me) (by rw [t_me]; rfl)).trans (show F151 (me) (9 : Int) = Fx (me) (9 : Int) from by rw [eF151]; exact uF_j (by decide)))) ?_
            refine jx_ld (pc_q := 176) (l_q := jSto1 L170 5 (.int (i32 (Fx (me) (9 : Int))))) (st_q := []) rfl rfl ?_
            obtain ⟨L181, eL181⟩ : ∃ q : jL, q = jSto1 L170 5 (.int (i32 (Fx (me) (9 : Int)))) := ⟨_, rfl⟩
            rw [← eL181]
            have g182 : jGet L181 0 = some (rv (me)) := eL181 ▸ jg_nr (by decide) g171
            have g183 : jGet L181 1 = some (.int (i32 (bg))) := eL181 ▸ jg_ne (by decide) g172 rfl
            have g184 : jGet L181 2 = some (.int (i32 (af))) := eL181 ▸ jg_ne (by decide) g173 rfl
            have g185 : jGet L181 3 = some (.int (i32 ((F156 (me) (11 : Int) - Fx (me) (9 : Int))))) := eL181 ▸ jg_ne (by decide) g174 rfl
            have g186 : jGet L181 4 = some (.int (i32 (0))) := eL181 ▸ jg_ne (by decide) g175 rfl
            have g187 : jGet L181 5 = some (.int (i32 (Fx (me) (9 : Int)))) := eL181 ▸ jg_eq
            clear eL181
            have q188 : F178 (me) (11 : Int) = F156 (me) (11 : Int) := (show F178 (me) (11 : Int) = F156 (me) (11 : Int) from by rw [eF178]; exact uF_j (by decide))
            have q189 : F178 (me) (10 : Int) = Fx (me) (10 : Int) := ((show F178 (me) (10 : Int) = F156 (me) (10 : Int) from by rw [eF178]; exact uF_j (by decide)).trans ((show F156 (me) (10 : Int) = F151 (me) (10 : Int) from hM158 _ _ o_me (own_z o_me) (by rw [t_me]; rfl)).trans (show F151 (me) (10 : Int) = Fx (me) (10 : Int) from by rw [eF151]; exact uF_j (by decide))))
            exact k_LScanner_scanLine_at_176 (X := X) (d := d) (R := R) (m := m) (tg := tg) (ln := ln) (F := F) (me := me) (bg := bg) (hd := hd) (hC := hC) (o_me := o_me) (t_me := t_me) (h_bg := h_bg) (p_0 := p_0) (p_1 := p_1) (p_2 := p_2) _ L181 F178 (af) (0) (Fx (me) (9 : Int)) rfl g182 g183 g184 g186 g187 hC179 hM180 (by omega) (by omega) (by omega) (by omega) (by omega) (by omega) (by omega) (by omega)
          · have _q := h177
            refine jx_ld (pc_q := 152) (l_q := L170) (st_q := [.int (i32 ((F156 (me) (11 : Int) - Fx (me) (9 : Int)))), rv (me)]) rfl (jl_iloadn g174) ?_
            refine jx_ar (pc_q := 153) (st_q := [.int (i32 (2)), .int (i32 ((F156 (me) (11 : Int) - Fx (me) (9 : Int)))), rv (me)]) rfl rfl rfl rfl ?_
            refine jx_div (pc_q := 154) rfl rfl (by omega) (by omega) (by omega) (by omega) ?_
            refine jx_ar (pc_q := 156) (st_q := [.int (i32 (15)), .int (i32 (((F156 (me) (11 : Int) - Fx (me) (9 : Int)) / 2))), rv (me)]) rfl rfl rfl rfl ?_
            refine jx_icmp_gt (pc_q := 159) (tg := 165) rfl rfl rfl (by omega) (by omega) (by decide) (by decide) (fun h190 => ?_) (fun h190 => ?_)
            · have _q := h190
              refine jx_ar (pc_q := 167) (st_q := [.int (i32 (-2)), rv (me)]) rfl rfl rfl rfl ?_
              refine cx_pi (pc_q := 170) (c := 10) (q := 14) (qi := (14 : Int)) (z := -2) rfl rfl (by decide) (by decide) rfl rfl rfl (by decide) rfl o_me t_me rfl ?_
              obtain ⟨F191, eF191⟩ : ∃ q, q = uF F156 (me) (14 : Int) (-2) := ⟨_, rfl⟩
              rw [← eF191]
              have hC192 : HC 0 m tg ln F191 := by rw [eF191]; exact HC_fi (c := 10) (q := 14) hC157 t_me (by decide) rfl (by omega) (by omega) ⟨fun _ => ⟨fun w1 w2 => absurd w2 (by omega), fun w => absurd w (by decide)⟩, fun w => absurd w (by decide)⟩
              have hM193 : Fq 0 [(11, 7), (11, 9), (11, 10), (11, 11), (11, 14), (20, -5), (21, -5), (22, -5)] m tg F F191 := by rw [eF191]; exact Fq_p hM161 t_me (fun _ => rfl) rfl
              refine jx_ld (pc_q := 171) (l_q := L170) (st_q := [rv (me)]) rfl (jl_rvn g171) ?_
              refine cx_gi (pc_q := 174) (c := 10) (q := 9) (v := Fx (me) (9 : Int)) rfl rfl (by decide) (by decide) (Or.inl rfl) rfl o_me t_me ((show F191 (me) (9 : Int) = F156 (me) (9 : Int) from by rw [eF191]; exact uF_j (by decide)).trans ((show F156 (me) (9 : Int) = F151 (me) (9 : Int) from hM158 _ _ o_me (own_z o_me) (by rw [t_me]; rfl)).trans (show F151 (me) (9 : Int) = Fx (me) (9 : Int) from by rw [eF151]; exact uF_j (by decide)))) ?_
              refine jx_ld (pc_q := 176) (l_q := jSto1 L170 5 (.int (i32 (Fx (me) (9 : Int))))) (st_q := []) rfl rfl ?_
              obtain ⟨L194, eL194⟩ : ∃ q : jL, q = jSto1 L170 5 (.int (i32 (Fx (me) (9 : Int)))) := ⟨_, rfl⟩
              rw [← eL194]
              have g195 : jGet L194 0 = some (rv (me)) := eL194 ▸ jg_nr (by decide) g171
              have g196 : jGet L194 1 = some (.int (i32 (bg))) := eL194 ▸ jg_ne (by decide) g172 rfl
              have g197 : jGet L194 2 = some (.int (i32 (af))) := eL194 ▸ jg_ne (by decide) g173 rfl
              have g198 : jGet L194 3 = some (.int (i32 ((F156 (me) (11 : Int) - Fx (me) (9 : Int))))) := eL194 ▸ jg_ne (by decide) g174 rfl
              have g199 : jGet L194 4 = some (.int (i32 (0))) := eL194 ▸ jg_ne (by decide) g175 rfl
              have g200 : jGet L194 5 = some (.int (i32 (Fx (me) (9 : Int)))) := eL194 ▸ jg_eq
              clear eL194
              have q201 : F191 (me) (11 : Int) = F156 (me) (11 : Int) := (show F191 (me) (11 : Int) = F156 (me) (11 : Int) from by rw [eF191]; exact uF_j (by decide))
              have q202 : F191 (me) (10 : Int) = Fx (me) (10 : Int) := ((show F191 (me) (10 : Int) = F156 (me) (10 : Int) from by rw [eF191]; exact uF_j (by decide)).trans ((show F156 (me) (10 : Int) = F151 (me) (10 : Int) from hM158 _ _ o_me (own_z o_me) (by rw [t_me]; rfl)).trans (show F151 (me) (10 : Int) = Fx (me) (10 : Int) from by rw [eF151]; exact uF_j (by decide))))
              exact k_LScanner_scanLine_at_176 (X := X) (d := d) (R := R) (m := m) (tg := tg) (ln := ln) (F := F) (me := me) (bg := bg) (hd := hd) (hC := hC) (o_me := o_me) (t_me := t_me) (h_bg := h_bg) (p_0 := p_0) (p_1 := p_1) (p_2 := p_2) _ L194 F191 (af) (0) (Fx (me) (9 : Int)) rfl g195 g196 g197 g199 g200 hC192 hM193 (by omega) (by omega) (by omega) (by omega) (by omega) (by omega) (by omega) (by omega)
            · have _q := h190
              refine jx_ld (pc_q := 160) (l_q := L170) (st_q := [.int (i32 ((F156 (me) (11 : Int) - Fx (me) (9 : Int)))), rv (me)]) rfl (jl_iloadn g174) ?_
              refine jx_ar (pc_q := 161) (st_q := [.int (i32 (2)), .int (i32 ((F156 (me) (11 : Int) - Fx (me) (9 : Int)))), rv (me)]) rfl rfl rfl rfl ?_
              refine jx_div (pc_q := 162) rfl rfl (by omega) (by omega) (by omega) (by omega) ?_
              refine jx_go (tg := 167) rfl rfl ?_
              refine cx_pi (pc_q := 170) (c := 10) (q := 14) (qi := (14 : Int)) (z := ((F156 (me) (11 : Int) - Fx (me) (9 : Int)) / 2)) rfl rfl (by decide) (by decide) rfl rfl rfl (by decide) rfl o_me t_me rfl ?_
              obtain ⟨F203, eF203⟩ : ∃ q, q = uF F156 (me) (14 : Int) (((F156 (me) (11 : Int) - Fx (me) (9 : Int)) / 2)) := ⟨_, rfl⟩
              rw [← eF203]
              have hC204 : HC 0 m tg ln F203 := by rw [eF203]; exact HC_fi (c := 10) (q := 14) hC157 t_me (by decide) rfl (by omega) (by omega) ⟨fun _ => ⟨fun w1 w2 => absurd w2 (by omega), fun w => absurd w (by decide)⟩, fun w => absurd w (by decide)⟩
              have hM205 : Fq 0 [(11, 7), (11, 9), (11, 10), (11, 11), (11, 14), (20, -5), (21, -5), (22, -5)] m tg F F203 := by rw [eF203]; exact Fq_p hM161 t_me (fun _ => rfl) rfl
              refine jx_ld (pc_q := 171) (l_q := L170) (st_q := [rv (me)]) rfl (jl_rvn g171) ?_
              refine cx_gi (pc_q := 174) (c := 10) (q := 9) (v := Fx (me) (9 : Int)) rfl rfl (by decide) (by decide) (Or.inl rfl) rfl o_me t_me ((show F203 (me) (9 : Int) = F156 (me) (9 : Int) from by rw [eF203]; exact uF_j (by decide)).trans ((show F156 (me) (9 : Int) = F151 (me) (9 : Int) from hM158 _ _ o_me (own_z o_me) (by rw [t_me]; rfl)).trans (show F151 (me) (9 : Int) = Fx (me) (9 : Int) from by rw [eF151]; exact uF_j (by decide)))) ?_
              refine jx_ld (pc_q := 176) (l_q := jSto1 L170 5 (.int (i32 (Fx (me) (9 : Int))))) (st_q := []) rfl rfl ?_
              obtain ⟨L206, eL206⟩ : ∃ q : jL, q = jSto1 L170 5 (.int (i32 (Fx (me) (9 : Int)))) := ⟨_, rfl⟩
              rw [← eL206]
              have g207 : jGet L206 0 = some (rv (me)) := eL206 ▸ jg_nr (by decide) g171
              have g208 : jGet L206 1 = some (.int (i32 (bg))) := eL206 ▸ jg_ne (by decide) g172 rfl
              have g209 : jGet L206 2 = some (.int (i32 (af))) := eL206 ▸ jg_ne (by decide) g173 rfl
              have g210 : jGet L206 3 = some (.int (i32 ((F156 (me) (11 : Int) - Fx (me) (9 : Int))))) := eL206 ▸ jg_ne (by decide) g174 rfl
              have g211 : jGet L206 4 = some (.int (i32 (0))) := eL206 ▸ jg_ne (by decide) g175 rfl
              have g212 : jGet L206 5 = some (.int (i32 (Fx (me) (9 : Int)))) := eL206 ▸ jg_eq
              clear eL206
              have q213 : F203 (me) (11 : Int) = F156 (me) (11 : Int) := (show F203 (me) (11 : Int) = F156 (me) (11 : Int) from by rw [eF203]; exact uF_j (by decide))
              have q214 : F203 (me) (10 : Int) = Fx (me) (10 : Int) := ((show F203 (me) (10 : Int) = F156 (me) (10 : Int) from by rw [eF203]; exact uF_j (by decide)).trans ((show F156 (me) (10 : Int) = F151 (me) (10 : Int) from hM158 _ _ o_me (own_z o_me) (by rw [t_me]; rfl)).trans (show F151 (me) (10 : Int) = Fx (me) (10 : Int) from by rw [eF151]; exact uF_j (by decide))))
              exact k_LScanner_scanLine_at_176 (X := X) (d := d) (R := R) (m := m) (tg := tg) (ln := ln) (F := F) (me := me) (bg := bg) (hd := hd) (hC := hC) (o_me := o_me) (t_me := t_me) (h_bg := h_bg) (p_0 := p_0) (p_1 := p_1) (p_2 := p_2) _ L206 F203 (af) (0) (Fx (me) (9 : Int)) rfl g207 g208 g209 g211 g212 hC204 hM205 (by omega) (by omega) (by omega) (by omega) (by omega) (by omega) (by omega) (by omega)
        · have _q := h169
          refine jx_ar (pc_q := 138) (st_q := [.int (i32 (1))]) rfl rfl rfl rfl ?_
          refine jx_go (tg := 142) rfl rfl ?_
          refine jx_ld (pc_q := 144) (l_q := jSto1 L163 4 (.int (i32 (1)))) (st_q := []) rfl rfl ?_
          obtain ⟨L215, eL215⟩ : ∃ q : jL, q = jSto1 L163 4 (.int (i32 (1))) := ⟨_, rfl⟩
          rw [← eL215]
          have g216 : jGet L215 0 = some (rv (me)) := eL215 ▸ jg_nr (by decide) g164
          have g217 : jGet L215 1 = some (.int (i32 (bg))) := eL215 ▸ jg_ne (by decide) g165 rfl
          have g218 : jGet L215 2 = some (.int (i32 (af))) := eL215 ▸ jg_ne (by decide) g166 rfl
          have g219 : jGet L215 3 = some (.int (i32 ((F156 (me) (11 : Int) - Fx (me) (9 : Int))))) := eL215 ▸ jg_ne (by decide) g167 rfl
          have g220 : jGet L215 4 = some (.int (i32 (1))) := eL215 ▸ jg_eq
          clear eL215
          refine jx_ld (pc_q := 145) (l_q := L215) (st_q := [rv (me)]) rfl (jl_rvn g216) ?_
          refine jx_ld (pc_q := 146) (l_q := L215) (st_q := [.int (i32 ((F156 (me) (11 : Int) - Fx (me) (9 : Int)))), rv (me)]) rfl (jl_iloadn g219) ?_
          refine jx_ar (pc_q := 147) (st_q := [.int (i32 (2)), .int (i32 ((F156 (me) (11 : Int) - Fx (me) (9 : Int)))), rv (me)]) rfl rfl rfl rfl ?_
          refine jx_remw (pc_q := 148) rfl rfl (by omega) (by omega) (by omega) (fun r221 hr221 => ?_)
          refine jx_if_ne (pc_q := 151) (tg := 165) rfl rfl rfl (by omega) (by omega) (fun h222 => ?_) (fun h222 => ?_)
          · have _q := h222
            refine jx_ar (pc_q := 167) (st_q := [.int (i32 (-2)), rv (me)]) rfl rfl rfl rfl ?_
            refine cx_pi (pc_q := 170) (c := 10) (q := 14) (qi := (14 : Int)) (z := -2) rfl rfl (by decide) (by decide) rfl rfl rfl (by decide) rfl o_me t_me rfl ?_
            obtain ⟨F223, eF223⟩ : ∃ q, q = uF F156 (me) (14 : Int) (-2) := ⟨_, rfl⟩
            rw [← eF223]
            have hC224 : HC 0 m tg ln F223 := by rw [eF223]; exact HC_fi (c := 10) (q := 14) hC157 t_me (by decide) rfl (by omega) (by omega) ⟨fun _ => ⟨fun w1 w2 => absurd w2 (by omega), fun w => absurd w (by decide)⟩, fun w => absurd w (by decide)⟩
            have hM225 : Fq 0 [(11, 7), (11, 9), (11, 10), (11, 11), (11, 14), (20, -5), (21, -5), (22, -5)] m tg F F223 := by rw [eF223]; exact Fq_p hM161 t_me (fun _ => rfl) rfl
            refine jx_ld (pc_q := 171) (l_q := L215) (st_q := [rv (me)]) rfl (jl_rvn g216) ?_
            refine cx_gi (pc_q := 174) (c := 10) (q := 9) (v := Fx (me) (9 : Int)) rfl rfl (by decide) (by decide) (Or.inl rfl) rfl o_me t_me ((show F223 (me) (9 : Int) = F156 (me) (9 : Int) from by rw [eF223]; exact uF_j (by decide)).trans ((show F156 (me) (9 : Int) = F151 (me) (9 : Int) from hM158 _ _ o_me (own_z o_me) (by rw [t_me]; rfl)).trans (show F151 (me) (9 : Int) = Fx (me) (9 : Int) from by rw [eF151]; exact uF_j (by decide)))) ?_
            refine jx_ld (pc_q := 176) (l_q := jSto1 L215 5 (.int (i32 (Fx (me) (9 : Int))))) (st_q := []) rfl rfl ?_
            obtain ⟨L226, eL226⟩ : ∃ q : jL, q = jSto1 L215 5 (.int (i32 (Fx (me) (9 : Int)))) := ⟨_, rfl⟩
            rw [← eL226]
            have g227 : jGet L226 0 = some (rv (me)) := eL226 ▸ jg_nr (by decide) g216
            have g228 : jGet L226 1 = some (.int (i32 (bg))) := eL226 ▸ jg_ne (by decide) g217 rfl
            have g229 : jGet L226 2 = some (.int (i32 (af))) := eL226 ▸ jg_ne (by decide) g218 rfl
            have g230 : jGet L226 3 = some (.int (i32 ((F156 (me) (11 : Int) - Fx (me) (9 : Int))))) := eL226 ▸ jg_ne (by decide) g219 rfl
            have g231 : jGet L226 4 = some (.int (i32 (1))) := eL226 ▸ jg_ne (by decide) g220 rfl
            have g232 : jGet L226 5 = some (.int (i32 (Fx (me) (9 : Int)))) := eL226 ▸ jg_eq
            clear eL226
            have q233 : F223 (me) (11 : Int) = F156 (me) (11 : Int) := (show F223 (me) (11 : Int) = F156 (me) (11 : Int) from by rw [eF223]; exact uF_j (by decide))
            have q234 : F223 (me) (10 : Int) = Fx (me) (10 : Int) := ((show F223 (me) (10 : Int) = F156 (me) (10 : Int) from by rw [eF223]; exact uF_j (by decide)).trans ((show F156 (me) (10 : Int) = F151 (me) (10 : Int) from hM158 _ _ o_me (own_z o_me) (by rw [t_me]; rfl)).trans (show F151 (me) (10 : Int) = Fx (me) (10 : Int) from by rw [eF151]; exact uF_j (by decide))))
            exact k_LScanner_scanLine_at_176 (X := X) (d := d) (R := R) (m := m) (tg := tg) (ln := ln) (F := F) (me := me) (bg := bg) (hd := hd) (hC := hC) (o_me := o_me) (t_me := t_me) (h_bg := h_bg) (p_0 := p_0) (p_1 := p_1) (p_2 := p_2) _ L226 F223 (af) (1) (Fx (me) (9 : Int)) rfl g227 g228 g229 g231 g232 hC224 hM225 (by omega) (by omega) (by omega) (by omega) (by omega) (by omega) (by omega) (by omega)
          · have _q := h222
            refine jx_ld (pc_q := 152) (l_q := L215) (st_q := [.int (i32 ((F156 (me) (11 : Int) - Fx (me) (9 : Int)))), rv (me)]) rfl (jl_iloadn g219) ?_
            refine jx_ar (pc_q := 153) (st_q := [.int (i32 (2)), .int (i32 ((F156 (me) (11 : Int) - Fx (me) (9 : Int)))), rv (me)]) rfl rfl rfl rfl ?_
            refine jx_div (pc_q := 154) rfl rfl (by omega) (by omega) (by omega) (by omega) ?_
            refine jx_ar (pc_q := 156) (st_q := [.int (i32 (15)), .int (i32 (((F156 (me) (11 : Int) - Fx (me) (9 : Int)) / 2))), rv (me)]) rfl rfl rfl rfl ?_
            refine jx_icmp_gt (pc_q := 159) (tg := 165) rfl rfl rfl (by omega) (by omega) (by decide) (by decide) (fun h235 => ?_) (fun h235 => ?_)
            · have _q := h235
              refine jx_ar (pc_q := 167) (st_q := [.int (i32 (-2)), rv (me)]) rfl rfl rfl rfl ?_
              refine cx_pi (pc_q := 170) (c := 10) (q := 14) (qi := (14 : Int)) (z := -2) rfl rfl (by decide) (by decide) rfl rfl rfl (by decide) rfl o_me t_me rfl ?_
              obtain ⟨F236, eF236⟩ : ∃ q, q = uF F156 (me) (14 : Int) (-2) := ⟨_, rfl⟩
              rw [← eF236]
              have hC237 : HC 0 m tg ln F236 := by rw [eF236]; exact HC_fi (c := 10) (q := 14) hC157 t_me (by decide) rfl (by omega) (by omega) ⟨fun _ => ⟨fun w1 w2 => absurd w2 (by omega), fun w => absurd w (by decide)⟩, fun w => absurd w (by decide)⟩
              have hM238 : Fq 0 [(11, 7), (11, 9), (11, 10), (11, 11), (11, 14), (20, -5), (21, -5), (22, -5)] m tg F F236 := by rw [eF236]; exact Fq_p hM161 t_me (fun _ => rfl) rfl
              refine jx_ld (pc_q := 171) (l_q := L215) (st_q := [rv (me)]) rfl (jl_rvn g216) ?_
              refine cx_gi (pc_q := 174) (c := 10) (q := 9) (v := Fx (me) (9 : Int)) rfl rfl (by decide) (by decide) (Or.inl rfl) rfl o_me t_me ((show F236 (me) (9 : Int) = F156 (me) (9 : Int) from by rw [eF236]; exact uF_j (by decide)).trans ((show F156 (me) (9 : Int) = F151 (me) (9 : Int) from hM158 _ _ o_me (own_z o_me) (by rw [t_me]; rfl)).trans (show F151 (me) (9 : Int) = Fx (me) (9 : Int) from by rw [eF151]; exact uF_j (by decide)))) ?_
              refine jx_ld (pc_q := 176) (l_q := jSto1 L215 5 (.int (i32 (Fx (me) (9 : Int))))) (st_q := []) rfl rfl ?_
              obtain ⟨L239, eL239⟩ : ∃ q : jL, q = jSto1 L215 5 (.int (i32 (Fx (me) (9 : Int)))) := ⟨_, rfl⟩
              rw [← eL239]
              have g240 : jGet L239 0 = some (rv (me)) := eL239 ▸ jg_nr (by decide) g216
              have g241 : jGet L239 1 = some (.int (i32 (bg))) := eL239 ▸ jg_ne (by decide) g217 rfl
              have g242 : jGet L239 2 = some (.int (i32 (af))) := eL239 ▸ jg_ne (by decide) g218 rfl
              have g243 : jGet L239 3 = some (.int (i32 ((F156 (me) (11 : Int) - Fx (me) (9 : Int))))) := eL239 ▸ jg_ne (by decide) g219 rfl
              have g244 : jGet L239 4 = some (.int (i32 (1))) := eL239 ▸ jg_ne (by decide) g220 rfl
              have g245 : jGet L239 5 = some (.int (i32 (Fx (me) (9 : Int)))) := eL239 ▸ jg_eq
              clear eL239
              have q246 : F236 (me) (11 : Int) = F156 (me) (11 : Int) := (show F236 (me) (11 : Int) = F156 (me) (11 : Int) from by rw [eF236]; exact uF_j (by decide))
              have q247 : F236 (me) (10 : Int) = Fx (me) (10 : Int) := ((show F236 (me) (10 : Int) = F156 (me) (10 : Int) from by rw [eF236]; exact uF_j (by decide)).trans ((show F156 (me) (10 : Int) = F151 (me) (10 : Int) from hM158 _ _ o_me (own_z o_me) (by rw [t_me]; rfl)).trans (show F151 (me) (10 : Int) = Fx (me) (10 : Int) from by rw [eF151]; exact uF_j (by decide))))
              exact k_LScanner_scanLine_at_176 (X := X) (d := d) (R := R) (m := m) (tg := tg) (ln := ln) (F := F) (me := me) (bg := bg) (hd := hd) (hC := hC) (o_me := o_me) (t_me := t_me) (h_bg := h_bg) (p_0 := p_0) (p_1 := p_1) (p_2 := p_2) _ L239 F236 (af) (1) (Fx (me) (9 : Int)) rfl g240 g241 g242 g244 g245 hC237 hM238 (by omega) (by omega) (by omega) (by omega) (by omega) (by omega) (by omega) (by omega)
            · have _q := h235
              refine jx_ld (pc_q := 160) (l_q := L215) (st_q := [.int (i32 ((F156 (me) (11 : Int) - Fx (me) (9 : Int)))), rv (me)]) rfl (jl_iloadn g219) ?_
              refine jx_ar (pc_q := 161) (st_q := [.int (i32 (2)), .int (i32 ((F156 (me) (11 : Int) - Fx (me) (9 : Int)))), rv (me)]) rfl rfl rfl rfl ?_
              refine jx_div (pc_q := 162) rfl rfl (by omega) (by omega) (by omega) (by omega) ?_
              refine jx_go (tg := 167) rfl rfl ?_
              refine cx_pi (pc_q := 170) (c := 10) (q := 14) (qi := (14 : Int)) (z := ((F156 (me) (11 : Int) - Fx (me) (9 : Int)) / 2)) rfl rfl (by decide) (by decide) rfl rfl rfl (by decide) rfl o_me t_me rfl ?_
              obtain ⟨F248, eF248⟩ : ∃ q, q = uF F156 (me) (14 : Int) (((F156 (me) (11 : Int) - Fx (me) (9 : Int)) / 2)) := ⟨_, rfl⟩
              rw [← eF248]
              have hC249 : HC 0 m tg ln F248 := by rw [eF248]; exact HC_fi (c := 10) (q := 14) hC157 t_me (by decide) rfl (by omega) (by omega) ⟨fun _ => ⟨fun w1 w2 => absurd w2 (by omega), fun w => absurd w (by decide)⟩, fun w => absurd w (by decide)⟩
              have hM250 : Fq 0 [(11, 7), (11, 9), (11, 10), (11, 11), (11, 14), (20, -5), (21, -5), (22, -5)] m tg F F248 := by rw [eF248]; exact Fq_p hM161 t_me (fun _ => rfl) rfl
              refine jx_ld (pc_q := 171) (l_q := L215) (st_q := [rv (me)]) rfl (jl_rvn g216) ?_
              refine cx_gi (pc_q := 174) (c := 10) (q := 9) (v := Fx (me) (9 : Int)) rfl rfl (by decide) (by decide) (Or.inl rfl) rfl o_me t_me ((show F248 (me) (9 : Int) = F156 (me) (9 : Int) from by rw [eF248]; exact uF_j (by decide)).trans ((show F156 (me) (9 : Int) = F151 (me) (9 : Int) from hM158 _ _ o_me (own_z o_me) (by rw [t_me]; rfl)).trans (show F151 (me) (9 : Int) = Fx (me) (9 : Int) from by rw [eF151]; exact uF_j (by decide)))) ?_
              refine jx_ld (pc_q := 176) (l_q := jSto1 L215 5 (.int (i32 (Fx (me) (9 : Int))))) (st_q := []) rfl rfl ?_
              obtain ⟨L251, eL251⟩ : ∃ q : jL, q = jSto1 L215 5 (.int (i32 (Fx (me) (9 : Int)))) := ⟨_, rfl⟩
              rw [← eL251]
              have g252 : jGet L251 0 = some (rv (me)) := eL251 ▸ jg_nr (by decide) g216
              have g253 : jGet L251 1 = some (.int (i32 (bg))) := eL251 ▸ jg_ne (by decide) g217 rfl
              have g254 : jGet L251 2 = some (.int (i32 (af))) := eL251 ▸ jg_ne (by decide) g218 rfl
              have g255 : jGet L251 3 = some (.int (i32 ((F156 (me) (11 : Int) - Fx (me) (9 : Int))))) := eL251 ▸ jg_ne (by decide) g219 rfl
              have g256 : jGet L251 4 = some (.int (i32 (1))) := eL251 ▸ jg_ne (by decide) g220 rfl
              have g257 : jGet L251 5 = some (.int (i32 (Fx (me) (9 : Int)))) := eL251 ▸ jg_eq
              clear eL251
              have q258 : F248 (me) (11 : Int) = F156 (me) (11 : Int) := (show F248 (me) (11 : Int) = F156 (me) (11 : Int) from by rw [eF248]; exact uF_j (by decide))
              have q259 : F248 (me) (10 : Int) = Fx (me) (10 : Int) := ((show F248 (me) (10 : Int) = F156 (me) (10 : Int) from by rw [eF248]; exact uF_j (by decide)).trans ((show F156 (me) (10 : Int) = F151 (me) (10 : Int) from hM158 _ _ o_me (own_z o_me) (by rw [t_me]; rfl)).trans (show F151 (me) (10 : Int) = Fx (me) (10 : Int) from by rw [eF151]; exact uF_j (by decide))))
              exact k_LScanner_scanLine_at_176 (X := X) (d := d) (R := R) (m := m) (tg := tg) (ln := ln) (F := F) (me := me) (bg := bg) (hd := hd) (hC := hC) (o_me := o_me) (t_me := t_me) (h_bg := h_bg) (p_0 := p_0) (p_1 := p_1) (p_2 := p_2) _ L251 F248 (af) (1) (Fx (me) (9 : Int)) rfl g252 g253 g254 g256 g257 hC249 hM250 (by omega) (by omega) (by omega) (by omega) (by omega) (by omega) (by omega) (by omega)
      · have _q := h149
        refine jx_inc (pc_q := 101) (l_q := jSto1 L 2 (.int (i32 (af + (1))))) (x := af) rfl gL_2 (by decide) rfl rfl ?_
        obtain ⟨L260, eL260⟩ : ∃ q : jL, q = jSto1 L 2 (.int (i32 ((af + (1))))) := ⟨_, rfl⟩
        rw [← eL260]
        have g261 : jGet L260 0 = some (rv (me)) := eL260 ▸ jg_nr (by decide) gL_0
        have g262 : jGet L260 1 = some (.int (i32 (bg))) := eL260 ▸ jg_ne (by decide) gL_1 rfl
        have g263 : jGet L260 2 = some (.int (i32 ((af + (1))))) := eL260 ▸ jg_eq
        clear eL260
        refine jx_go (tg := 80) rfl rfl ?_
        exact ih _ (by omega) L260 Fx ((af + (1))) rfl g261 g262 g263 hCx hMx (by omega) (by omega) (by omega) (by omega) (by omega)
set_option maxRecDepth 20000 in
set_option maxHeartbeats 4000000 in
theorem k_LScanner_scanLine_at_10 {X : jX} {d : Nat} {R : Nat → jC} {m : Nat} {tg ln : Int → Int} {F : Int → Int → Int} {me bg : Int} (hd : 5 ≤ d + 1) (hC : HC 0 m tg ln F) (o_me : own m me) (t_me : tg me = 11) (h_bg : (-2147483648 : Int) ≤ bg ∧ bg ≤ 2147483647) (p_0 : 0 ≤ bg) (p_1 : bg ≤ F me (1 : Int)) (p_2 : F me (1 : Int) ≤ 3000) : ∀ (mm : Nat) (L : jL) (Fx : Int → Int → Int), (F me (1 : Int) - Fx me (10 : Int)).toNat = mm → jGet L 0 = some (rv (me)) → jGet L 1 = some (.int (i32 (bg))) → HC 0 m tg ln Fx → Fq 0 [(11, 7), (11, 9), (11, 10), (11, 11), (11, 14), (20, -5), (21, -5), (22, -5)] m tg F Fx → (bg ≤ Fx me (10 : Int)) → (Fx me (10 : Int) ≤ F me (1 : Int)) → (Fx me (9 : Int) = bg) → wj X d jm212 (10, L, [], cV R m tg ln Fx) (fun o V_q => ∃ (F_q : Int → Int → Int) (r : Int), V_q = cV R m tg ln F_q ∧ o = .inl (some (.int (i32 r))) ∧ HC 0 m tg ln F_q ∧ Fq 0 [(11, 7), (11, 9), (11, 10), (11, 11), (11, 14), (20, -5), (21, -5), (22, -5)] m tg F F_q ∧ (-2147483648 ≤ r ∧ r ≤ 2147483647) ∧ (bg < r) ∧ (r ≤ F me (1 : Int) + 1) ∧ True) := by
  intro mm
  induction mm using Nat.strongRecOn with
  | ind mm ih =>
    intro L Fx hmm gL_0 gL_1 hCx hMx iv_0 iv_1 iv_2
    refine jx_ld (pc_q := 11) (l_q := L) (st_q := [rv (me)]) rfl (jl_rvn gL_0) ?_
    refine cx_gi (pc_q := 14) (c := 10) (q := 10) (v := Fx (me) (10 : Int)) rfl rfl (by decide) (by decide) (Or.inl rfl) rfl o_me t_me rfl ?_
    have b264 : (0 : Int) ≤ Fx (me) (10 : Int) ∧ Fx (me) (10 : Int) ≤ 3000 := by have z := HC_i (c := 10) (q := 10) hCx o_me t_me (by decide) rfl; rw [show Fx (me) ((10 : Nat) : Int) = Fx (me) (10 : Int) from rfl] at z; exact z
    refine jx_ld (pc_q := 15) (l_q := L) (st_q := [rv (me), .int (i32 (Fx (me) (10 : Int)))]) rfl (jl_rvn gL_0) ?_
    refine cx_gi (pc_q := 18) (c := 10) (q := 1) (v := F (me) (1 : Int)) rfl rfl (by decide) (by decide) (Or.inl rfl) rfl o_me t_me (show Fx (me) (1 : Int) = F (me) (1 : Int) from hMx _ _ o_me (own_z o_me) (by rw [t_me]; rfl)) ?_
    have b265 : (0 : Int) ≤ F (me) (1 : Int) ∧ F (me) (1 : Int) ≤ 3000 := by have z := HC_i (c := 10) (q := 1) hCx o_me t_me (by decide) rfl; rw [show Fx (me) ((1 : Nat) : Int) = F (me) (1 : Int) from (show Fx (me) (1 : Int) = F (me) (1 : Int) from hMx _ _ o_me (own_z o_me) (by rw [t_me]; rfl))] at z; exact z
    refine jx_icmp_ge (pc_q := 21) (tg := 75) rfl rfl rfl (by omega) (by omega) (by omega) (by omega) (fun h266 => ?_) (fun h266 => ?_)
    · have _q := h266
      refine jx_ld (pc_q := 76) (l_q := L) (st_q := [rv (me)]) rfl (jl_rvn gL_0) ?_
      refine cx_gi (pc_q := 79) (c := 10) (q := 10) (v := Fx (me) (10 : Int)) rfl rfl (by decide) (by decide) (Or.inl rfl) rfl o_me t_me rfl ?_
      refine jx_ld (pc_q := 80) (l_q := jSto1 L 2 (.int (i32 (Fx (me) (10 : Int))))) (st_q := []) rfl rfl ?_
      obtain ⟨L267, eL267⟩ : ∃ q : jL, q = jSto1 L 2 (.int (i32 (Fx (me) (10 : Int)))) := ⟨_, rfl⟩
      rw [← eL267]
      have g268 : jGet L267 0 = some (rv (me)) := eL267 ▸ jg_nr (by decide) gL_0
      have g269 : jGet L267 1 = some (.int (i32 (bg))) := eL267 ▸ jg_ne (by decide) gL_1 rfl
      have g270 : jGet L267 2 = some (.int (i32 (Fx (me) (10 : Int)))) := eL267 ▸ jg_eq
      clear eL267
      exact k_LScanner_scanLine_at_80 (X := X) (d := d) (R := R) (m := m) (tg := tg) (ln := ln) (F := F) (me := me) (bg := bg) (hd := hd) (hC := hC) (o_me := o_me) (t_me := t_me) (h_bg := h_bg) (p_0 := p_0) (p_1 := p_1) (p_2 := p_2) _ L267 Fx (Fx (me) (10 : Int)) rfl g268 g269 g270 hCx hMx (by omega) (by omega) (by omega) (by omega) (by omega)
    · have _q := h266
      refine jx_ld (pc_q := 22) (l_q := L) (st_q := [rv (me)]) rfl (jl_rvn gL_0) ?_
      refine jx_ld (pc_q := 23) (l_q := L) (st_q := [rv (me), rv (me)]) rfl (jl_rvn gL_0) ?_
      refine cx_gi (pc_q := 26) (c := 10) (q := 10) (v := Fx (me) (10 : Int)) rfl rfl (by decide) (by decide) (Or.inl rfl) rfl o_me t_me rfl ?_
      refine cx_vi (c := 10) (a := me) (st := []) (as := [.int (i32 (Fx (me) (10 : Int)))]) rfl rfl rfl o_me t_me (by decide) rfl ⟨rfl, rfl, (Nat.le_of_ble_eq_true rfl)⟩ rfl (k_LScanner_sign (dd := d) (R := R) (m := m) (tg := tg) (ln := ln) (F := Fx) (me := me) (a0 := Fx (me) (10 : Int)) (hd := by omega) (hC := hCx) (o_me := o_me) (t_me := t_me) (h_a0 := by omega)) (fun o V_q hq => ?_)
      obtain ⟨r271, rfl, rfl, b272, -⟩ := hq
      refine Or.inr (Or.inl ⟨_, rfl, ?_⟩)
      refine jx_ar (pc_q := 31) (st_q := [.int (i32 (10)), .int (i32 (r271))]) rfl rfl rfl rfl ?_
      refine jx_icmp_eq (pc_q := 34) (tg := 75) rfl rfl rfl (by omega) (by omega) (by decide) (by decide) (fun h273 => ?_) (fun h273 => ?_)
      · have _q := h273
        refine jx_ld (pc_q := 76) (l_q := L) (st_q := [rv (me)]) rfl (jl_rvn gL_0) ?_
        refine cx_gi (pc_q := 79) (c := 10) (q := 10) (v := Fx (me) (10 : Int)) rfl rfl (by decide) (by decide) (Or.inl rfl) rfl o_me t_me rfl ?_
        refine jx_ld (pc_q := 80) (l_q := jSto1 L 2 (.int (i32 (Fx (me) (10 : Int))))) (st_q := []) rfl rfl ?_
        obtain ⟨L274, eL274⟩ : ∃ q : jL, q = jSto1 L 2 (.int (i32 (Fx (me) (10 : Int)))) := ⟨_, rfl⟩
        rw [← eL274]
        have g275 : jGet L274 0 = some (rv (me)) := eL274 ▸ jg_nr (by decide) gL_0
        have g276 : jGet L274 1 = some (.int (i32 (bg))) := eL274 ▸ jg_ne (by decide) gL_1 rfl
        have g277 : jGet L274 2 = some (.int (i32 (Fx (me) (10 : Int)))) := eL274 ▸ jg_eq
        clear eL274
        exact k_LScanner_scanLine_at_80 (X := X) (d := d) (R := R) (m := m) (tg := tg) (ln := ln) (F := F) (me := me) (bg := bg) (hd := hd) (hC := hC) (o_me := o_me) (t_me := t_me) (h_bg := h_bg) (p_0 := p_0) (p_1 := p_1) (p_2 := p_2) _ L274 Fx (Fx (me) (10 : Int)) rfl g275 g276 g277 hCx hMx (by omega) (by omega) (by omega) (by omega) (by omega)
      · have _q := h273
        refine jx_ld (pc_q := 35) (l_q := L) (st_q := [rv (me)]) rfl (jl_rvn gL_0) ?_
        refine jx_ld (pc_q := 36) (l_q := L) (st_q := [rv (me), rv (me)]) rfl (jl_rvn gL_0) ?_
        refine cx_gi (pc_q := 39) (c := 10) (q := 10) (v := Fx (me) (10 : Int)) rfl rfl (by decide) (by decide) (Or.inl rfl) rfl o_me t_me rfl ?_
        refine cx_vi (c := 10) (a := me) (st := []) (as := [.int (i32 (Fx (me) (10 : Int)))]) rfl rfl rfl o_me t_me (by decide) rfl ⟨rfl, rfl, (Nat.le_of_ble_eq_true rfl)⟩ rfl (k_LScanner_sign (dd := d) (R := R) (m := m) (tg := tg) (ln := ln) (F := Fx) (me := me) (a0 := Fx (me) (10 : Int)) (hd := by omega) (hC := hCx) (o_me := o_me) (t_me := t_me) (h_a0 := by omega)) (fun o V_q hq => ?_)
        obtain ⟨r278, rfl, rfl, b279, -⟩ := hq
        refine Or.inr (Or.inl ⟨_, rfl, ?_⟩)
        refine jx_ar (pc_q := 44) (st_q := [.int (i32 (45)), .int (i32 (r278))]) rfl rfl rfl rfl ?_
        refine jx_icmp_ne (pc_q := 47) (tg := 62) rfl rfl rfl (by omega) (by omega) (by decide) (by decide) (fun h280 => ?_) (fun h280 => ?_)
        · have _q := h280
          refine jx_ld (pc_q := 63) (l_q := L) (st_q := [rv (me)]) rfl (jl_rvn gL_0) ?_
          refine jx_ar (pc_q := 64) (st_q := [rv (me), rv (me)]) rfl rfl ja_dup rfl ?_
          refine cx_gi (pc_q := 67) (c := 10) (q := 10) (v := Fx (me) (10 : Int)) rfl rfl (by decide) (by decide) (Or.inl rfl) rfl o_me t_me rfl ?_
          refine jx_ar (pc_q := 68) (st_q := [.int (i32 (1)), .int (i32 (Fx (me) (10 : Int))), rv (me)]) rfl rfl rfl rfl ?_
          refine jx_add (pc_q := 69) rfl rfl ?_
          refine cx_pi (pc_q := 72) (c := 10) (q := 10) (qi := (10 : Int)) (z := (Fx (me) (10 : Int) + 1)) rfl rfl (by decide) (by decide) rfl rfl rfl (by decide) rfl o_me t_me rfl ?_
          obtain ⟨F281, eF281⟩ : ∃ q, q = uF Fx (me) (10 : Int) ((Fx (me) (10 : Int) + 1)) := ⟨_, rfl⟩
          rw [← eF281]
          have hC282 : HC 0 m tg ln F281 := by rw [eF281]; exact HC_fi (c := 10) (q := 10) hCx t_me (by decide) rfl (by omega) (by omega) ⟨fun _ => ⟨fun w1 w2 => absurd w2 (by omega), fun w => absurd w (by decide)⟩, fun w => absurd w (by decide)⟩
          have hM283 : Fq 0 [(11, 7), (11, 9), (11, 10), (11, 11), (11, 14), (20, -5), (21, -5), (22, -5)] m tg F F281 := by rw [eF281]; exact Fq_p hMx t_me (fun _ => rfl) rfl
          refine jx_go (tg := 10) rfl rfl ?_
          have q284 : F281 (me) (10 : Int) = (Fx (me) (10 : Int) + 1) := (show F281 (me) (10 : Int) = (Fx (me) (10 : Int) + 1) from by rw [eF281]; exact uF_e)
          have q285 : F281 (me) (9 : Int) = Fx (me) (9 : Int) := (show F281 (me) (9 : Int) = Fx (me) (9 : Int) from by rw [eF281]; exact uF_j (by decide))
          exact ih _ (by omega) L F281 rfl gL_0 gL_1 hC282 hM283 (by omega) (by omega) (by omega)
        · have _q := h280
          refine jx_ld (pc_q := 48) (l_q := L) (st_q := [rv (me)]) rfl (jl_rvn gL_0) ?_
          refine jx_ld (pc_q := 49) (l_q := L) (st_q := [rv (me), rv (me)]) rfl (jl_rvn gL_0) ?_
          refine cx_gi (pc_q := 52) (c := 10) (q := 10) (v := Fx (me) (10 : Int)) rfl rfl (by decide) (by decide) (Or.inl rfl) rfl o_me t_me rfl ?_
          refine jx_ar (pc_q := 53) (st_q := [.int (i32 (1)), .int (i32 (Fx (me) (10 : Int))), rv (me)]) rfl rfl rfl rfl ?_
          refine jx_add (pc_q := 54) rfl rfl ?_
          refine cx_vi (c := 10) (a := me) (st := []) (as := [.int (i32 ((Fx (me) (10 : Int) + 1)))]) rfl rfl rfl o_me t_me (by decide) rfl ⟨rfl, rfl, (Nat.le_of_ble_eq_true rfl)⟩ rfl (k_LScanner_sign (dd := d) (R := R) (m := m) (tg := tg) (ln := ln) (F := Fx) (me := me) (a0 := (Fx (me) (10 : Int) + 1)) (hd := by omega) (hC := hCx) (o_me := o_me) (t_me := t_me) (h_a0 := by omega)) (fun o V_q hq => ?_)
          obtain ⟨r286, rfl, rfl, b287, -⟩ := hq
          refine Or.inr (Or.inl ⟨_, rfl, ?_⟩)
          refine jx_ar (pc_q := 59) (st_q := [.int (i32 (45)), .int (i32 (r286))]) rfl rfl rfl rfl ?_
          refine jx_icmp_eq (pc_q := 62) (tg := 75) rfl rfl rfl (by omega) (by omega) (by decide) (by decide) (fun h288 => ?_) (fun h288 => ?_)
          · have _q := h288
            refine jx_ld (pc_q := 76) (l_q := L) (st_q := [rv (me)]) rfl (jl_rvn gL_0) ?_
            refine cx_gi (pc_q := 79) (c := 10) (q := 10) (v := Fx (me) (10 : Int)) rfl rfl (by decide) (by decide) (Or.inl rfl) rfl o_me t_me rfl ?_
            refine jx_ld (pc_q := 80) (l_q := jSto1 L 2 (.int (i32 (Fx (me) (10 : Int))))) (st_q := []) rfl rfl ?_
            obtain ⟨L289, eL289⟩ : ∃ q : jL, q = jSto1 L 2 (.int (i32 (Fx (me) (10 : Int)))) := ⟨_, rfl⟩
            rw [← eL289]
            have g290 : jGet L289 0 = some (rv (me)) := eL289 ▸ jg_nr (by decide) gL_0
            have g291 : jGet L289 1 = some (.int (i32 (bg))) := eL289 ▸ jg_ne (by decide) gL_1 rfl
            have g292 : jGet L289 2 = some (.int (i32 (Fx (me) (10 : Int)))) := eL289 ▸ jg_eq
            clear eL289
            exact k_LScanner_scanLine_at_80 (X := X) (d := d) (R := R) (m := m) (tg := tg) (ln := ln) (F := F) (me := me) (bg := bg) (hd := hd) (hC := hC) (o_me := o_me) (t_me := t_me) (h_bg := h_bg) (p_0 := p_0) (p_1 := p_1) (p_2 := p_2) _ L289 Fx (Fx (me) (10 : Int)) rfl g290 g291 g292 hCx hMx (by omega) (by omega) (by omega) (by omega) (by omega)
          · have _q := h288
            refine jx_ld (pc_q := 63) (l_q := L) (st_q := [rv (me)]) rfl (jl_rvn gL_0) ?_
            refine jx_ar (pc_q := 64) (st_q := [rv (me), rv (me)]) rfl rfl ja_dup rfl ?_
            refine cx_gi (pc_q := 67) (c := 10) (q := 10) (v := Fx (me) (10 : Int)) rfl rfl (by decide) (by decide) (Or.inl rfl) rfl o_me t_me rfl ?_
            refine jx_ar (pc_q := 68) (st_q := [.int (i32 (1)), .int (i32 (Fx (me) (10 : Int))), rv (me)]) rfl rfl rfl rfl ?_
            refine jx_add (pc_q := 69) rfl rfl ?_
            refine cx_pi (pc_q := 72) (c := 10) (q := 10) (qi := (10 : Int)) (z := (Fx (me) (10 : Int) + 1)) rfl rfl (by decide) (by decide) rfl rfl rfl (by decide) rfl o_me t_me rfl ?_
            obtain ⟨F293, eF293⟩ : ∃ q, q = uF Fx (me) (10 : Int) ((Fx (me) (10 : Int) + 1)) := ⟨_, rfl⟩
            rw [← eF293]
            have hC294 : HC 0 m tg ln F293 := by rw [eF293]; exact HC_fi (c := 10) (q := 10) hCx t_me (by decide) rfl (by omega) (by omega) ⟨fun _ => ⟨fun w1 w2 => absurd w2 (by omega), fun w => absurd w (by decide)⟩, fun w => absurd w (by decide)⟩
            have hM295 : Fq 0 [(11, 7), (11, 9), (11, 10), (11, 11), (11, 14), (20, -5), (21, -5), (22, -5)] m tg F F293 := by rw [eF293]; exact Fq_p hMx t_me (fun _ => rfl) rfl
            refine jx_go (tg := 10) rfl rfl ?_
            have q296 : F293 (me) (10 : Int) = (Fx (me) (10 : Int) + 1) := (show F293 (me) (10 : Int) = (Fx (me) (10 : Int) + 1) from by rw [eF293]; exact uF_e)
            have q297 : F293 (me) (9 : Int) = Fx (me) (9 : Int) := (show F293 (me) (9 : Int) = Fx (me) (9 : Int) from by rw [eF293]; exact uF_j (by decide))
            exact ih _ (by omega) L F293 rfl gL_0 gL_1 hC294 hM295 (by omega) (by omega) (by omega)
set_option maxRecDepth 20000 in
set_option maxHeartbeats 4000000 in
theorem k_LScanner_scanLine {X : jX} {dd : Nat} {R : Nat → jC} {m : Nat} {tg ln : Int → Int} {F : Int → Int → Int} {me bg : Int} (hd : 5 ≤ dd) (hC : HC 0 m tg ln F) (o_me : own m me) (t_me : tg me = 11) (h_bg : (-2147483648 : Int) ≤ bg ∧ bg ≤ 2147483647) (p_0 : 0 ≤ bg) (p_1 : bg ≤ F me (1 : Int)) (p_2 : F me (1 : Int) ≤ 3000) : wk X dd 212 [rv me, .int (i32 bg)] (cV R m tg ln F) (fun o V_q => ∃ (F_q : Int → Int → Int) (r : Int), V_q = cV R m tg ln F_q ∧ o = .inl (some (.int (i32 r))) ∧ HC 0 m tg ln F_q ∧ Fq 0 [(11, 7), (11, 9), (11, 10), (11, 11), (11, 14), (20, -5), (21, -5), (22, -5)] m tg F F_q ∧ (-2147483648 ≤ r ∧ r ≤ 2147483647) ∧ (bg < r) ∧ (r ≤ F me (1 : Int) + 1) ∧ True) := by
  obtain ⟨d, rfl⟩ : ∃ d, dd = d + 1 := ⟨dd - 1, by omega⟩
  refine wk_of (e := jm212) rfl (by rw [jS_r, jS_i, jS_0]; exact Nat.le_of_ble_eq_true rfl) ?_
  rw [la_r, la_i, la_0]
  show wj X d jm212 (0, [(0, rv (me)), (1, .int (i32 (bg)))], [], cV R m tg ln F) _
  have hM0 : Fq 0 [(11, 7), (11, 9), (11, 10), (11, 11), (11, 14), (20, -5), (21, -5), (22, -5)] m tg F F := Fq_r
  obtain ⟨L0, eL0⟩ : ∃ q : jL, q = [(0, rv (me)), (1, .int (i32 (bg)))] := ⟨_, rfl⟩
  rw [← eL0]
  have g298 : jGet L0 0 = some (rv (me)) := eL0 ▸ (rfl : jGet [(0, rv (me)), (1, .int (i32 (bg)))] 0 = some (rv (me)))
  have g299 : jGet L0 1 = some (.int (i32 (bg))) := eL0 ▸ (rfl : jGet [(0, rv (me)), (1, .int (i32 (bg)))] 1 = some (.int (i32 (bg))))
  clear eL0
  refine jx_ld (pc_q := 1) (l_q := L0) (st_q := [rv (me)]) rfl (jl_rvn g298) ?_
  refine jx_ld (pc_q := 2) (l_q := L0) (st_q := [.int (i32 (bg)), rv (me)]) rfl (jl_iloadn g299) ?_
  refine cx_pi (pc_q := 5) (c := 10) (q := 9) (qi := (9 : Int)) (z := bg) rfl rfl (by decide) (by decide) rfl rfl rfl (by decide) rfl o_me t_me rfl ?_
  obtain ⟨F300, eF300⟩ : ∃ q, q = uF F (me) (9 : Int) (bg) := ⟨_, rfl⟩
  rw [← eF300]
  have hC301 : HC 0 m tg ln F300 := by rw [eF300]; exact HC_fi (c := 10) (q := 9) hC t_me (by decide) rfl (by omega) (by omega) ⟨fun _ => ⟨fun w1 w2 => absurd w2 (by omega), fun w => absurd w (by decide)⟩, fun w => absurd w (by decide)⟩
  have hM302 : Fq 0 [(11, 7), (11, 9), (11, 10), (11, 11), (11, 14), (20, -5), (21, -5), (22, -5)] m tg F F300 := by rw [eF300]; exact Fq_p hM0 t_me (fun _ => rfl) rfl
  refine jx_ld (pc_q := 6) (l_q := L0) (st_q := [rv (me)]) rfl (jl_rvn g298) ?_
  refine jx_ld (pc_q := 7) (l_q := L0) (st_q := [.int (i32 (bg)), rv (me)]) rfl (jl_iloadn g299) ?_
  refine cx_pi (pc_q := 10) (c := 10) (q := 10) (qi := (10 : Int)) (z := bg) rfl rfl (by decide) (by decide) rfl rfl rfl (by decide) rfl o_me t_me rfl ?_
  obtain ⟨F303, eF303⟩ : ∃ q, q = uF F300 (me) (10 : Int) (bg) := ⟨_, rfl⟩
  rw [← eF303]
  have hC304 : HC 0 m tg ln F303 := by rw [eF303]; exact HC_fi (c := 10) (q := 10) hC301 t_me (by decide) rfl (by omega) (by omega) ⟨fun _ => ⟨fun w1 w2 => absurd w2 (by omega), fun w => absurd w (by decide)⟩, fun w => absurd w (by decide)⟩
  have hM305 : Fq 0 [(11, 7), (11, 9), (11, 10), (11, 11), (11, 14), (20, -5), (21, -5), (22, -5)] m tg F F303 := by rw [eF303]; exact Fq_p hM302 t_me (fun _ => rfl) rfl
  have q306 : F303 (me) (10 : Int) = bg := (show F303 (me) (10 : Int) = bg from by rw [eF303]; exact uF_e)
  have q307 : F303 (me) (9 : Int) = bg := ((show F303 (me) (9 : Int) = F300 (me) (9 : Int) from by rw [eF303]; exact uF_j (by decide)).trans (show F300 (me) (9 : Int) = bg from by rw [eF300]; exact uF_e))
  exact k_LScanner_scanLine_at_10 (X := X) (d := d) (R := R) (m := m) (tg := tg) (ln := ln) (F := F) (me := me) (bg := bg) (hd := hd) (hC := hC) (o_me := o_me) (t_me := t_me) (h_bg := h_bg) (p_0 := p_0) (p_1 := p_1) (p_2 := p_2) _ L0 F303 rfl g298 g299 hC304 hM305 (by omega) (by omega) (by omega)
set_option maxRecDepth 20000 in
set_option maxHeartbeats 4000000 in
theorem k_LScanner_scan_at_4 {X : jX} {d : Nat} {R : Nat → jC} {m : Nat} {tg ln : Int → Int} {F : Int → Int → Int} {me : Int} (hd : 6 ≤ d + 1) (hC : HC 0 m tg ln F) (o_me : own m me) (t_me : tg me = 11) : ∀ (mm : Nat) (L : jL) (Fx : Int → Int → Int) (bg n : Int), (3001 - n).toNat = mm → jGet L 0 = some (rv (me)) → jGet L 1 = some (.int (i32 bg)) → jGet L 2 = some (.int (i32 n)) → HC 0 m tg ln Fx → Fq 0 [(11, 7), (11, 9), (11, 10), (11, 11), (11, 13), (11, 14), (20, -5), (21, -5), (22, -5)] m tg F Fx → ((-2147483648 : Int) ≤ bg ∧ bg ≤ 2147483647) → ((-2147483648 : Int) ≤ n ∧ n ≤ 2147483647) → (0 ≤ bg) → (0 ≤ n) → (n ≤ 3001) → wj X d jm211 (4, L, [], cV R m tg ln Fx) (fun o V_q => ∃ (F_q : Int → Int → Int), V_q = cV R m tg ln F_q ∧ o = .inl none ∧ HC 0 m tg ln F_q ∧ Fq 0 [(11, 7), (11, 9), (11, 10), (11, 11), (11, 13), (11, 14), (20, -5), (21, -5), (22, -5)] m tg F F_q ∧ True) := by
  intro mm
  induction mm using Nat.strongRecOn with
  | ind mm ih =>
    intro L Fx bg n hmm gL_0 gL_1 gL_2 hCx hMx rx_bg rx_n iv_0 iv_1 iv_2
    refine jx_ld (pc_q := 5) (l_q := L) (st_q := [.int (i32 (n))]) rfl (jl_iloadn gL_2) ?_
    refine jx_ld (pc_q := 6) (l_q := L) (st_q := [rv (me), .int (i32 (n))]) rfl (jl_rvn gL_0) ?_
    refine cx_gi (pc_q := 9) (c := 10) (q := 1) (v := F (me) (1 : Int)) rfl rfl (by decide) (by decide) (Or.inl rfl) rfl o_me t_me (show Fx (me) (1 : Int) = F (me) (1 : Int) from hMx _ _ o_me (own_z o_me) (by rw [t_me]; rfl)) ?_
    have b1 : (0 : Int) ≤ F (me) (1 : Int) ∧ F (me) (1 : Int) ≤ 3000 := by have z := HC_i (c := 10) (q := 1) hCx o_me t_me (by decide) rfl; rw [show Fx (me) ((1 : Nat) : Int) = F (me) (1 : Int) from (show Fx (me) (1 : Int) = F (me) (1 : Int) from hMx _ _ o_me (own_z o_me) (by rw [t_me]; rfl))] at z; exact z
    refine jx_icmp_gt (pc_q := 12) (tg := 37) rfl rfl rfl (by omega) (by omega) (by omega) (by omega) (fun h2 => ?_) (fun h2 => ?_)
    · have _q := h2
      refine jx_rt (v := none) rfl rfl rfl rfl rfl rfl ?_
      exact ⟨Fx, rfl, rfl, hCx, hMx, trivial⟩
    · have _q := h2
      refine jx_ld (pc_q := 13) (l_q := L) (st_q := [.int (i32 (bg))]) rfl (jl_iloadn gL_1) ?_
      refine jx_ld (pc_q := 14) (l_q := L) (st_q := [rv (me), .int (i32 (bg))]) rfl (jl_rvn gL_0) ?_
      refine cx_gi (pc_q := 17) (c := 10) (q := 1) (v := F (me) (1 : Int)) rfl rfl (by decide) (by decide) (Or.inl rfl) rfl o_me t_me (show Fx (me) (1 : Int) = F (me) (1 : Int) from hMx _ _ o_me (own_z o_me) (by rw [t_me]; rfl)) ?_
      refine jx_icmp_gt (pc_q := 20) (tg := 37) rfl rfl rfl (by omega) (by omega) (by omega) (by omega) (fun h3 => ?_) (fun h3 => ?_)
      · have _q := h3
        refine jx_rt (v := none) rfl rfl rfl rfl rfl rfl ?_
        exact ⟨Fx, rfl, rfl, hCx, hMx, trivial⟩
      · have _q := h3
        refine jx_ld (pc_q := 21) (l_q := L) (st_q := [rv (me)]) rfl (jl_rvn gL_0) ?_
        refine jx_ld (pc_q := 22) (l_q := L) (st_q := [.int (i32 (n)), rv (me)]) rfl (jl_iloadn gL_2) ?_
        refine cx_pi (pc_q := 25) (c := 10) (q := 13) (qi := (13 : Int)) (z := n) rfl rfl (by decide) (by decide) rfl rfl rfl (by decide) rfl o_me t_me rfl ?_
        obtain ⟨F4, eF4⟩ : ∃ q, q = uF Fx (me) (13 : Int) (n) := ⟨_, rfl⟩
        rw [← eF4]
        have hC5 : HC 0 m tg ln F4 := by rw [eF4]; exact HC_fi (c := 10) (q := 13) hCx t_me (by decide) rfl (by omega) (by omega) ⟨fun _ => ⟨fun w1 w2 => absurd w2 (by omega), fun w => absurd w (by decide)⟩, fun w => absurd w (by decide)⟩
        have hM6 : Fq 0 [(11, 7), (11, 9), (11, 10), (11, 11), (11, 13), (11, 14), (20, -5), (21, -5), (22, -5)] m tg F F4 := by rw [eF4]; exact Fq_p hMx t_me (fun _ => rfl) rfl
        refine jx_ld (pc_q := 26) (l_q := L) (st_q := [rv (me)]) rfl (jl_rvn gL_0) ?_
        refine jx_ld (pc_q := 27) (l_q := L) (st_q := [.int (i32 (bg)), rv (me)]) rfl (jl_iloadn gL_1) ?_
        have q7 : F4 (me) (1 : Int) = F (me) (1 : Int) := ((show F4 (me) (1 : Int) = Fx (me) (1 : Int) from by rw [eF4]; exact uF_j (by decide)).trans (show Fx (me) (1 : Int) = F (me) (1 : Int) from hMx _ _ o_me (own_z o_me) (by rw [t_me]; rfl)))
        refine cx_vi (c := 10) (a := me) (st := []) (as := [.int (i32 (bg))]) rfl rfl rfl o_me t_me (by decide) rfl ⟨rfl, rfl, (Nat.le_of_ble_eq_true rfl)⟩ rfl (k_LScanner_scanLine (dd := d) (R := R) (m := m) (tg := tg) (ln := ln) (F := F4) (me := me) (bg := bg) (hd := by omega) (hC := hC5) (o_me := o_me) (t_me := t_me) (h_bg := by omega) (p_0 := by omega) (p_1 := by omega) (p_2 := by omega)) (fun o V_q hq => ?_)
        obtain ⟨F8, r9, rfl, rfl, hC10, hM11, b12, p13, p14, -⟩ := hq
        have hM15 : Fq 0 [(11, 7), (11, 9), (11, 10), (11, 11), (11, 13), (11, 14), (20, -5), (21, -5), (22, -5)] m tg F F8 := Fq_t (ln := ln) (ln1 := ln) hM6 Ex_r hM11 (by decide) (Or.inl rfl)
        refine Or.inr (Or.inl ⟨_, rfl, ?_⟩)
        refine jx_ld (pc_q := 31) (l_q := jSto1 L 1 (.int (i32 (r9)))) (st_q := []) rfl rfl ?_
        obtain ⟨L16, eL16⟩ : ∃ q : jL, q = jSto1 L 1 (.int (i32 (r9))) := ⟨_, rfl⟩
        rw [← eL16]
        have g17 : jGet L16 0 = some (rv (me)) := eL16 ▸ jg_nr (by decide) gL_0
        have g18 : jGet L16 2 = some (.int (i32 (n))) := eL16 ▸ jg_ne (by decide) gL_2 rfl
        have g19 : jGet L16 1 = some (.int (i32 (r9))) := eL16 ▸ jg_eq
        clear eL16
        refine jx_inc (pc_q := 34) (l_q := jSto1 L16 2 (.int (i32 (n + (1))))) (x := n) rfl g18 (by decide) rfl rfl ?_
        obtain ⟨L20, eL20⟩ : ∃ q : jL, q = jSto1 L16 2 (.int (i32 ((n + (1))))) := ⟨_, rfl⟩
        rw [← eL20]
        have g21 : jGet L20 0 = some (rv (me)) := eL20 ▸ jg_nr (by decide) g17
        have g22 : jGet L20 1 = some (.int (i32 (r9))) := eL20 ▸ jg_ne (by decide) g19 rfl
        have g23 : jGet L20 2 = some (.int (i32 ((n + (1))))) := eL20 ▸ jg_eq
        clear eL20
        refine jx_go (tg := 4) rfl rfl ?_
        exact ih _ (by omega) L20 F8 (r9) ((n + (1))) rfl g21 g22 g23 hC10 hM15 (by omega) (by omega) (by omega) (by omega) (by omega)
set_option maxRecDepth 20000 in
set_option maxHeartbeats 4000000 in
theorem k_LScanner_scan {X : jX} {dd : Nat} {R : Nat → jC} {m : Nat} {tg ln : Int → Int} {F : Int → Int → Int} {me : Int} (hd : 6 ≤ dd) (hC : HC 0 m tg ln F) (o_me : own m me) (t_me : tg me = 11) : wk X dd 211 [rv me] (cV R m tg ln F) (fun o V_q => ∃ (F_q : Int → Int → Int), V_q = cV R m tg ln F_q ∧ o = .inl none ∧ HC 0 m tg ln F_q ∧ Fq 0 [(11, 7), (11, 9), (11, 10), (11, 11), (11, 13), (11, 14), (20, -5), (21, -5), (22, -5)] m tg F F_q ∧ True) := by
  obtain ⟨d, rfl⟩ : ∃ d, dd = d + 1 := ⟨dd - 1, by omega⟩
  refine wk_of (e := jm211) rfl (by rw [jS_r, jS_0]; exact Nat.le_of_ble_eq_true rfl) ?_
  rw [la_r, la_0]
  show wj X d jm211 (0, [(0, rv (me))], [], cV R m tg ln F) _
  have hM0 : Fq 0 [(11, 7), (11, 9), (11, 10), (11, 11), (11, 13), (11, 14), (20, -5), (21, -5), (22, -5)] m tg F F := Fq_r
  obtain ⟨L0, eL0⟩ : ∃ q : jL, q = [(0, rv (me))] := ⟨_, rfl⟩
  rw [← eL0]
  have g24 : jGet L0 0 = some (rv (me)) := eL0 ▸ (rfl : jGet [(0, rv (me))] 0 = some (rv (me)))
  clear eL0
  refine jx_ar (pc_q := 1) (st_q := [.int (i32 (0))]) rfl rfl rfl rfl ?_
  refine jx_ld (pc_q := 2) (l_q := jSto1 L0 1 (.int (i32 (0)))) (st_q := []) rfl rfl ?_
  obtain ⟨L25, eL25⟩ : ∃ q : jL, q = jSto1 L0 1 (.int (i32 (0))) := ⟨_, rfl⟩
  rw [← eL25]
  have g26 : jGet L25 0 = some (rv (me)) := eL25 ▸ jg_nr (by decide) g24
  have g27 : jGet L25 1 = some (.int (i32 (0))) := eL25 ▸ jg_eq
  clear eL25
  refine jx_ar (pc_q := 3) (st_q := [.int (i32 (0))]) rfl rfl rfl rfl ?_
  refine jx_ld (pc_q := 4) (l_q := jSto1 L25 2 (.int (i32 (0)))) (st_q := []) rfl rfl ?_
  obtain ⟨L28, eL28⟩ : ∃ q : jL, q = jSto1 L25 2 (.int (i32 (0))) := ⟨_, rfl⟩
  rw [← eL28]
  have g29 : jGet L28 0 = some (rv (me)) := eL28 ▸ jg_nr (by decide) g26
  have g30 : jGet L28 1 = some (.int (i32 (0))) := eL28 ▸ jg_ne (by decide) g27 rfl
  have g31 : jGet L28 2 = some (.int (i32 (0))) := eL28 ▸ jg_eq
  clear eL28
  exact k_LScanner_scan_at_4 (X := X) (d := d) (R := R) (m := m) (tg := tg) (ln := ln) (F := F) (me := me) (hd := hd) (hC := hC) (o_me := o_me) (t_me := t_me) _ L28 F (0) (0) rfl g29 g30 g31 hC hM0 (by omega) (by omega) (by omega) (by omega) (by omega)
