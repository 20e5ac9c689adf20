set_option maxRecDepth 20000 in
set_option maxHeartbeats 4000000 in
theorem k_LParser_init {X : jX} {dd : Nat} {R : Nat → jC} {m : Nat} {tg ln : Int → Int} {F : Int → Int → Int} {me pr inn : Int} (hd : 1 ≤ dd) (hC : HC me m tg ln F) (o_me : own m me) (t_me : tg me = 9) (o_pr : own m pr) (t_pr : tg pr = 10) (o_inn : own m inn) (t_inn : tg inn = 11) (z_me : ∀ i, F me i = 0) : wk X dd 159 [rv me, rv pr, rv inn] (cV R m tg ln F) (fun o V_q => ∃ (F_q : Int → Int → Int), V_q = cV R m tg ln F_q ∧ o = .inl none ∧ HC 0 m tg ln F_q ∧ Fq me [] m tg F F_q ∧ (F_q me (0 : Int) = pr) ∧ (F_q me (1 : Int) = inn) ∧ (F_q me (2 : Int) = 0) ∧ (F_q me (3 : Int) = 0) ∧ True) := by
  obtain ⟨d, rfl⟩ : ∃ d, dd = d + 1 := ⟨dd - 1, by omega⟩
  refine wk_of (e := jm159) rfl (by rw [jS_r, jS_r, jS_r, jS_0]; exact Nat.le_of_ble_eq_true rfl) ?_
  rw [la_r, la_r, la_r, la_0]
  show wj X d jm159 (0, [(0, rv (me)), (1, rv (pr)), (2, rv (inn))], [], cV R m tg ln F) _
  have hM0 : Fq me [] m tg F F := Fq_r
  obtain ⟨L0, eL0⟩ : ∃ q : jL, q = [(0, rv (me)), (1, rv (pr)), (2, rv (inn))] := ⟨_, rfl⟩
  rw [← eL0]
  have g1 : jGet L0 0 = some (rv (me)) := eL0 ▸ (rfl : jGet [(0, rv (me)), (1, rv (pr)), (2, rv (inn))] 0 = some (rv (me)))
  have g2 : jGet L0 1 = some (rv (pr)) := eL0 ▸ (rfl : jGet [(0, rv (me)), (1, rv (pr)), (2, rv (inn))] 1 = some (rv (pr)))
  have g3 : jGet L0 2 = some (rv (inn)) := eL0 ▸ (rfl : jGet [(0, rv (me)), (1, rv (pr)), (2, rv (inn))] 2 = some (rv (inn)))
  clear eL0
  refine jx_ld (pc_q := 1) (l_q := L0) (st_q := [rv (me)]) rfl (jl_rvn g1) ?_
  refine cx_ob (pc_q := 4) rfl rfl o_me.1 (Nat.le_of_ble_eq_true rfl) rfl ?_
  refine jx_ld (pc_q := 5) (l_q := L0) (st_q := [rv (me)]) rfl (jl_rvn g1) ?_
  refine jx_ld (pc_q := 6) (l_q := L0) (st_q := [rv (pr), rv (me)]) rfl (jl_rvn g2) ?_
  refine cx_po (pc_q := 9) (c := 8) (q := 0) (qi := (0 : Int)) (z := pr) rfl rfl (by decide) (by decide) rfl rfl rfl (by decide) rfl o_me t_me rfl ?_
  obtain ⟨F4, eF4⟩ : ∃ q, q = uF F (me) (0 : Int) (pr) := ⟨_, rfl⟩
  rw [← eF4]
  have hC5 : HC me m tg ln F4 := by rw [eF4]; exact HC_fn (c := 8) (q := 0) hC t_me (by decide) rfl ⟨o_pr, t_pr⟩ (fun _ => by omega) (fun _ => by omega) ⟨fun w => absurd w (by decide), fun w => absurd w (by decide)⟩
  have hM6 : Fq me [] m tg F F4 := by rw [eF4]; exact Fq_x hM0 (Or.inl rfl)
  refine jx_ld (pc_q := 10) (l_q := L0) (st_q := [rv (me)]) rfl (jl_rvn g1) ?_
  refine jx_ld (pc_q := 11) (l_q := L0) (st_q := [rv (inn), rv (me)]) rfl (jl_rvn g3) ?_
  refine cx_po (pc_q := 14) (c := 8) (q := 1) (qi := (1 : Int)) (z := inn) rfl rfl (by decide) (by decide) rfl rfl rfl (by decide) rfl o_me t_me rfl ?_
  obtain ⟨F7, eF7⟩ : ∃ q, q = uF F4 (me) (1 : Int) (inn) := ⟨_, rfl⟩
  rw [← eF7]
  have hC8 : HC me m tg ln F7 := by rw [eF7]; exact HC_fn (c := 8) (q := 1) hC5 t_me (by decide) rfl ⟨o_inn, t_inn⟩ (fun _ => by omega) (fun _ => by omega) ⟨fun w => absurd w (by decide), fun w => absurd w (by decide)⟩
  have hM9 : Fq me [] m tg F F7 := by rw [eF7]; exact Fq_x hM6 (Or.inl rfl)
  refine jx_rt (v := none) rfl rfl rfl rfl rfl rfl ?_
  have hC10 : HC 0 m tg ln F7 := by
    refine HC_fin hC8 (fun c_q q e hq h3 => ?_) ⟨fun w => ?_, fun w => ?_⟩
    · have ec : c_q = 8 := by rw [t_me] at e; omega
      subst ec
      have hq2 : q < 4 := hq
      have hq3 : q = 0 ∨ q = 1 ∨ q = 2 ∨ q = 3 := (by decide : ∀ k : Fin 4, k.1 = 0 ∨ k.1 = 1 ∨ k.1 = 2 ∨ k.1 = 3) ⟨q, hq2⟩
      rcases hq3 with rfl | rfl | rfl | rfl
      · rw [show F7 (me) ((0 : Nat) : Int) = pr from ((show F7 (me) (0 : Int) = F4 (me) (0 : Int) from by rw [eF7]; exact uF_j (by decide)).trans (show F4 (me) (0 : Int) = pr from by rw [eF4]; exact uF_e))]; exact own_z o_pr
      · rw [show F7 (me) ((1 : Nat) : Int) = inn from (show F7 (me) (1 : Int) = inn from by rw [eF7]; exact uF_e)]; exact own_z o_inn
      · exact absurd h3 (by decide)
      · exact absurd h3 (by decide)
    · exact absurd (t_me.symm.trans w) (by decide)
    · exact absurd (t_me.symm.trans w) (by decide)
  have q11 : F7 (me) (0 : Int) = pr := ((show F7 (me) (0 : Int) = F4 (me) (0 : Int) from by rw [eF7]; exact uF_j (by decide)).trans (show F4 (me) (0 : Int) = pr from by rw [eF4]; exact uF_e))
  have q12 : F7 (me) (1 : Int) = inn := (show F7 (me) (1 : Int) = inn from by rw [eF7]; exact uF_e)
  have q13 : F7 (me) (2 : Int) = 0 := ((show F7 (me) (2 : Int) = F4 (me) (2 : Int) from by rw [eF7]; exact uF_j (by decide)).trans ((show F4 (me) (2 : Int) = F (me) (2 : Int) from by rw [eF4]; exact uF_j (by decide)).trans (show F (me) (2 : Int) = 0 from z_me _)))
  have q14 : F7 (me) (3 : Int) = 0 := ((show F7 (me) (3 : Int) = F4 (me) (3 : Int) from by rw [eF7]; exact uF_j (by decide)).trans ((show F4 (me) (3 : Int) = F (me) (3 : Int) from by rw [eF4]; exact uF_j (by decide)).trans (show F (me) (3 : Int) = 0 from z_me _)))
  exact ⟨F7, rfl, rfl, hC10, hM9, by omega, by omega, by omega, by omega, trivial⟩
set_option maxRecDepth 20000 in
set_option maxHeartbeats 4000000 in
theorem k_LU_store {X : jX} {dd : Nat} {R : Nat → jC} {u : Int} {m : Nat} {tg ln : Int → Int} {F : Int → Int → Int} {mk aT fu bi : Int} (hd : 1 ≤ dd) (hC : HC u m tg ln F) (o_mk : own m mk) (t_mk : tg mk = 20) (s_mk : F mk (-1) = 0) (h_aT : (-2147483648 : Int) ≤ aT ∧ aT ≤ 2147483647) (h_fu : (-2147483648 : Int) ≤ fu ∧ fu ≤ 2147483647) (h_bi : (-2147483648 : Int) ≤ bi ∧ bi ≤ 2147483647) : wk X dd 56 [rv mk, .int (i32 aT), .int (i32 fu), .int (i32 bi)] (cV R m tg ln F) (fun o V_q => ∃ (F_q : Int → Int → Int), V_q = cV R m tg ln F_q ∧ o = .inl none ∧ HC u m tg ln F_q ∧ Fq 0 [(20, -5)] m tg F F_q ∧ True) := by
  obtain ⟨d, rfl⟩ : ∃ d, dd = d + 1 := ⟨dd - 1, by omega⟩
  refine wk_of (e := jm56) rfl (by rw [jS_r, jS_i, jS_i, jS_i, jS_0]; exact Nat.le_of_ble_eq_true rfl) ?_
  rw [la_r, la_i, la_i, la_i, la_0]
  show wj X d jm56 (0, [(0, rv (mk)), (1, .int (i32 (aT))), (2, .int (i32 (fu))), (3, .int (i32 (bi)))], [], cV R m tg ln F) _
  have hM0 : Fq 0 [(20, -5)] m tg F F := Fq_r
  obtain ⟨L0, eL0⟩ : ∃ q : jL, q = [(0, rv (mk)), (1, .int (i32 (aT))), (2, .int (i32 (fu))), (3, .int (i32 (bi)))] := ⟨_, rfl⟩
  rw [← eL0]
  have g1 : jGet L0 0 = some (rv (mk)) := eL0 ▸ (rfl : jGet [(0, rv (mk)), (1, .int (i32 (aT))), (2, .int (i32 (fu))), (3, .int (i32 (bi)))] 0 = some (rv (mk)))
  have g2 : jGet L0 1 = some (.int (i32 (aT))) := eL0 ▸ (rfl : jGet [(0, rv (mk)), (1, .int (i32 (aT))), (2, .int (i32 (fu))), (3, .int (i32 (bi)))] 1 = some (.int (i32 (aT))))
  have g3 : jGet L0 2 = some (.int (i32 (fu))) := eL0 ▸ (rfl : jGet [(0, rv (mk)), (1, .int (i32 (aT))), (2, .int (i32 (fu))), (3, .int (i32 (bi)))] 2 = some (.int (i32 (fu))))
  have g4 : jGet L0 3 = some (.int (i32 (bi))) := eL0 ▸ (rfl : jGet [(0, rv (mk)), (1, .int (i32 (aT))), (2, .int (i32 (fu))), (3, .int (i32 (bi)))] 3 = some (.int (i32 (bi))))
  clear eL0
  refine jx_ld (pc_q := 1) (l_q := L0) (st_q := [.int (i32 (aT))]) rfl (jl_iloadn g2) ?_
  refine jx_if_lt (pc_q := 4) (tg := 22) rfl rfl rfl (by omega) (by omega) (fun h5 => ?_) (fun h5 => ?_)
  · have _q := h5
    refine jx_rt (v := none) rfl rfl rfl rfl rfl rfl ?_
    exact ⟨F, rfl, rfl, hC, hM0, trivial⟩
  · have _q := h5
    refine jx_ld (pc_q := 5) (l_q := L0) (st_q := [.int (i32 (aT))]) rfl (jl_iloadn g2) ?_
    refine jx_ld (pc_q := 6) (l_q := L0) (st_q := [rv (mk), .int (i32 (aT))]) rfl (jl_rvn g1) ?_
    have b6 := HC_l hC o_mk t_mk (by decide)
    refine cx_len (pc_q := 7) rfl rfl o_mk (by rw [t_mk]; decide) (by omega) ?_
    refine jx_icmp_ge (pc_q := 10) (tg := 22) rfl rfl rfl (by omega) (by omega) (by omega) (by omega) (fun h7 => ?_) (fun h7 => ?_)
    · have _q := h7
      refine jx_rt (v := none) rfl rfl rfl rfl rfl rfl ?_
      exact ⟨F, rfl, rfl, hC, hM0, trivial⟩
    · have _q := h7
      refine jx_ld (pc_q := 11) (l_q := L0) (st_q := [rv (mk)]) rfl (jl_rvn g1) ?_
      refine jx_ld (pc_q := 12) (l_q := L0) (st_q := [.int (i32 (aT)), rv (mk)]) rfl (jl_iloadn g2) ?_
      refine jx_ld (pc_q := 13) (l_q := L0) (st_q := [.int (i32 (fu)), .int (i32 (aT)), rv (mk)]) rfl (jl_iloadn g3) ?_
      refine jx_ar (pc_q := 14) (st_q := [.int (i32 (4)), .int (i32 (fu)), .int (i32 (aT)), rv (mk)]) rfl rfl rfl rfl ?_
      refine jx_shl (pc_q := 15) rfl rfl ?_
      obtain ⟨z8, ez8⟩ : ∃ q, q = (i32 (fu) <<< (i32 (4) &&& 31)).toInt := ⟨_, rfl⟩
      rw [← ez8]
      have bz8 : (-2147483648 : Int) ≤ z8 ∧ z8 ≤ 2147483647 := ez8 ▸ i32_rg _
      clear ez8
      refine jx_ld (pc_q := 16) (l_q := L0) (st_q := [.int (i32 (bi)), .int (i32 (z8)), .int (i32 (aT)), rv (mk)]) rfl (jl_iloadn g4) ?_
      refine jx_ar (pc_q := 18) (st_q := [.int (i32 (15)), .int (i32 (bi)), .int (i32 (z8)), .int (i32 (aT)), rv (mk)]) rfl rfl rfl rfl ?_
      refine jx_and (pc_q := 19) rfl rfl ?_
      obtain ⟨z9, ez9⟩ : ∃ q, q = (i32 (bi) &&& i32 (15)).toInt := ⟨_, rfl⟩
      rw [← ez9]
      have bz9 : (-2147483648 : Int) ≤ z9 ∧ z9 ≤ 2147483647 := ez9 ▸ i32_rg _
      have cz9 : 0 ≤ z9 ∧ z9 ≤ 15 := ez9 ▸ and_le (by decide) (by decide)
      clear ez9
      refine jx_or (pc_q := 20) rfl rfl ?_
      obtain ⟨z10, ez10⟩ : ∃ q, q = (i32 (z8) ||| i32 (z9)).toInt := ⟨_, rfl⟩
      rw [← ez10]
      have bz10 : (-2147483648 : Int) ≤ z10 ∧ z10 ≤ 2147483647 := ez10 ▸ i32_rg _
      clear ez10
      refine cx_i2b (pc_q := 21) rfl rfl (fun r11 hr11 kr11 => ?_)
      refine cx_bas2 (pc_q := 22) (z := aT) (y := r11) rfl rfl o_mk t_mk (by omega) (by omega) (by omega) (fun w12 hw12 kw12 => ?_)
      have qw12 : w12 = r11 := kw12 (by omega) (by omega)
      obtain ⟨F13, eF13⟩ : ∃ q, q = uF F (mk) (aT) (w12) := ⟨_, rfl⟩
      rw [← eF13]
      have hC14 : HC u m tg ln F13 := by rw [eF13]; exact HC_pi hC o_mk t_mk (by decide) (by omega) (by rw [s_mk]; exact ⟨(by show (-2147483648 : Int) ≤ _; omega), (by show _ ≤ (2147483647 : Int); omega)⟩)
      have hM15 : Fq 0 [(20, -5)] m tg F F13 := by rw [eF13]; exact Fq_p hM0 t_mk (fun _ => rfl) (inL_a rfl (by omega) rfl)
      refine jx_rt (v := none) rfl rfl rfl rfl rfl rfl ?_
      exact ⟨F13, rfl, rfl, hC14, hM15, trivial⟩
set_option maxRecDepth 20000 in
set_option maxHeartbeats 4000000 in
theorem k_LU_placeOf {X : jX} {dd : Nat} {R : Nat → jC} {u : Int} {m : Nat} {tg ln : Int → Int} {F : Int → Int → Int} {me lb : Int} (hd : 1 ≤ dd) (hC : HC u m tg ln F) (o_me : own m me) (t_me : tg me = 2) (h_lb : (-2147483648 : Int) ≤ lb ∧ lb ≤ 2147483647) (p_0 : me ≠ u) : wk X dd 51 [rv me, .int (i32 lb)] (cV R m tg ln F) (fun o V_q => ∃ (r : Int), V_q = cV R m tg ln F ∧ o = .inl (some (.int (i32 r))) ∧ (-2147483648 ≤ r ∧ r ≤ 2147483647) ∧ True) := by
  obtain ⟨d, rfl⟩ : ∃ d, dd = d + 1 := ⟨dd - 1, by omega⟩
  refine wk_of (e := jm51) rfl (by rw [jS_r, jS_i, jS_0]; exact Nat.le_of_ble_eq_true rfl) ?_
  rw [la_r, la_i, la_0]
  show wj X d jm51 (0, [(0, rv (me)), (1, .int (i32 (lb)))], [], cV R m tg ln F) _
  obtain ⟨L0, eL0⟩ : ∃ q : jL, q = [(0, rv (me)), (1, .int (i32 (lb)))] := ⟨_, rfl⟩
  rw [← eL0]
  have g1 : jGet L0 0 = some (rv (me)) := eL0 ▸ (rfl : jGet [(0, rv (me)), (1, .int (i32 (lb)))] 0 = some (rv (me)))
  have g2 : jGet L0 1 = some (.int (i32 (lb))) := eL0 ▸ (rfl : jGet [(0, rv (me)), (1, .int (i32 (lb)))] 1 = some (.int (i32 (lb))))
  clear eL0
  refine jx_ld (pc_q := 1) (l_q := L0) (st_q := [.int (i32 (lb))]) rfl (jl_iloadn g2) ?_
  refine jx_if_lt (pc_q := 4) (tg := 22) rfl rfl rfl (by omega) (by omega) (fun h3 => ?_) (fun h3 => ?_)
  · have _q := h3
    refine jx_ar (pc_q := 23) (st_q := [.int (i32 (0))]) rfl rfl rfl rfl ?_
    refine jx_ld (pc_q := 24) (l_q := jSto1 L0 2 (.int (i32 (0)))) (st_q := []) rfl rfl ?_
    obtain ⟨L4, eL4⟩ : ∃ q : jL, q = jSto1 L0 2 (.int (i32 (0))) := ⟨_, rfl⟩
    rw [← eL4]
    have g5 : jGet L4 0 = some (rv (me)) := eL4 ▸ jg_nr (by decide) g1
    have g6 : jGet L4 1 = some (.int (i32 (lb))) := eL4 ▸ jg_ne (by decide) g2 rfl
    have g7 : jGet L4 2 = some (.int (i32 (0))) := eL4 ▸ jg_eq
    clear eL4
    refine jx_ld (pc_q := 25) (l_q := L4) (st_q := [.int (i32 (0))]) rfl (jl_iloadn g7) ?_
    refine jx_if_lt (pc_q := 28) (tg := 46) rfl rfl rfl (by decide) (by decide) (fun h8 => ?_) (fun h8 => ?_)
    · have _q := h8
      exact absurd h8 (by omega)
    · have _q := h8
      refine jx_ld (pc_q := 29) (l_q := L4) (st_q := [.int (i32 (0))]) rfl (jl_iloadn g7) ?_
      refine jx_ld (pc_q := 30) (l_q := L4) (st_q := [rv (me), .int (i32 (0))]) rfl (jl_rvn g5) ?_
      refine cx_gr (pc_q := 33) (c := 1) (q := 5) (v := F (me) (5 : Int)) rfl rfl (by decide) (by decide) rfl rfl o_me t_me rfl ?_
      have y9 : own m (F (me) (5 : Int)) ∧ tg (F (me) (5 : Int)) = 21 ∧ ((6001 : Int) ≠ 0 → ln (F (me) (5 : Int)) = 6001) := by have z := HC_n (c := 1) (q := 5) hC o_me t_me p_0 (by decide) rfl; rw [show F (me) ((5 : Nat) : Int) = F (me) (5 : Int) from rfl] at z; exact ⟨z.1, z.2.1, z.2.2.1⟩
      have ly9 : ln (F (me) (5 : Int)) = 6001 := y9.2.2 (by decide)
      have b10 := HC_l hC y9.1 y9.2.1 (by decide)
      refine cx_len (pc_q := 34) rfl rfl y9.1 (by rw [y9.2.1]; decide) (by omega) ?_
      refine jx_icmp_ge (pc_q := 37) (tg := 46) rfl rfl rfl (by decide) (by decide) (by omega) (by omega) (fun h11 => ?_) (fun h11 => ?_)
      · have _q := h11
        refine jx_ar (pc_q := 47) (st_q := [.int (i32 (0))]) rfl rfl rfl rfl ?_
        refine jx_rt (v := some (.int (i32 (0)))) rfl rfl rfl rfl rfl rfl ?_
        exact ⟨(0), rfl, rfl, by omega, trivial⟩
      · have _q := h11
        refine jx_ld (pc_q := 38) (l_q := L4) (st_q := [rv (me)]) rfl (jl_rvn g5) ?_
        refine cx_gr (pc_q := 41) (c := 1) (q := 5) (v := F (me) (5 : Int)) rfl rfl (by decide) (by decide) rfl rfl o_me t_me rfl ?_
        refine jx_ld (pc_q := 42) (l_q := L4) (st_q := [.int (i32 (0)), rv (F (me) (5 : Int))]) rfl (jl_iloadn g7) ?_
        refine cx_ial (pc_q := 43) (z := 0) rfl rfl y9.1 y9.2.1 (by omega) (by omega) (by omega) ?_
        have b12 : (0 : Int) ≤ F (F (me) (5 : Int)) (0 : Int) ∧ F (F (me) (5 : Int)) (0 : Int) ≤ 1000000 := by have z := HC_e (j := 0) hC y9.1 (by rw [y9.2.1]; decide) (by omega); rw [(show F (F (me) (5 : Int)) (-1) = 2 by have z := HC_n (c := 1) (q := 5) hC o_me t_me p_0 (by decide) rfl; rw [show F (me) ((5 : Nat) : Int) = F (me) (5 : Int) from rfl] at z; exact z.2.2.2 (by decide))] at z; exact z
        refine jx_go (tg := 47) rfl rfl ?_
        refine jx_rt (v := some (.int (i32 (F (F (me) (5 : Int)) (0 : Int))))) rfl rfl rfl rfl rfl rfl ?_
        exact ⟨(F (F (me) (5 : Int)) (0 : Int)), rfl, rfl, by omega, trivial⟩
  · have _q := h3
    refine jx_ld (pc_q := 5) (l_q := L0) (st_q := [.int (i32 (lb))]) rfl (jl_iloadn g2) ?_
    refine jx_ld (pc_q := 6) (l_q := L0) (st_q := [rv (me), .int (i32 (lb))]) rfl (jl_rvn g1) ?_
    refine cx_gr (pc_q := 9) (c := 1) (q := 6) (v := F (me) (6 : Int)) rfl rfl (by decide) (by decide) rfl rfl o_me t_me rfl ?_
    have y13 : own m (F (me) (6 : Int)) ∧ tg (F (me) (6 : Int)) = 21 ∧ ((6000 : Int) ≠ 0 → ln (F (me) (6 : Int)) = 6000) := by have z := HC_n (c := 1) (q := 6) hC o_me t_me p_0 (by decide) rfl; rw [show F (me) ((6 : Nat) : Int) = F (me) (6 : Int) from rfl] at z; exact ⟨z.1, z.2.1, z.2.2.1⟩
    have ly13 : ln (F (me) (6 : Int)) = 6000 := y13.2.2 (by decide)
    have b14 := HC_l hC y13.1 y13.2.1 (by decide)
    refine cx_len (pc_q := 10) rfl rfl y13.1 (by rw [y13.2.1]; decide) (by omega) ?_
    refine jx_icmp_ge (pc_q := 13) (tg := 22) rfl rfl rfl (by omega) (by omega) (by omega) (by omega) (fun h15 => ?_) (fun h15 => ?_)
    · have _q := h15
      refine jx_ar (pc_q := 23) (st_q := [.int (i32 (0))]) rfl rfl rfl rfl ?_
      refine jx_ld (pc_q := 24) (l_q := jSto1 L0 2 (.int (i32 (0)))) (st_q := []) rfl rfl ?_
      obtain ⟨L16, eL16⟩ : ∃ q : jL, q = jSto1 L0 2 (.int (i32 (0))) := ⟨_, rfl⟩
      rw [← eL16]
      have g17 : jGet L16 0 = some (rv (me)) := eL16 ▸ jg_nr (by decide) g1
      have g18 : jGet L16 1 = some (.int (i32 (lb))) := eL16 ▸ jg_ne (by decide) g2 rfl
      have g19 : jGet L16 2 = some (.int (i32 (0))) := eL16 ▸ jg_eq
      clear eL16
      refine jx_ld (pc_q := 25) (l_q := L16) (st_q := [.int (i32 (0))]) rfl (jl_iloadn g19) ?_
      refine jx_if_lt (pc_q := 28) (tg := 46) rfl rfl rfl (by decide) (by decide) (fun h20 => ?_) (fun h20 => ?_)
      · have _q := h20
        exact absurd h20 (by omega)
      · have _q := h20
        refine jx_ld (pc_q := 29) (l_q := L16) (st_q := [.int (i32 (0))]) rfl (jl_iloadn g19) ?_
        refine jx_ld (pc_q := 30) (l_q := L16) (st_q := [rv (me), .int (i32 (0))]) rfl (jl_rvn g17) ?_
        refine cx_gr (pc_q := 33) (c := 1) (q := 5) (v := F (me) (5 : Int)) rfl rfl (by decide) (by decide) rfl rfl o_me t_me rfl ?_
        have y21 : own m (F (me) (5 : Int)) ∧ tg (F (me) (5 : Int)) = 21 ∧ ((6001 : Int) ≠ 0 → ln (F (me) (5 : Int)) = 6001) := by have z := HC_n (c := 1) (q := 5) hC o_me t_me p_0 (by decide) rfl; rw [show F (me) ((5 : Nat) : Int) = F (me) (5 : Int) from rfl] at z; exact ⟨z.1, z.2.1, z.2.2.1⟩
        have ly21 : ln (F (me) (5 : Int)) = 6001 := y21.2.2 (by decide)
        have b22 := HC_l hC y21.1 y21.2.1 (by decide)
        refine cx_len (pc_q := 34) rfl rfl y21.1 (by rw [y21.2.1]; decide) (by omega) ?_
        refine jx_icmp_ge (pc_q := 37) (tg := 46) rfl rfl rfl (by decide) (by decide) (by omega) (by omega) (fun h23 => ?_) (fun h23 => ?_)
        · have _q := h23
          refine jx_ar (pc_q := 47) (st_q := [.int (i32 (0))]) rfl rfl rfl rfl ?_
          refine jx_rt (v := some (.int (i32 (0)))) rfl rfl rfl rfl rfl rfl ?_
          exact ⟨(0), rfl, rfl, by omega, trivial⟩
        · have _q := h23
          refine jx_ld (pc_q := 38) (l_q := L16) (st_q := [rv (me)]) rfl (jl_rvn g17) ?_
          refine cx_gr (pc_q := 41) (c := 1) (q := 5) (v := F (me) (5 : Int)) rfl rfl (by decide) (by decide) rfl rfl o_me t_me rfl ?_
          refine jx_ld (pc_q := 42) (l_q := L16) (st_q := [.int (i32 (0)), rv (F (me) (5 : Int))]) rfl (jl_iloadn g19) ?_
          refine cx_ial (pc_q := 43) (z := 0) rfl rfl y21.1 y21.2.1 (by omega) (by omega) (by omega) ?_
          have b24 : (0 : Int) ≤ F (F (me) (5 : Int)) (0 : Int) ∧ F (F (me) (5 : Int)) (0 : Int) ≤ 1000000 := by have z := HC_e (j := 0) hC y21.1 (by rw [y21.2.1]; decide) (by omega); rw [(show F (F (me) (5 : Int)) (-1) = 2 by have z := HC_n (c := 1) (q := 5) hC o_me t_me p_0 (by decide) rfl; rw [show F (me) ((5 : Nat) : Int) = F (me) (5 : Int) from rfl] at z; exact z.2.2.2 (by decide))] at z; exact z
          refine jx_go (tg := 47) rfl rfl ?_
          refine jx_rt (v := some (.int (i32 (F (F (me) (5 : Int)) (0 : Int))))) rfl rfl rfl rfl rfl rfl ?_
          exact ⟨(F (F (me) (5 : Int)) (0 : Int)), rfl, rfl, by omega, trivial⟩
    · have _q := h15
      refine jx_ld (pc_q := 14) (l_q := L0) (st_q := [rv (me)]) rfl (jl_rvn g1) ?_
      refine cx_gr (pc_q := 17) (c := 1) (q := 6) (v := F (me) (6 : Int)) rfl rfl (by decide) (by decide) rfl rfl o_me t_me rfl ?_
      refine jx_ld (pc_q := 18) (l_q := L0) (st_q := [.int (i32 (lb)), rv (F (me) (6 : Int))]) rfl (jl_iloadn g2) ?_
      refine cx_ial (pc_q := 19) (z := lb) rfl rfl y13.1 y13.2.1 (by omega) (by omega) (by omega) ?_
      have b25 : (-2147483648 : Int) ≤ F (F (me) (6 : Int)) (lb) ∧ F (F (me) (6 : Int)) (lb) ≤ 2147483647 := by have z := HC_ei (j := lb) hC y13.1 (by rw [y13.2.1]; decide) (by omega); exact z
      refine jx_go (tg := 23) rfl rfl ?_
      refine jx_ld (pc_q := 24) (l_q := jSto1 L0 2 (.int (i32 (F (F (me) (6 : Int)) (lb))))) (st_q := []) rfl rfl ?_
      obtain ⟨L26, eL26⟩ : ∃ q : jL, q = jSto1 L0 2 (.int (i32 (F (F (me) (6 : Int)) (lb)))) := ⟨_, rfl⟩
      rw [← eL26]
      have g27 : jGet L26 0 = some (rv (me)) := eL26 ▸ jg_nr (by decide) g1
      have g28 : jGet L26 1 = some (.int (i32 (lb))) := eL26 ▸ jg_ne (by decide) g2 rfl
      have g29 : jGet L26 2 = some (.int (i32 (F (F (me) (6 : Int)) (lb)))) := eL26 ▸ jg_eq
      clear eL26
      refine jx_ld (pc_q := 25) (l_q := L26) (st_q := [.int (i32 (F (F (me) (6 : Int)) (lb)))]) rfl (jl_iloadn g29) ?_
      refine jx_if_lt (pc_q := 28) (tg := 46) rfl rfl rfl (by omega) (by omega) (fun h30 => ?_) (fun h30 => ?_)
      · have _q := h30
        refine jx_ar (pc_q := 47) (st_q := [.int (i32 (0))]) rfl rfl rfl rfl ?_
        refine jx_rt (v := some (.int (i32 (0)))) rfl rfl rfl rfl rfl rfl ?_
        exact ⟨(0), rfl, rfl, by omega, trivial⟩
      · have _q := h30
        refine jx_ld (pc_q := 29) (l_q := L26) (st_q := [.int (i32 (F (F (me) (6 : Int)) (lb)))]) rfl (jl_iloadn g29) ?_
        refine jx_ld (pc_q := 30) (l_q := L26) (st_q := [rv (me), .int (i32 (F (F (me) (6 : Int)) (lb)))]) rfl (jl_rvn g27) ?_
        refine cx_gr (pc_q := 33) (c := 1) (q := 5) (v := F (me) (5 : Int)) rfl rfl (by decide) (by decide) rfl rfl o_me t_me rfl ?_
        have y31 : own m (F (me) (5 : Int)) ∧ tg (F (me) (5 : Int)) = 21 ∧ ((6001 : Int) ≠ 0 → ln (F (me) (5 : Int)) = 6001) := by have z := HC_n (c := 1) (q := 5) hC o_me t_me p_0 (by decide) rfl; rw [show F (me) ((5 : Nat) : Int) = F (me) (5 : Int) from rfl] at z; exact ⟨z.1, z.2.1, z.2.2.1⟩
        have ly31 : ln (F (me) (5 : Int)) = 6001 := y31.2.2 (by decide)
        have b32 := HC_l hC y31.1 y31.2.1 (by decide)
        refine cx_len (pc_q := 34) rfl rfl y31.1 (by rw [y31.2.1]; decide) (by omega) ?_
        refine jx_icmp_ge (pc_q := 37) (tg := 46) rfl rfl rfl (by omega) (by omega) (by omega) (by omega) (fun h33 => ?_) (fun h33 => ?_)
        · have _q := h33
          refine jx_ar (pc_q := 47) (st_q := [.int (i32 (0))]) rfl rfl rfl rfl ?_
          refine jx_rt (v := some (.int (i32 (0)))) rfl rfl rfl rfl rfl rfl ?_
          exact ⟨(0), rfl, rfl, by omega, trivial⟩
        · have _q := h33
          refine jx_ld (pc_q := 38) (l_q := L26) (st_q := [rv (me)]) rfl (jl_rvn g27) ?_
          refine cx_gr (pc_q := 41) (c := 1) (q := 5) (v := F (me) (5 : Int)) rfl rfl (by decide) (by decide) rfl rfl o_me t_me rfl ?_
          refine jx_ld (pc_q := 42) (l_q := L26) (st_q := [.int (i32 (F (F (me) (6 : Int)) (lb))), rv (F (me) (5 : Int))]) rfl (jl_iloadn g29) ?_
          refine cx_ial (pc_q := 43) (z := F (F (me) (6 : Int)) (lb)) rfl rfl y31.1 y31.2.1 (by omega) (by omega) (by omega) ?_
          have b34 : (0 : Int) ≤ F (F (me) (5 : Int)) (F (F (me) (6 : Int)) (lb)) ∧ F (F (me) (5 : Int)) (F (F (me) (6 : Int)) (lb)) ≤ 1000000 := by have z := HC_e (j := F (F (me) (6 : Int)) (lb)) hC y31.1 (by rw [y31.2.1]; decide) (by omega); rw [(show F (F (me) (5 : Int)) (-1) = 2 by have z := HC_n (c := 1) (q := 5) hC o_me t_me p_0 (by decide) rfl; rw [show F (me) ((5 : Nat) : Int) = F (me) (5 : Int) from rfl] at z; exact z.2.2.2 (by decide))] at z; exact z
          refine jx_go (tg := 47) rfl rfl ?_
          refine jx_rt (v := some (.int (i32 (F (F (me) (5 : Int)) (F (F (me) (6 : Int)) (lb)))))) rfl rfl rfl rfl rfl rfl ?_
          exact ⟨(F (F (me) (5 : Int)) (F (F (me) (6 : Int)) (lb))), rfl, rfl, by omega, trivial⟩
set_option maxRecDepth 20000 in
set_option maxHeartbeats 4000000 in
theorem k_LU_start {X : jX} {dd : Nat} {R : Nat → jC} {u : Int} {m : Nat} {tg ln : Int → Int} {F : Int → Int → Int} {me : Int} (hd : 2 ≤ dd) (hC : HC u m tg ln F) (o_me : own m me) (t_me : tg me = 2) (p_0 : me ≠ u) : wk X dd 44 [rv me] (cV R m tg ln F) (fun o V_q => ∃ (r : Int), V_q = cV R m tg ln F ∧ o = .inl (some (.int (i32 r))) ∧ (-2147483648 ≤ r ∧ r ≤ 2147483647) ∧ True) := by
  obtain ⟨d, rfl⟩ : ∃ d, dd = d + 1 := ⟨dd - 1, by omega⟩
  refine wk_of (e := jm44) rfl (by rw [jS_r, jS_0]; exact Nat.le_of_ble_eq_true rfl) ?_
  rw [la_r, la_0]
  show wj X d jm44 (0, [(0, rv (me))], [], cV R m tg ln F) _
  obtain ⟨L0, eL0⟩ : ∃ q : jL, q = [(0, rv (me))] := ⟨_, rfl⟩
  rw [← eL0]
  have g1 : jGet L0 0 = some (rv (me)) := eL0 ▸ (rfl : jGet [(0, rv (me))] 0 = some (rv (me)))
  clear eL0
  refine jx_ld (pc_q := 1) (l_q := L0) (st_q := [rv (me)]) rfl (jl_rvn g1) ?_
  refine jx_ld (pc_q := 2) (l_q := L0) (st_q := [rv (me), rv (me)]) rfl (jl_rvn g1) ?_
  refine cx_gi (pc_q := 5) (c := 1) (q := 9) (v := F (me) (9 : Int)) rfl rfl (by decide) (by decide) (Or.inl rfl) rfl o_me t_me rfl ?_
  have b2 : (-2147483648 : Int) ≤ F (me) (9 : Int) ∧ F (me) (9 : Int) ≤ 2147483647 := by have z := HC_i (c := 1) (q := 9) hC o_me t_me (by decide) rfl; rw [show F (me) ((9 : Nat) : Int) = F (me) (9 : Int) from rfl] at z; exact z
  refine cx_vi (c := 1) (a := me) (st := []) (as := [.int (i32 (F (me) (9 : Int)))]) rfl rfl rfl o_me t_me (by decide) rfl ⟨rfl, rfl, (Nat.le_of_ble_eq_true rfl)⟩ rfl (k_LU_placeOf (dd := d) (R := R) (u := u) (m := m) (tg := tg) (ln := ln) (F := F) (me := me) (lb := F (me) (9 : Int)) (hd := by omega) (hC := hC) (o_me := o_me) (t_me := t_me) (h_lb := by omega) (p_0 := by omega)) (fun o V_q hq => ?_)
  obtain ⟨r3, rfl, rfl, b4, -⟩ := hq
  refine Or.inr (Or.inl ⟨_, rfl, ?_⟩)
  refine jx_rt (v := some (.int (i32 (r3)))) rfl rfl rfl rfl rfl rfl ?_
  exact ⟨(r3), rfl, rfl, by omega, trivial⟩
set_option maxRecDepth 20000 in
set_option maxHeartbeats 4000000 in
theorem k_LU_write_at_57 {X : jX} {d : Nat} {R : Nat → jC} {u : Int} {m : Nat} {tg ln : Int → Int} {F : Int → Int → Int} {me mk k : Int} (hd : 2 ≤ d + 1) (hC : HC u m tg ln F) (o_me : own m me) (t_me : tg me = 2) (o_mk : own m mk) (t_mk : tg mk = 20) (s_mk : F mk (-1) = 0) (h_k : (-2147483648 : Int) ≤ k ∧ k ≤ 2147483647) (p_0 : me ≠ u) (p_1 : 0 ≤ k) (p_2 : k < F me (7 : Int)) (p_3 : F me (7 : Int) ≤ 6000) : ∀ (mm : Nat) (L : jL) (Fx : Int → Int → Int) (la op rs aT : Int), (aT + 2).toNat = mm → jGet L 0 = some (rv (me)) → jGet L 1 = some (rv (mk)) → jGet L 2 = some (.int (i32 (k))) → jGet L 3 = some (.int (i32 la)) → jGet L 4 = some (.int (i32 op)) → jGet L 5 = some (.int (i32 rs)) → jGet L 6 = some (.int (i32 aT)) → HC u m tg ln Fx → Fq 0 [(20, -5)] m tg F Fx → ((-2147483648 : Int) ≤ la ∧ la ≤ 2147483647) → ((-2147483648 : Int) ≤ op ∧ op ≤ 2147483647) → ((-2147483648 : Int) ≤ rs ∧ rs ≤ 2147483647) → ((-2147483648 : Int) ≤ aT ∧ aT ≤ 2147483647) → (-2 ≤ aT) → wj X d jm55 (57, L, [], cV R m tg ln Fx) (fun o V_q => ∃ (F_q : Int → Int → Int), V_q = cV R m tg ln F_q ∧ o = .inl none ∧ HC u m tg ln F_q ∧ Fq 0 [(20, -5)] m tg F F_q ∧ True) := by
  intro mm
  induction mm using Nat.strongRecOn with
  | ind mm ih =>
    intro L Fx la op rs aT hmm gL_0 gL_1 gL_2 gL_3 gL_4 gL_5 gL_6 hCx hMx rx_la rx_op rx_rs rx_aT iv_0
    refine jx_ld (pc_q := 59) (l_q := L) (st_q := [.int (i32 (aT))]) rfl (jl_iload gL_6) ?_
    refine jx_ld (pc_q := 60) (l_q := L) (st_q := [rv (me), .int (i32 (aT))]) rfl (jl_rvn gL_0) ?_
    refine cx_gr (pc_q := 63) (c := 1) (q := 5) (v := F (me) (5 : Int)) rfl rfl (by decide) (by decide) rfl rfl o_me t_me (show Fx (me) (5 : Int) = F (me) (5 : Int) from hMx _ _ o_me (own_z o_me) (by rw [t_me]; rfl)) ?_
    have y1 : own m (F (me) (5 : Int)) ∧ tg (F (me) (5 : Int)) = 21 ∧ ((6001 : Int) ≠ 0 → ln (F (me) (5 : Int)) = 6001) := by have z := HC_n (c := 1) (q := 5) hCx o_me t_me p_0 (by decide) rfl; rw [show Fx (me) ((5 : Nat) : Int) = F (me) (5 : Int) from (show Fx (me) (5 : Int) = F (me) (5 : Int) from hMx _ _ o_me (own_z o_me) (by rw [t_me]; rfl))] at z; exact ⟨z.1, z.2.1, z.2.2.1⟩
    have ly1 : ln (F (me) (5 : Int)) = 6001 := y1.2.2 (by decide)
    refine jx_ld (pc_q := 64) (l_q := L) (st_q := [.int (i32 (k)), rv (F (me) (5 : Int)), .int (i32 (aT))]) rfl (jl_iloadn gL_2) ?_
    have b2 := HC_l hCx y1.1 y1.2.1 (by decide)
    refine cx_ial (pc_q := 65) (z := k) rfl rfl y1.1 y1.2.1 (by omega) (by omega) (by omega) ?_
    rw [show Fx (F (me) (5 : Int)) (k) = F (F (me) (5 : Int)) (k) from (show Fx (F (me) (5 : Int)) (k) = F (F (me) (5 : Int)) (k) from hMx _ _ y1.1 (own_z y1.1) (by rw [y1.2.1]; rfl))]
    have b3 : (0 : Int) ≤ F (F (me) (5 : Int)) (k) ∧ F (F (me) (5 : Int)) (k) ≤ 1000000 := by have z := HC_e (j := k) hCx y1.1 (by rw [y1.2.1]; decide) (by omega); rw [(show Fx (F (me) (5 : Int)) (-1) = 2 by have z := HC_n (c := 1) (q := 5) hCx o_me t_me p_0 (by decide) rfl; rw [show Fx (me) ((5 : Nat) : Int) = F (me) (5 : Int) from (show Fx (me) (5 : Int) = F (me) (5 : Int) from hMx _ _ o_me (own_z o_me) (by rw [t_me]; rfl))] at z; exact z.2.2.2 (by decide))] at z; rw [show Fx (F (me) (5 : Int)) (k) = F (F (me) (5 : Int)) (k) from (show Fx (F (me) (5 : Int)) (k) = F (F (me) (5 : Int)) (k) from hMx _ _ y1.1 (own_z y1.1) (by rw [y1.2.1]; rfl))] at z; exact z
    refine jx_icmp_lt (pc_q := 68) (tg := 107) rfl rfl rfl (by omega) (by omega) (by omega) (by omega) (fun h4 => ?_) (fun h4 => ?_)
    · have _q := h4
      refine jx_rt (v := none) rfl rfl rfl rfl rfl rfl ?_
      exact ⟨Fx, rfl, rfl, hCx, hMx, trivial⟩
    · have _q := h4
      refine jx_ld (pc_q := 69) (l_q := L) (st_q := [rv (mk)]) rfl (jl_rvn gL_1) ?_
      refine jx_ld (pc_q := 71) (l_q := L) (st_q := [.int (i32 (aT)), rv (mk)]) rfl (jl_iload gL_6) ?_
      refine jx_ld (pc_q := 73) (l_q := L) (st_q := [.int (i32 (op)), .int (i32 (aT)), rv (mk)]) rfl (jl_iload gL_4) ?_
      refine jx_if_ge (pc_q := 76) (tg := 89) rfl rfl rfl (by omega) (by omega) (fun h5 => ?_) (fun h5 => ?_)
      · have _q := h5
        refine jx_ar (pc_q := 90) (st_q := [.int (i32 (2)), .int (i32 (aT)), rv (mk)]) rfl rfl rfl rfl ?_
        refine jx_ld (pc_q := 92) (l_q := L) (st_q := [.int (i32 (rs)), .int (i32 (2)), .int (i32 (aT)), rv (mk)]) rfl (jl_iload gL_5) ?_
        refine cx_st (st := []) (as := [rv (mk), .int (i32 (aT)), .int (i32 (2)), .int (i32 (rs))]) rfl rfl rfl ⟨rfl, (Nat.le_of_ble_eq_true rfl)⟩ rfl (k_LU_store (dd := d) (R := R) (u := u) (m := m) (tg := tg) (ln := ln) (F := Fx) (mk := mk) (aT := aT) (fu := 2) (bi := rs) (hd := by omega) (hC := hCx) (o_mk := o_mk) (t_mk := t_mk) (s_mk := ((hMx _ _ o_mk (own_z o_mk) (by rw [t_mk]; rfl)).trans s_mk)) (h_aT := by omega) (h_fu := by omega) (h_bi := by omega)) (fun o V_q hq => ?_)
        obtain ⟨F6, rfl, rfl, hC7, hM8, -⟩ := hq
        have hM9 : Fq 0 [(20, -5)] m tg F F6 := Fq_t (ln := ln) (ln1 := ln) hMx Ex_r hM8 (by decide) (Or.inl rfl)
        refine Or.inl ⟨rfl, ?_⟩
        refine jx_ld (pc_q := 97) (l_q := L) (st_q := [.int (i32 (rs))]) rfl (jl_iload gL_5) ?_
        refine jx_ar (pc_q := 98) (st_q := [.int (i32 (4)), .int (i32 (rs))]) rfl rfl rfl rfl ?_
        refine jx_ushrw (pc_q := 99) rfl rfl (fun r10 hr10 => ?_)
        refine jx_ld (pc_q := 101) (l_q := jSto1 L 5 (.int (i32 (r10)))) (st_q := []) rfl rfl ?_
        obtain ⟨L11, eL11⟩ : ∃ q : jL, q = jSto1 L 5 (.int (i32 (r10))) := ⟨_, rfl⟩
        rw [← eL11]
        have g12 : jGet L11 0 = some (rv (me)) := eL11 ▸ jg_nr (by decide) gL_0
        have g13 : jGet L11 1 = some (rv (mk)) := eL11 ▸ jg_nr (by decide) gL_1
        have g14 : jGet L11 2 = some (.int (i32 (k))) := eL11 ▸ jg_ne (by decide) gL_2 rfl
        have g15 : jGet L11 3 = some (.int (i32 (la))) := eL11 ▸ jg_ne (by decide) gL_3 rfl
        have g16 : jGet L11 4 = some (.int (i32 (op))) := eL11 ▸ jg_ne (by decide) gL_4 rfl
        have g17 : jGet L11 6 = some (.int (i32 (aT))) := eL11 ▸ jg_ne (by decide) gL_6 rfl
        have g18 : jGet L11 5 = some (.int (i32 (r10))) := eL11 ▸ jg_eq
        clear eL11
        refine jx_inc (pc_q := 104) (l_q := jSto1 L11 6 (.int (i32 (aT + (-1))))) (x := aT) rfl g17 (by decide) rfl rfl ?_
        obtain ⟨L19, eL19⟩ : ∃ q : jL, q = jSto1 L11 6 (.int (i32 ((aT + (-1))))) := ⟨_, rfl⟩
        rw [← eL19]
        have g20 : jGet L19 0 = some (rv (me)) := eL19 ▸ jg_nr (by decide) g12
        have g21 : jGet L19 1 = some (rv (mk)) := eL19 ▸ jg_nr (by decide) g13
        have g22 : jGet L19 2 = some (.int (i32 (k))) := eL19 ▸ jg_ne (by decide) g14 rfl
        have g23 : jGet L19 3 = some (.int (i32 (la))) := eL19 ▸ jg_ne (by decide) g15 rfl
        have g24 : jGet L19 4 = some (.int (i32 (op))) := eL19 ▸ jg_ne (by decide) g16 rfl
        have g25 : jGet L19 5 = some (.int (i32 (r10))) := eL19 ▸ jg_ne (by decide) g18 rfl
        have g26 : jGet L19 6 = some (.int (i32 ((aT + (-1))))) := eL19 ▸ jg_eq
        clear eL19
        refine jx_go (tg := 57) rfl rfl ?_
        exact ih _ (by omega) L19 F6 (la) (op) (r10) ((aT + (-1))) rfl g20 g21 g22 g23 g24 g25 g26 hC7 hM9 (by omega) (by omega) (by omega) (by omega) (by omega)
      · have _q := h5
        refine jx_ld (pc_q := 78) (l_q := L) (st_q := [.int (i32 (aT)), .int (i32 (aT)), rv (mk)]) rfl (jl_iload gL_6) ?_
        refine jx_ld (pc_q := 79) (l_q := L) (st_q := [.int (i32 (la)), .int (i32 (aT)), .int (i32 (aT)), rv (mk)]) rfl (jl_iloadn gL_3) ?_
        refine jx_ar (pc_q := 80) (st_q := [.int (i32 (1)), .int (i32 (la)), .int (i32 (aT)), .int (i32 (aT)), rv (mk)]) rfl rfl rfl rfl ?_
        refine jx_sub (pc_q := 81) rfl rfl ?_
        obtain ⟨z27, ez27⟩ : ∃ q, q = (i32 ((la - 1))).toInt := ⟨_, rfl⟩
        have bz27 : (-2147483648 : Int) ≤ z27 ∧ z27 ≤ 2147483647 := ez27 ▸ i32_rg _
        rw [show i32 ((la - 1)) = i32 z27 by rw [ez27, i32_of]]
        clear ez27
        refine jx_icmp_ne (pc_q := 84) (tg := 89) rfl rfl rfl (by omega) (by omega) (by omega) (by omega) (fun h28 => ?_) (fun h28 => ?_)
        · have _q := h28
          refine jx_ar (pc_q := 90) (st_q := [.int (i32 (2)), .int (i32 (aT)), rv (mk)]) rfl rfl rfl rfl ?_
          refine jx_ld (pc_q := 92) (l_q := L) (st_q := [.int (i32 (rs)), .int (i32 (2)), .int (i32 (aT)), rv (mk)]) rfl (jl_iload gL_5) ?_
          refine cx_st (st := []) (as := [rv (mk), .int (i32 (aT)), .int (i32 (2)), .int (i32 (rs))]) rfl rfl rfl ⟨rfl, (Nat.le_of_ble_eq_true rfl)⟩ rfl (k_LU_store (dd := d) (R := R) (u := u) (m := m) (tg := tg) (ln := ln) (F := Fx) (mk := mk) (aT := aT) (fu := 2) (bi := rs) (hd := by omega) (hC := hCx) (o_mk := o_mk) (t_mk := t_mk) (s_mk := ((hMx _ _ o_mk (own_z o_mk) (by rw [t_mk]; rfl)).trans s_mk)) (h_aT := by omega) (h_fu := by omega) (h_bi := by omega)) (fun o V_q hq => ?_)
          obtain ⟨F29, rfl, rfl, hC30, hM31, -⟩ := hq
          have hM32 : Fq 0 [(20, -5)] m tg F F29 := Fq_t (ln := ln) (ln1 := ln) hMx Ex_r hM31 (by decide) (Or.inl rfl)
          refine Or.inl ⟨rfl, ?_⟩
          refine jx_ld (pc_q := 97) (l_q := L) (st_q := [.int (i32 (rs))]) rfl (jl_iload gL_5) ?_
          refine jx_ar (pc_q := 98) (st_q := [.int (i32 (4)), .int (i32 (rs))]) rfl rfl rfl rfl ?_
          refine jx_ushrw (pc_q := 99) rfl rfl (fun r33 hr33 => ?_)
          refine jx_ld (pc_q := 101) (l_q := jSto1 L 5 (.int (i32 (r33)))) (st_q := []) rfl rfl ?_
          obtain ⟨L34, eL34⟩ : ∃ q : jL, q = jSto1 L 5 (.int (i32 (r33))) := ⟨_, rfl⟩
          rw [← eL34]
          have g35 : jGet L34 0 = some (rv (me)) := eL34 ▸ jg_nr (by decide) gL_0
          have g36 : jGet L34 1 = some (rv (mk)) := eL34 ▸ jg_nr (by decide) gL_1
          have g37 : jGet L34 2 = some (.int (i32 (k))) := eL34 ▸ jg_ne (by decide) gL_2 rfl
          have g38 : jGet L34 3 = some (.int (i32 (la))) := eL34 ▸ jg_ne (by decide) gL_3 rfl
          have g39 : jGet L34 4 = some (.int (i32 (op))) := eL34 ▸ jg_ne (by decide) gL_4 rfl
          have g40 : jGet L34 6 = some (.int (i32 (aT))) := eL34 ▸ jg_ne (by decide) gL_6 rfl
          have g41 : jGet L34 5 = some (.int (i32 (r33))) := eL34 ▸ jg_eq
          clear eL34
          refine jx_inc (pc_q := 104) (l_q := jSto1 L34 6 (.int (i32 (aT + (-1))))) (x := aT) rfl g40 (by decide) rfl rfl ?_
          obtain ⟨L42, eL42⟩ : ∃ q : jL, q = jSto1 L34 6 (.int (i32 ((aT + (-1))))) := ⟨_, rfl⟩
          rw [← eL42]
          have g43 : jGet L42 0 = some (rv (me)) := eL42 ▸ jg_nr (by decide) g35
          have g44 : jGet L42 1 = some (rv (mk)) := eL42 ▸ jg_nr (by decide) g36
          have g45 : jGet L42 2 = some (.int (i32 (k))) := eL42 ▸ jg_ne (by decide) g37 rfl
          have g46 : jGet L42 3 = some (.int (i32 (la))) := eL42 ▸ jg_ne (by decide) g38 rfl
          have g47 : jGet L42 4 = some (.int (i32 (op))) := eL42 ▸ jg_ne (by decide) g39 rfl
          have g48 : jGet L42 5 = some (.int (i32 (r33))) := eL42 ▸ jg_ne (by decide) g41 rfl
          have g49 : jGet L42 6 = some (.int (i32 ((aT + (-1))))) := eL42 ▸ jg_eq
          clear eL42
          refine jx_go (tg := 57) rfl rfl ?_
          exact ih _ (by omega) L42 F29 (la) (op) (r33) ((aT + (-1))) rfl g43 g44 g45 g46 g47 g48 g49 hC30 hM32 (by omega) (by omega) (by omega) (by omega) (by omega)
        · have _q := h28
          refine jx_ar (pc_q := 86) (st_q := [.int (i32 (6)), .int (i32 (aT)), rv (mk)]) rfl rfl rfl rfl ?_
          refine jx_go (tg := 90) rfl rfl ?_
          refine jx_ld (pc_q := 92) (l_q := L) (st_q := [.int (i32 (rs)), .int (i32 (6)), .int (i32 (aT)), rv (mk)]) rfl (jl_iload gL_5) ?_
          refine cx_st (st := []) (as := [rv (mk), .int (i32 (aT)), .int (i32 (6)), .int (i32 (rs))]) rfl rfl rfl ⟨rfl, (Nat.le_of_ble_eq_true rfl)⟩ rfl (k_LU_store (dd := d) (R := R) (u := u) (m := m) (tg := tg) (ln := ln) (F := Fx) (mk := mk) (aT := aT) (fu := 6) (bi := rs) (hd := by omega) (hC := hCx) (o_mk := o_mk) (t_mk := t_mk) (s_mk := ((hMx _ _ o_mk (own_z o_mk) (by rw [t_mk]; rfl)).trans s_mk)) (h_aT := by omega) (h_fu := by omega) (h_bi := by omega)) (fun o V_q hq => ?_)
          obtain ⟨F50, rfl, rfl, hC51, hM52, -⟩ := hq
          have hM53 : Fq 0 [(20, -5)] m tg F F50 := Fq_t (ln := ln) (ln1 := ln) hMx Ex_r hM52 (by decide) (Or.inl rfl)
          refine Or.inl ⟨rfl, ?_⟩
          refine jx_ld (pc_q := 97) (l_q := L) (st_q := [.int (i32 (rs))]) rfl (jl_iload gL_5) ?_
          refine jx_ar (pc_q := 98) (st_q := [.int (i32 (4)), .int (i32 (rs))]) rfl rfl rfl rfl ?_
          refine jx_ushrw (pc_q := 99) rfl rfl (fun r54 hr54 => ?_)
          refine jx_ld (pc_q := 101) (l_q := jSto1 L 5 (.int (i32 (r54)))) (st_q := []) rfl rfl ?_
          obtain ⟨L55, eL55⟩ : ∃ q : jL, q = jSto1 L 5 (.int (i32 (r54))) := ⟨_, rfl⟩
          rw [← eL55]
          have g56 : jGet L55 0 = some (rv (me)) := eL55 ▸ jg_nr (by decide) gL_0
          have g57 : jGet L55 1 = some (rv (mk)) := eL55 ▸ jg_nr (by decide) gL_1
          have g58 : jGet L55 2 = some (.int (i32 (k))) := eL55 ▸ jg_ne (by decide) gL_2 rfl
          have g59 : jGet L55 3 = some (.int (i32 (la))) := eL55 ▸ jg_ne (by decide) gL_3 rfl
          have g60 : jGet L55 4 = some (.int (i32 (op))) := eL55 ▸ jg_ne (by decide) gL_4 rfl
          have g61 : jGet L55 6 = some (.int (i32 (aT))) := eL55 ▸ jg_ne (by decide) gL_6 rfl
          have g62 : jGet L55 5 = some (.int (i32 (r54))) := eL55 ▸ jg_eq
          clear eL55
          refine jx_inc (pc_q := 104) (l_q := jSto1 L55 6 (.int (i32 (aT + (-1))))) (x := aT) rfl g61 (by decide) rfl rfl ?_
          obtain ⟨L63, eL63⟩ : ∃ q : jL, q = jSto1 L55 6 (.int (i32 ((aT + (-1))))) := ⟨_, rfl⟩
          rw [← eL63]
          have g64 : jGet L63 0 = some (rv (me)) := eL63 ▸ jg_nr (by decide) g56
          have g65 : jGet L63 1 = some (rv (mk)) := eL63 ▸ jg_nr (by decide) g57
          have g66 : jGet L63 2 = some (.int (i32 (k))) := eL63 ▸ jg_ne (by decide) g58 rfl
          have g67 : jGet L63 3 = some (.int (i32 (la))) := eL63 ▸ jg_ne (by decide) g59 rfl
          have g68 : jGet L63 4 = some (.int (i32 (op))) := eL63 ▸ jg_ne (by decide) g60 rfl
          have g69 : jGet L63 5 = some (.int (i32 (r54))) := eL63 ▸ jg_ne (by decide) g62 rfl
          have g70 : jGet L63 6 = some (.int (i32 ((aT + (-1))))) := eL63 ▸ jg_eq
          clear eL63
          refine jx_go (tg := 57) rfl rfl ?_
          exact ih _ (by omega) L63 F50 (la) (op) (r54) ((aT + (-1))) rfl g64 g65 g66 g67 g68 g69 g70 hC51 hM53 (by omega) (by omega) (by omega) (by omega) (by omega)
set_option maxRecDepth 20000 in
set_option maxHeartbeats 4000000 in
theorem k_LU_write {X : jX} {dd : Nat} {R : Nat → jC} {u : Int} {m : Nat} {tg ln : Int → Int} {F : Int → Int → Int} {me mk k : Int} (hd : 2 ≤ dd) (hC : HC u m tg ln F) (o_me : own m me) (t_me : tg me = 2) (o_mk : own m mk) (t_mk : tg mk = 20) (s_mk : F mk (-1) = 0) (h_k : (-2147483648 : Int) ≤ k ∧ k ≤ 2147483647) (p_0 : me ≠ u) (p_1 : 0 ≤ k) (p_2 : k < F me (7 : Int)) (p_3 : F me (7 : Int) ≤ 6000) : wk X dd 55 [rv me, rv mk, .int (i32 k)] (cV R m tg ln F) (fun o V_q => ∃ (F_q : Int → Int → Int), V_q = cV R m tg ln F_q ∧ o = .inl none ∧ HC u m tg ln F_q ∧ Fq 0 [(20, -5)] m tg F F_q ∧ True) := by
  obtain ⟨d, rfl⟩ : ∃ d, dd = d + 1 := ⟨dd - 1, by omega⟩
  refine wk_of (e := jm55) rfl (by rw [jS_r, jS_r, jS_i, jS_0]; exact Nat.le_of_ble_eq_true rfl) ?_
  rw [la_r, la_r, la_i, la_0]
  show wj X d jm55 (0, [(0, rv (me)), (1, rv (mk)), (2, .int (i32 (k)))], [], cV R m tg ln F) _
  have hM0 : Fq 0 [(20, -5)] m tg F F := Fq_r
  obtain ⟨L0, eL0⟩ : ∃ q : jL, q = [(0, rv (me)), (1, rv (mk)), (2, .int (i32 (k)))] := ⟨_, rfl⟩
  rw [← eL0]
  have g71 : jGet L0 0 = some (rv (me)) := eL0 ▸ (rfl : jGet [(0, rv (me)), (1, rv (mk)), (2, .int (i32 (k)))] 0 = some (rv (me)))
  have g72 : jGet L0 1 = some (rv (mk)) := eL0 ▸ (rfl : jGet [(0, rv (me)), (1, rv (mk)), (2, .int (i32 (k)))] 1 = some (rv (mk)))
  have g73 : jGet L0 2 = some (.int (i32 (k))) := eL0 ▸ (rfl : jGet [(0, rv (me)), (1, rv (mk)), (2, .int (i32 (k)))] 2 = some (.int (i32 (k))))
  clear eL0
  refine jx_ld (pc_q := 1) (l_q := L0) (st_q := [rv (me)]) rfl (jl_rvn g71) ?_
  refine cx_gr (pc_q := 4) (c := 1) (q := 5) (v := F (me) (5 : Int)) rfl rfl (by decide) (by decide) rfl rfl o_me t_me rfl ?_
  have y74 : own m (F (me) (5 : Int)) ∧ tg (F (me) (5 : Int)) = 21 ∧ ((6001 : Int) ≠ 0 → ln (F (me) (5 : Int)) = 6001) := by have z := HC_n (c := 1) (q := 5) hC o_me t_me p_0 (by decide) rfl; rw [show F (me) ((5 : Nat) : Int) = F (me) (5 : Int) from rfl] at z; exact ⟨z.1, z.2.1, z.2.2.1⟩
  have ly74 : ln (F (me) (5 : Int)) = 6001 := y74.2.2 (by decide)
  refine jx_ld (pc_q := 5) (l_q := L0) (st_q := [.int (i32 (k)), rv (F (me) (5 : Int))]) rfl (jl_iloadn g73) ?_
  refine jx_ar (pc_q := 6) (st_q := [.int (i32 (1)), .int (i32 (k)), rv (F (me) (5 : Int))]) rfl rfl rfl rfl ?_
  refine jx_add (pc_q := 7) rfl rfl ?_
  have b75 := HC_l hC y74.1 y74.2.1 (by decide)
  refine cx_ial (pc_q := 8) (z := (k + 1)) rfl rfl y74.1 y74.2.1 (by omega) (by omega) (by omega) ?_
  have b76 : (0 : Int) ≤ F (F (me) (5 : Int)) ((k + 1)) ∧ F (F (me) (5 : Int)) ((k + 1)) ≤ 1000000 := by have z := HC_e (j := (k + 1)) hC y74.1 (by rw [y74.2.1]; decide) (by omega); rw [(show F (F (me) (5 : Int)) (-1) = 2 by have z := HC_n (c := 1) (q := 5) hC o_me t_me p_0 (by decide) rfl; rw [show F (me) ((5 : Nat) : Int) = F (me) (5 : Int) from rfl] at z; exact z.2.2.2 (by decide))] at z; exact z
  refine jx_ar (pc_q := 9) (st_q := [.int (i32 (1)), .int (i32 (F (F (me) (5 : Int)) ((k + 1))))]) rfl rfl rfl rfl ?_
  refine jx_sub (pc_q := 10) rfl rfl ?_
  refine jx_ld (pc_q := 11) (l_q := jSto1 L0 3 (.int (i32 ((F (F (me) (5 : Int)) ((k + 1)) - 1))))) (st_q := []) rfl rfl ?_
  obtain ⟨L77, eL77⟩ : ∃ q : jL, q = jSto1 L0 3 (.int (i32 ((F (F (me) (5 : Int)) ((k + 1)) - 1)))) := ⟨_, rfl⟩
  rw [← eL77]
  have g78 : jGet L77 0 = some (rv (me)) := eL77 ▸ jg_nr (by decide) g71
  have g79 : jGet L77 1 = some (rv (mk)) := eL77 ▸ jg_nr (by decide) g72
  have g80 : jGet L77 2 = some (.int (i32 (k))) := eL77 ▸ jg_ne (by decide) g73 rfl
  have g81 : jGet L77 3 = some (.int (i32 ((F (F (me) (5 : Int)) ((k + 1)) - 1)))) := eL77 ▸ jg_eq
  clear eL77
  refine jx_ld (pc_q := 12) (l_q := L77) (st_q := [rv (me)]) rfl (jl_rvn g78) ?_
  refine cx_gr (pc_q := 15) (c := 1) (q := 1) (v := F (me) (1 : Int)) rfl rfl (by decide) (by decide) rfl rfl o_me t_me rfl ?_
  have y82 : own m (F (me) (1 : Int)) ∧ tg (F (me) (1 : Int)) = 21 ∧ ((6000 : Int) ≠ 0 → ln (F (me) (1 : Int)) = 6000) := by have z := HC_n (c := 1) (q := 1) hC o_me t_me p_0 (by decide) rfl; rw [show F (me) ((1 : Nat) : Int) = F (me) (1 : Int) from rfl] at z; exact ⟨z.1, z.2.1, z.2.2.1⟩
  have ly82 : ln (F (me) (1 : Int)) = 6000 := y82.2.2 (by decide)
  refine jx_ld (pc_q := 16) (l_q := L77) (st_q := [.int (i32 (k)), rv (F (me) (1 : Int))]) rfl (jl_iloadn g80) ?_
  have b83 := HC_l hC y82.1 y82.2.1 (by decide)
  refine cx_ial (pc_q := 17) (z := k) rfl rfl y82.1 y82.2.1 (by omega) (by omega) (by omega) ?_
  have b84 : (-2147483648 : Int) ≤ F (F (me) (1 : Int)) (k) ∧ F (F (me) (1 : Int)) (k) ≤ 2147483647 := by have z := HC_ei (j := k) hC y82.1 (by rw [y82.2.1]; decide) (by omega); exact z
  refine jx_ld (pc_q := 19) (l_q := jSto1 L77 4 (.int (i32 (F (F (me) (1 : Int)) (k))))) (st_q := []) rfl rfl ?_
  obtain ⟨L85, eL85⟩ : ∃ q : jL, q = jSto1 L77 4 (.int (i32 (F (F (me) (1 : Int)) (k)))) := ⟨_, rfl⟩
  rw [← eL85]
  have g86 : jGet L85 0 = some (rv (me)) := eL85 ▸ jg_nr (by decide) g78
  have g87 : jGet L85 1 = some (rv (mk)) := eL85 ▸ jg_nr (by decide) g79
  have g88 : jGet L85 2 = some (.int (i32 (k))) := eL85 ▸ jg_ne (by decide) g80 rfl
  have g89 : jGet L85 3 = some (.int (i32 ((F (F (me) (5 : Int)) ((k + 1)) - 1)))) := eL85 ▸ jg_ne (by decide) g81 rfl
  have g90 : jGet L85 4 = some (.int (i32 (F (F (me) (1 : Int)) (k)))) := eL85 ▸ jg_eq
  clear eL85
  refine jx_ld (pc_q := 20) (l_q := L85) (st_q := [rv (mk)]) rfl (jl_rvn g87) ?_
  refine jx_ld (pc_q := 21) (l_q := L85) (st_q := [.int (i32 ((F (F (me) (5 : Int)) ((k + 1)) - 1))), rv (mk)]) rfl (jl_iloadn g89) ?_
  refine jx_ld (pc_q := 22) (l_q := L85) (st_q := [rv (me), .int (i32 ((F (F (me) (5 : Int)) ((k + 1)) - 1))), rv (mk)]) rfl (jl_rvn g86) ?_
  refine cx_gr (pc_q := 25) (c := 1) (q := 0) (v := F (me) (0 : Int)) rfl rfl (by decide) (by decide) rfl rfl o_me t_me rfl ?_
  have y91 : own m (F (me) (0 : Int)) ∧ tg (F (me) (0 : Int)) = 20 ∧ ((6000 : Int) ≠ 0 → ln (F (me) (0 : Int)) = 6000) := by have z := HC_n (c := 1) (q := 0) hC o_me t_me p_0 (by decide) rfl; rw [show F (me) ((0 : Nat) : Int) = F (me) (0 : Int) from rfl] at z; exact ⟨z.1, z.2.1, z.2.2.1⟩
  have ly91 : ln (F (me) (0 : Int)) = 6000 := y91.2.2 (by decide)
  refine jx_ld (pc_q := 26) (l_q := L85) (st_q := [.int (i32 (k)), rv (F (me) (0 : Int)), .int (i32 ((F (F (me) (5 : Int)) ((k + 1)) - 1))), rv (mk)]) rfl (jl_iloadn g88) ?_
  have b92 := HC_l hC y91.1 y91.2.1 (by decide)
  refine cx_bal (pc_q := 27) (z := k) rfl rfl y91.1 (Or.inl y91.2.1) (by omega) (by omega) (by omega) ?_
  have b93 : (-2147483648 : Int) ≤ F (F (me) (0 : Int)) (k) ∧ F (F (me) (0 : Int)) (k) ≤ 2147483647 := by have z := HC_ei (j := k) hC y91.1 (by rw [y91.2.1]; decide) (by omega); exact z
  refine jx_ld (pc_q := 29) (l_q := L85) (st_q := [.int (i32 (F (F (me) (1 : Int)) (k))), .int (i32 (F (F (me) (0 : Int)) (k))), .int (i32 ((F (F (me) (5 : Int)) ((k + 1)) - 1))), rv (mk)]) rfl (jl_iload g90) ?_
  refine cx_st (st := []) (as := [rv (mk), .int (i32 ((F (F (me) (5 : Int)) ((k + 1)) - 1))), .int (i32 (F (F (me) (0 : Int)) (k))), .int (i32 (F (F (me) (1 : Int)) (k)))]) rfl rfl rfl ⟨rfl, (Nat.le_of_ble_eq_true rfl)⟩ rfl (k_LU_store (dd := d) (R := R) (u := u) (m := m) (tg := tg) (ln := ln) (F := F) (mk := mk) (aT := (F (F (me) (5 : Int)) ((k + 1)) - 1)) (fu := F (F (me) (0 : Int)) (k)) (bi := F (F (me) (1 : Int)) (k)) (hd := by omega) (hC := hC) (o_mk := o_mk) (t_mk := t_mk) (s_mk := s_mk) (h_aT := by omega) (h_fu := by omega) (h_bi := by omega)) (fun o V_q hq => ?_)
  obtain ⟨F94, rfl, rfl, hC95, hM96, -⟩ := hq
  have hM97 : Fq 0 [(20, -5)] m tg F F94 := Fq_t (ln := ln) (ln1 := ln) hM0 Ex_r hM96 (by decide) (Or.inl rfl)
  refine Or.inl ⟨rfl, ?_⟩
  refine jx_ld (pc_q := 34) (l_q := L85) (st_q := [.int (i32 (F (F (me) (1 : Int)) (k)))]) rfl (jl_iload g90) ?_
  refine jx_if_ge (pc_q := 37) (tg := 46) rfl rfl rfl (by omega) (by omega) (fun h98 => ?_) (fun h98 => ?_)
  · have _q := h98
    refine jx_ld (pc_q := 48) (l_q := L85) (st_q := [.int (i32 (F (F (me) (1 : Int)) (k)))]) rfl (jl_iload g90) ?_
    refine jx_ar (pc_q := 49) (st_q := [.int (i32 (4)), .int (i32 (F (F (me) (1 : Int)) (k)))]) rfl rfl rfl rfl ?_
    refine jx_ushrw (pc_q := 50) rfl rfl (fun r99 hr99 => ?_)
    refine jx_ld (pc_q := 52) (l_q := jSto1 L85 5 (.int (i32 (r99)))) (st_q := []) rfl rfl ?_
    obtain ⟨L100, eL100⟩ : ∃ q : jL, q = jSto1 L85 5 (.int (i32 (r99))) := ⟨_, rfl⟩
    rw [← eL100]
    have g101 : jGet L100 0 = some (rv (me)) := eL100 ▸ jg_nr (by decide) g86
    have g102 : jGet L100 1 = some (rv (mk)) := eL100 ▸ jg_nr (by decide) g87
    have g103 : jGet L100 2 = some (.int (i32 (k))) := eL100 ▸ jg_ne (by decide) g88 rfl
    have g104 : jGet L100 3 = some (.int (i32 ((F (F (me) (5 : Int)) ((k + 1)) - 1)))) := eL100 ▸ jg_ne (by decide) g89 rfl
    have g105 : jGet L100 4 = some (.int (i32 (F (F (me) (1 : Int)) (k)))) := eL100 ▸ jg_ne (by decide) g90 rfl
    have g106 : jGet L100 5 = some (.int (i32 (r99))) := eL100 ▸ jg_eq
    clear eL100
    refine jx_ld (pc_q := 53) (l_q := L100) (st_q := [.int (i32 ((F (F (me) (5 : Int)) ((k + 1)) - 1)))]) rfl (jl_iloadn g104) ?_
    refine jx_ar (pc_q := 54) (st_q := [.int (i32 (1)), .int (i32 ((F (F (me) (5 : Int)) ((k + 1)) - 1)))]) rfl rfl rfl rfl ?_
    refine jx_sub (pc_q := 55) rfl rfl ?_
    refine jx_ld (pc_q := 57) (l_q := jSto1 L100 6 (.int (i32 (((F (F (me) (5 : Int)) ((k + 1)) - 1) - 1))))) (st_q := []) rfl rfl ?_
    obtain ⟨L107, eL107⟩ : ∃ q : jL, q = jSto1 L100 6 (.int (i32 (((F (F (me) (5 : Int)) ((k + 1)) - 1) - 1)))) := ⟨_, rfl⟩
    rw [← eL107]
    have g108 : jGet L107 0 = some (rv (me)) := eL107 ▸ jg_nr (by decide) g101
    have g109 : jGet L107 1 = some (rv (mk)) := eL107 ▸ jg_nr (by decide) g102
    have g110 : jGet L107 2 = some (.int (i32 (k))) := eL107 ▸ jg_ne (by decide) g103 rfl
    have g111 : jGet L107 3 = some (.int (i32 ((F (F (me) (5 : Int)) ((k + 1)) - 1)))) := eL107 ▸ jg_ne (by decide) g104 rfl
    have g112 : jGet L107 4 = some (.int (i32 (F (F (me) (1 : Int)) (k)))) := eL107 ▸ jg_ne (by decide) g105 rfl
    have g113 : jGet L107 5 = some (.int (i32 (r99))) := eL107 ▸ jg_ne (by decide) g106 rfl
    have g114 : jGet L107 6 = some (.int (i32 (((F (F (me) (5 : Int)) ((k + 1)) - 1) - 1)))) := eL107 ▸ jg_eq
    clear eL107
    exact k_LU_write_at_57 (X := X) (d := d) (R := R) (u := u) (m := m) (tg := tg) (ln := ln) (F := F) (me := me) (mk := mk) (k := k) (hd := hd) (hC := hC) (o_me := o_me) (t_me := t_me) (o_mk := o_mk) (t_mk := t_mk) (s_mk := s_mk) (h_k := h_k) (p_0 := p_0) (p_1 := p_1) (p_2 := p_2) (p_3 := p_3) _ L107 F94 ((F (F (me) (5 : Int)) ((k + 1)) - 1)) (F (F (me) (1 : Int)) (k)) (r99) (((F (F (me) (5 : Int)) ((k + 1)) - 1) - 1)) rfl g108 g109 g110 g111 g112 g113 g114 hC95 hM97 (by omega) (by omega) (by omega) (by omega) (by omega)
  · have _q := h98
    refine jx_ld (pc_q := 39) (l_q := L85) (st_q := [.int (i32 (F (F (me) (1 : Int)) (k)))]) rfl (jl_iload g90) ?_
    refine jx_ar (pc_q := 40) (st_q := [.int (i32 (-1)), .int (i32 (F (F (me) (1 : Int)) (k)))]) rfl rfl rfl rfl ?_
    refine jx_xor (pc_q := 41) rfl rfl ?_
    obtain ⟨z115, ez115⟩ : ∃ q, q = (i32 (F (F (me) (1 : Int)) (k)) ^^^ i32 (-1)).toInt := ⟨_, rfl⟩
    rw [← ez115]
    have bz115 : (-2147483648 : Int) ≤ z115 ∧ z115 ≤ 2147483647 := ez115 ▸ i32_rg _
    clear ez115
    refine jx_ar (pc_q := 42) (st_q := [.int (i32 (4)), .int (i32 (z115))]) rfl rfl rfl rfl ?_
    refine jx_ushrw (pc_q := 43) rfl rfl (fun r116 hr116 => ?_)
    refine jx_go (tg := 50) rfl rfl ?_
    refine jx_ld (pc_q := 52) (l_q := jSto1 L85 5 (.int (i32 (r116)))) (st_q := []) rfl rfl ?_
    obtain ⟨L117, eL117⟩ : ∃ q : jL, q = jSto1 L85 5 (.int (i32 (r116))) := ⟨_, rfl⟩
    rw [← eL117]
    have g118 : jGet L117 0 = some (rv (me)) := eL117 ▸ jg_nr (by decide) g86
    have g119 : jGet L117 1 = some (rv (mk)) := eL117 ▸ jg_nr (by decide) g87
    have g120 : jGet L117 2 = some (.int (i32 (k))) := eL117 ▸ jg_ne (by decide) g88 rfl
    have g121 : jGet L117 3 = some (.int (i32 ((F (F (me) (5 : Int)) ((k + 1)) - 1)))) := eL117 ▸ jg_ne (by decide) g89 rfl
    have g122 : jGet L117 4 = some (.int (i32 (F (F (me) (1 : Int)) (k)))) := eL117 ▸ jg_ne (by decide) g90 rfl
    have g123 : jGet L117 5 = some (.int (i32 (r116))) := eL117 ▸ jg_eq
    clear eL117
    refine jx_ld (pc_q := 53) (l_q := L117) (st_q := [.int (i32 ((F (F (me) (5 : Int)) ((k + 1)) - 1)))]) rfl (jl_iloadn g121) ?_
    refine jx_ar (pc_q := 54) (st_q := [.int (i32 (1)), .int (i32 ((F (F (me) (5 : Int)) ((k + 1)) - 1)))]) rfl rfl rfl rfl ?_
    refine jx_sub (pc_q := 55) rfl rfl ?_
    refine jx_ld (pc_q := 57) (l_q := jSto1 L117 6 (.int (i32 (((F (F (me) (5 : Int)) ((k + 1)) - 1) - 1))))) (st_q := []) rfl rfl ?_
    obtain ⟨L124, eL124⟩ : ∃ q : jL, q = jSto1 L117 6 (.int (i32 (((F (F (me) (5 : Int)) ((k + 1)) - 1) - 1)))) := ⟨_, rfl⟩
    rw [← eL124]
    have g125 : jGet L124 0 = some (rv (me)) := eL124 ▸ jg_nr (by decide) g118
    have g126 : jGet L124 1 = some (rv (mk)) := eL124 ▸ jg_nr (by decide) g119
    have g127 : jGet L124 2 = some (.int (i32 (k))) := eL124 ▸ jg_ne (by decide) g120 rfl
    have g128 : jGet L124 3 = some (.int (i32 ((F (F (me) (5 : Int)) ((k + 1)) - 1)))) := eL124 ▸ jg_ne (by decide) g121 rfl
    have g129 : jGet L124 4 = some (.int (i32 (F (F (me) (1 : Int)) (k)))) := eL124 ▸ jg_ne (by decide) g122 rfl
    have g130 : jGet L124 5 = some (.int (i32 (r116))) := eL124 ▸ jg_ne (by decide) g123 rfl
    have g131 : jGet L124 6 = some (.int (i32 (((F (F (me) (5 : Int)) ((k + 1)) - 1) - 1)))) := eL124 ▸ jg_eq
    clear eL124
    exact k_LU_write_at_57 (X := X) (d := d) (R := R) (u := u) (m := m) (tg := tg) (ln := ln) (F := F) (me := me) (mk := mk) (k := k) (hd := hd) (hC := hC) (o_me := o_me) (t_me := t_me) (o_mk := o_mk) (t_mk := t_mk) (s_mk := s_mk) (h_k := h_k) (p_0 := p_0) (p_1 := p_1) (p_2 := p_2) (p_3 := p_3) _ L124 F94 ((F (F (me) (5 : Int)) ((k + 1)) - 1)) (F (F (me) (1 : Int)) (k)) (r116) (((F (F (me) (5 : Int)) ((k + 1)) - 1) - 1)) rfl g125 g126 g127 g128 g129 g130 g131 hC95 hM97 (by omega) (by omega) (by omega) (by omega) (by omega)
