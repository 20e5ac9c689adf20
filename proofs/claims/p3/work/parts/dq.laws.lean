set_option maxRecDepth 20000 in
set_option maxHeartbeats 4000000 in
theorem k_LLaw_put {X : jX} {dd : Nat} {R : Nat → jC} {m : Nat} {tg ln : Int → Int} {F : Int → Int → Int} {kk : Int} {x p0 ou : Int} (hd : 2 ≤ dd) (hC : HC 0 m tg ln F) (o_x : own m x) (t_x : tg x = 1) (h_p0 : (-2147483648 : Int) ≤ p0 ∧ p0 ≤ 2147483647) (o_ou : own m ou) (t_ou : tg ou = 22) (s_ou : F ou (-1) = 0) (p_0 : ln ou = 1) (c_NP : NP m tg F) (c_SB : SB m tg F (kk)) (c_T3 : T3 m tg) : wk X dd 0 [rv x, .int (i32 p0), rv ou] (cV R m tg ln F) (fun o V_q => ∃ (m_q : Nat) (tg_q ln_q : Int → Int) (F_q : Int → Int → Int) (r : Int), V_q = cV R m_q tg_q ln_q F_q ∧ o = .inl (some (.int (i32 r))) ∧ Ex m tg ln m_q tg_q ln_q ∧ HC 0 m_q tg_q ln_q F_q ∧ Fq 0 [(1, 1), (20, -5), (22, -5)] m tg F F_q ∧ (-2147483648 ≤ r ∧ r ≤ 2147483647) ∧ (szD m_q tg_q ln_q ≤ szD m tg ln + 25) ∧ ((m_q : Int) ≤ (m : Int) + 1) ∧ ((r = 1 ∧ 1 ≤ nb p0 4 ∧ F_q x (1 : Int) = F x (1 : Int)) ∨ (r = 2 ∧ nb p0 4 = 0 ∧ 3000 < F x (1 : Int) + mo p0 4 ∧ F_q x (1 : Int) = F x (1 : Int)) ∨ (r = 0 ∧ nb p0 4 = 0 ∧ F_q x (1 : Int) = F x (1 : Int) + mo p0 4 ∧ F_q x (1 : Int) ≤ 3000 ∧ F_q ou (0 : Int) = F_q x (1 : Int))) ∧ (NP m_q tg_q F_q) ∧ (SB m_q tg_q F_q (kk)) ∧ (T3 m_q tg_q) ∧ True) := by
  obtain ⟨d, rfl⟩ : ∃ d, dd = d + 1 := ⟨dd - 1, by omega⟩
  refine wk_of (e := jm0) rfl (by rw [jS_r, jS_i, jS_r, jS_0]; exact Nat.le_of_ble_eq_true rfl) ?_
  rw [la_r, la_i, la_r, la_0]
  show wj X d jm0 (0, [(0, rv (x)), (1, .int (i32 (p0))), (2, rv (ou))], [], cV R m tg ln F) _
  have hM0 : Fq 0 [(1, 1), (20, -5), (22, -5)] m tg F F := Fq_r
  have hX0 : Ex m tg ln m tg ln := Ex_r
  obtain ⟨L0, eL0⟩ : ∃ q : jL, q = [(0, rv (x)), (1, .int (i32 (p0))), (2, rv (ou))] := ⟨_, rfl⟩
  rw [← eL0]
  have g1 : jGet L0 0 = some (rv (x)) := eL0 ▸ (rfl : jGet [(0, rv (x)), (1, .int (i32 (p0))), (2, rv (ou))] 0 = some (rv (x)))
  have g2 : jGet L0 1 = some (.int (i32 (p0))) := eL0 ▸ (rfl : jGet [(0, rv (x)), (1, .int (i32 (p0))), (2, rv (ou))] 1 = some (.int (i32 (p0))))
  have g3 : jGet L0 2 = some (rv (ou)) := eL0 ▸ (rfl : jGet [(0, rv (x)), (1, .int (i32 (p0))), (2, rv (ou))] 2 = some (rv (ou)))
  clear eL0
  refine jx_ld (pc_q := 1) (l_q := L0) (st_q := [rv (ou)]) rfl (jl_rvn g3) ?_
  refine jx_ar (pc_q := 2) (st_q := [.int (i32 (0)), rv (ou)]) rfl rfl rfl rfl ?_
  refine jx_ld (pc_q := 3) (l_q := L0) (st_q := [rv (x), .int (i32 (0)), rv (ou)]) rfl (jl_rvn g1) ?_
  refine jx_ld (pc_q := 4) (l_q := L0) (st_q := [.int (i32 (p0)), rv (x), .int (i32 (0)), rv (ou)]) rfl (jl_iloadn g2) ?_
  refine cx_vi (c := 0) (a := x) (st := [.int (i32 (0)), rv (ou)]) (as := [.int (i32 (p0))]) rfl rfl rfl o_x t_x (by decide) rfl ⟨rfl, rfl, (by rw [jS_i, jS_r, jS_0]; exact Nat.le_of_ble_eq_true rfl)⟩ rfl (k_LY_put (dd := d) (R := R) (m := m) (tg := tg) (ln := ln) (F := F) (me := x) (sg := p0) (hd := by omega) (hC := hC) (o_me := o_x) (t_me := t_x) (h_sg := by omega) (c_NP := c_NP) (kk := kk) (c_SB := c_SB) (c_T3 := c_T3)) (fun o V_q hq => ?_)
  obtain ⟨m4, tg4, ln4, F5, r6, rfl, rfl, hx7, hC8, hM9, b10, p11, p12, p13, p14, p15, p16, c17, c18, c19, -⟩ | ⟨m20, tg20, ln20, F20, x20, rfl, rfl, hx20, hC20, hM20, ho20, ht20, p21, p22, p23, p24, c25, c26, c27, -⟩ := hq
  rotate_left
  · rcases ht20 with ht20 | ht20
    ·
      refine Or.inr (Or.inr (Or.inl ⟨_, _, 12, rfl, cx_exc (c := 13) ho20 ht20 (by decide), rfl, ?_⟩))
      rw [← rv_x ho20]
      have hM28 := Fq_t (ln := ln) (ln1 := ln) hM0 hX0 hM20 (by decide) (Or.inl rfl)
      have ho29 : own m20 (x) ∧ tg20 (x) = 1 := Ex_o hx20 ⟨o_x, t_x⟩
      have ho30 : own m20 (ou) ∧ tg20 (ou) = 22 := Ex_o hx20 ⟨o_ou, t_ou⟩
      have ln31 : ln20 (ou) = 1 := (hx20.2 _ o_ou).2.trans p_0
      have hX32 := Ex_t hX0 hx20
      refine jx_ld (pc_q := 13) (l_q := jSto1 L0 3 (rv (((x20 : Nat) : Int)))) (st_q := []) rfl (js_rvn (by decide)) ?_
      obtain ⟨L33, eL33⟩ : ∃ q : jL, q = jSto1 L0 3 (rv (((x20 : Nat) : Int))) := ⟨_, rfl⟩
      rw [← eL33]
      have g34 : jGet L33 0 = some (rv (x)) := eL33 ▸ jg_nr (by decide) g1
      have g35 : jGet L33 1 = some (.int (i32 (p0))) := eL33 ▸ jg_ne (by decide) g2 rfl
      have g36 : jGet L33 2 = some (rv (ou)) := eL33 ▸ jg_nr (by decide) g3
      have g37 : jGet L33 3 = some (rv (((x20 : Nat) : Int))) := eL33 ▸ jg_eq
      clear eL33
      refine jx_ar (pc_q := 14) (st_q := [.int (i32 (1))]) rfl rfl rfl rfl ?_
      refine jx_rt (v := some (.int (i32 (1)))) rfl rfl rfl rfl rfl rfl ?_
      have q38 : F20 (ou) (0 : Int) = F (ou) (0 : Int) := (show F20 (ou) (0 : Int) = F (ou) (0 : Int) from hM20 _ _ o_ou (own_z o_ou) (by rw [t_ou]; rfl))
      exact ⟨m20, tg20, ln20, F20, (1), rfl, rfl, hX32, hC20, hM28, by omega, by omega, by omega, (Or.inl ⟨rfl, by omega, by omega⟩), c25, SB_m c26 (by omega), c27, trivial⟩
    ·
      refine Or.inr (Or.inr (Or.inl ⟨_, _, 15, rfl, cx_exc (c := 14) ho20 ht20 (by decide), rfl, ?_⟩))
      rw [← rv_x ho20]
      have hM39 := Fq_t (ln := ln) (ln1 := ln) hM0 hX0 hM20 (by decide) (Or.inl rfl)
      have ho40 : own m20 (x) ∧ tg20 (x) = 1 := Ex_o hx20 ⟨o_x, t_x⟩
      have ho41 : own m20 (ou) ∧ tg20 (ou) = 22 := Ex_o hx20 ⟨o_ou, t_ou⟩
      have ln42 : ln20 (ou) = 1 := (hx20.2 _ o_ou).2.trans p_0
      have hX43 := Ex_t hX0 hx20
      refine jx_ld (pc_q := 16) (l_q := jSto1 L0 3 (rv (((x20 : Nat) : Int)))) (st_q := []) rfl (js_rvn (by decide)) ?_
      obtain ⟨L44, eL44⟩ : ∃ q : jL, q = jSto1 L0 3 (rv (((x20 : Nat) : Int))) := ⟨_, rfl⟩
      rw [← eL44]
      have g45 : jGet L44 0 = some (rv (x)) := eL44 ▸ jg_nr (by decide) g1
      have g46 : jGet L44 1 = some (.int (i32 (p0))) := eL44 ▸ jg_ne (by decide) g2 rfl
      have g47 : jGet L44 2 = some (rv (ou)) := eL44 ▸ jg_nr (by decide) g3
      have g48 : jGet L44 3 = some (rv (((x20 : Nat) : Int))) := eL44 ▸ jg_eq
      clear eL44
      refine jx_ar (pc_q := 17) (st_q := [.int (i32 (2))]) rfl rfl rfl rfl ?_
      refine jx_rt (v := some (.int (i32 (2)))) rfl rfl rfl rfl rfl rfl ?_
      have q49 : F20 (ou) (0 : Int) = F (ou) (0 : Int) := (show F20 (ou) (0 : Int) = F (ou) (0 : Int) from hM20 _ _ o_ou (own_z o_ou) (by rw [t_ou]; rfl))
      exact ⟨m20, tg20, ln20, F20, (2), rfl, rfl, hX43, hC20, hM39, by omega, by omega, by omega, (Or.inr (Or.inl ⟨rfl, by omega, by omega, by omega⟩)), c25, SB_m c26 (by omega), c27, trivial⟩
  have hM50 : Fq 0 [(1, 1), (20, -5), (22, -5)] m tg F F5 := Fq_t (ln := ln) (ln1 := ln) hM0 hX0 hM9 (by decide) (Or.inl rfl)
  have ho51 : own m4 (x) ∧ tg4 (x) = 1 := Ex_o hx7 ⟨o_x, t_x⟩
  have ho52 : own m4 (ou) ∧ tg4 (ou) = 22 := Ex_o hx7 ⟨o_ou, t_ou⟩
  have ln53 : ln4 (ou) = 1 := (hx7.2 _ o_ou).2.trans p_0
  have hX54 := Ex_t hX0 hx7
  refine Or.inr (Or.inl ⟨_, rfl, ?_⟩)
  refine jx_ar (pc_q := 8) (st_q := .long ((i32 (r6)).toInt64) :: [.int (i32 (0)), rv (ou)]) rfl rfl rfl rfl ?_
  obtain ⟨y55, ey55⟩ : ∃ q : Int64, q = (i32 (r6)).toInt64 := ⟨_, rfl⟩
  rw [← ey55]
  have b56 := HC_l hC8 ho52.1 ho52.2 (by decide)
  refine cx_las (pc_q := 9) (z := 0) (y := y55) rfl rfl ho52.1 ho52.2 (by omega) (by omega) (by omega) ?_
  obtain ⟨F57, eF57⟩ : ∃ q, q = uF F5 (ou) (0 : Int) ((y55 : Int64).toInt) := ⟨_, rfl⟩
  rw [← eF57]
  have hC58 : HC 0 m4 tg4 ln4 F57 := by rw [eF57]; exact HC_pl hC8 ho52.2 (by omega)
  have hM59 : Fq 0 [(1, 1), (20, -5), (22, -5)] m tg F F57 := by rw [eF57]; exact Fq_p hM50 ho52.2 (fun w => (hX54.2 _ w).1) (inL_a rfl (by omega) rfl)
  have c60 : NP m4 tg4 F57 := by rw [eF57]; exact NP_u hC8 c17 ho52.2 (by omega)
  have c61 : SB m4 tg4 F57 ((kk)) := by rw [eF57]; exact SB_u c18 ho52.2 (by omega)
  refine jx_go (tg := 18) rfl rfl ?_
  refine jx_ar (pc_q := 19) (st_q := [.int (i32 (0))]) rfl rfl rfl rfl ?_
  refine jx_rt (v := some (.int (i32 (0)))) rfl rfl rfl rfl rfl rfl ?_
  have q62 : F57 (x) (1 : Int) = F5 (x) (1 : Int) := (show F57 (x) (1 : Int) = F5 (x) (1 : Int) from by rw [eF57]; exact uF_j (by decide))
  have q63 : F57 (ou) (0 : Int) = (y55 : Int64).toInt := (show F57 (ou) (0 : Int) = (y55 : Int64).toInt from by rw [eF57]; exact uF_e)
  exact ⟨m4, tg4, ln4, F57, (0), rfl, rfl, hX54, hC58, hM59, by omega, by omega, by omega, (Or.inr (Or.inr ⟨rfl, by omega, by omega, by omega, by rw [show F57 (ou) (0 : Int) = (y55 : Int64).toInt from q63, ey55, Int32.toInt_toInt64, i32_to (by omega) (by omega)]; omega⟩)), c60, SB_m c61 (by omega), c19, trivial⟩
set_option maxRecDepth 20000 in
set_option maxHeartbeats 4000000 in
theorem k_LLaw_end {X : jX} {dd : Nat} {R : Nat → jC} {m : Nat} {tg ln : Int → Int} {F : Int → Int → Int} {kk : Int} {x p0 : Int} (hd : 2 ≤ dd) (hC : HC 0 m tg ln F) (o_x : own m x) (t_x : tg x = 1) (h_p0 : (-2147483648 : Int) ≤ p0 ∧ p0 ≤ 2147483647) (c_NP : NP m tg F) (c_SB : SB m tg F (kk)) (c_T3 : T3 m tg) : wk X dd 1 [rv x, .int (i32 p0)] (cV R m tg ln F) (fun o V_q => ∃ (m_q : Nat) (tg_q ln_q : Int → Int) (F_q : Int → Int → Int) (r : Int), V_q = cV R m_q tg_q ln_q F_q ∧ o = .inl (some (.int (i32 r))) ∧ Ex m tg ln m_q tg_q ln_q ∧ HC 0 m_q tg_q ln_q F_q ∧ Fq 0 [(1, 1)] m tg F F_q ∧ (-2147483648 ≤ r ∧ r ≤ 2147483647) ∧ (szD m_q tg_q ln_q ≤ szD m tg ln + 25) ∧ ((m_q : Int) ≤ (m : Int) + 1) ∧ ((r = 1 ∧ (p0 < 0 ∨ F x (1 : Int) < p0) ∧ F_q x (1 : Int) = F x (1 : Int)) ∨ (r = 0 ∧ 0 ≤ p0 ∧ p0 ≤ F x (1 : Int) ∧ F_q x (1 : Int) = p0)) ∧ (NP m_q tg_q F_q) ∧ (SB m_q tg_q F_q (kk)) ∧ (T3 m_q tg_q) ∧ True) := by
  obtain ⟨d, rfl⟩ : ∃ d, dd = d + 1 := ⟨dd - 1, by omega⟩
  refine wk_of (e := jm1) rfl (by rw [jS_r, jS_i, jS_0]; exact Nat.le_of_ble_eq_true rfl) ?_
  rw [la_r, la_i, la_0]
  show wj X d jm1 (0, [(0, rv (x)), (1, .int (i32 (p0)))], [], cV R m tg ln F) _
  have hM0 : Fq 0 [(1, 1)] m tg F F := Fq_r
  have hX0 : Ex m tg ln m tg ln := Ex_r
  obtain ⟨L0, eL0⟩ : ∃ q : jL, q = [(0, rv (x)), (1, .int (i32 (p0)))] := ⟨_, rfl⟩
  rw [← eL0]
  have g1 : jGet L0 0 = some (rv (x)) := eL0 ▸ (rfl : jGet [(0, rv (x)), (1, .int (i32 (p0)))] 0 = some (rv (x)))
  have g2 : jGet L0 1 = some (.int (i32 (p0))) := eL0 ▸ (rfl : jGet [(0, rv (x)), (1, .int (i32 (p0)))] 1 = some (.int (i32 (p0))))
  clear eL0
  refine jx_ld (pc_q := 1) (l_q := L0) (st_q := [rv (x)]) rfl (jl_rvn g1) ?_
  refine jx_ld (pc_q := 2) (l_q := L0) (st_q := [.int (i32 (p0)), rv (x)]) rfl (jl_iloadn g2) ?_
  refine cx_vi (c := 0) (a := x) (st := []) (as := [.int (i32 (p0))]) rfl rfl rfl o_x t_x (by decide) rfl ⟨rfl, rfl, (Nat.le_of_ble_eq_true rfl)⟩ rfl (k_LY_end (dd := d) (R := R) (m := m) (tg := tg) (ln := ln) (F := F) (me := x) (n := p0) (hd := by omega) (hC := hC) (o_me := o_x) (t_me := t_x) (h_n := by omega) (c_NP := c_NP) (kk := kk) (c_SB := c_SB) (c_T3 := c_T3)) (fun o V_q hq => ?_)
  obtain ⟨m3, tg3, ln3, F4, rfl, rfl, hx5, hC6, hM7, p8, p9, p10, p11, p12, c13, c14, c15, -⟩ | ⟨m16, tg16, ln16, F16, x16, rfl, rfl, hx16, hC16, hM16, ho16, ht16, p17, p18, p19, p20, c21, c22, c23, -⟩ := hq
  rotate_left
  ·
    refine Or.inr (Or.inr (Or.inl ⟨_, _, 8, rfl, cx_exc (c := 13) ho16 ht16 (by decide), rfl, ?_⟩))
    rw [← rv_x ho16]
    have hM24 := Fq_t (ln := ln) (ln1 := ln) hM0 hX0 hM16 (by decide) (Or.inl rfl)
    have ho25 : own m16 (x) ∧ tg16 (x) = 1 := Ex_o hx16 ⟨o_x, t_x⟩
    have hX26 := Ex_t hX0 hx16
    refine jx_ld (pc_q := 9) (l_q := jSto1 L0 2 (rv (((x16 : Nat) : Int)))) (st_q := []) rfl (js_rvn (by decide)) ?_
    obtain ⟨L27, eL27⟩ : ∃ q : jL, q = jSto1 L0 2 (rv (((x16 : Nat) : Int))) := ⟨_, rfl⟩
    rw [← eL27]
    have g28 : jGet L27 0 = some (rv (x)) := eL27 ▸ jg_nr (by decide) g1
    have g29 : jGet L27 1 = some (.int (i32 (p0))) := eL27 ▸ jg_ne (by decide) g2 rfl
    have g30 : jGet L27 2 = some (rv (((x16 : Nat) : Int))) := eL27 ▸ jg_eq
    clear eL27
    refine jx_ar (pc_q := 10) (st_q := [.int (i32 (1))]) rfl rfl rfl rfl ?_
    refine jx_rt (v := some (.int (i32 (1)))) rfl rfl rfl rfl rfl rfl ?_
    exact ⟨m16, tg16, ln16, F16, (1), rfl, rfl, hX26, hC16, hM24, by omega, by omega, by omega, by omega, c21, SB_m c22 (by omega), c23, trivial⟩
  have hM31 : Fq 0 [(1, 1)] m tg F F4 := Fq_t (ln := ln) (ln1 := ln) hM0 hX0 hM7 (by decide) (Or.inl rfl)
  have ho32 : own m3 (x) ∧ tg3 (x) = 1 := Ex_o hx5 ⟨o_x, t_x⟩
  have hX33 := Ex_t hX0 hx5
  refine Or.inl ⟨rfl, ?_⟩
  refine jx_go (tg := 11) rfl rfl ?_
  refine jx_ar (pc_q := 12) (st_q := [.int (i32 (0))]) rfl rfl rfl rfl ?_
  refine jx_rt (v := some (.int (i32 (0)))) rfl rfl rfl rfl rfl rfl ?_
  exact ⟨m3, tg3, ln3, F4, (0), rfl, rfl, hX33, hC6, hM31, by omega, by omega, by omega, by omega, c13, SB_m c14 (by omega), c15, trivial⟩
set_option maxRecDepth 20000 in
set_option maxHeartbeats 4000000 in
theorem k_LLaw_fault {X : jX} {dd : Nat} {R : Nat → jC} {m : Nat} {tg ln : Int → Int} {F : Int → Int → Int} {kk : Int} {x p0 ou : Int} (hd : 2 ≤ dd) (hC : HC 0 m tg ln F) (o_x : own m x) (t_x : tg x = 1) (h_p0 : (-2147483648 : Int) ≤ p0 ∧ p0 ≤ 2147483647) (o_ou : own m ou) (t_ou : tg ou = 22) (s_ou : F ou (-1) = 0) (p_0 : ln ou = 1) (c_NP : NP m tg F) (c_SB : SB m tg F (kk)) (c_T3 : T3 m tg) : wk X dd 2 [rv x, .int (i32 p0), rv ou] (cV R m tg ln F) (fun o V_q => ∃ (m_q : Nat) (tg_q ln_q : Int → Int) (F_q : Int → Int → Int) (r : Int), V_q = cV R m_q tg_q ln_q F_q ∧ o = .inl (some (.int (i32 r))) ∧ Ex m tg ln m_q tg_q ln_q ∧ HC 0 m_q tg_q ln_q F_q ∧ Fq 0 [(22, -5)] m tg F F_q ∧ (-2147483648 ≤ r ∧ r ≤ 2147483647) ∧ (szD m_q tg_q ln_q ≤ szD m tg ln + 25) ∧ ((m_q : Int) ≤ (m : Int) + 1) ∧ (NP m_q tg_q F_q) ∧ (SB m_q tg_q F_q (kk)) ∧ (T3 m_q tg_q) ∧ True) := by
  obtain ⟨d, rfl⟩ : ∃ d, dd = d + 1 := ⟨dd - 1, by omega⟩
  refine wk_of (e := jm2) rfl (by rw [jS_r, jS_i, jS_r, jS_0]; exact Nat.le_of_ble_eq_true rfl) ?_
  rw [la_r, la_i, la_r, la_0]
  show wj X d jm2 (0, [(0, rv (x)), (1, .int (i32 (p0))), (2, rv (ou))], [], cV R m tg ln F) _
  have hM0 : Fq 0 [(22, -5)] m tg F F := Fq_r
  have hX0 : Ex m tg ln m tg ln := Ex_r
  obtain ⟨L0, eL0⟩ : ∃ q : jL, q = [(0, rv (x)), (1, .int (i32 (p0))), (2, rv (ou))] := ⟨_, rfl⟩
  rw [← eL0]
  have g1 : jGet L0 0 = some (rv (x)) := eL0 ▸ (rfl : jGet [(0, rv (x)), (1, .int (i32 (p0))), (2, rv (ou))] 0 = some (rv (x)))
  have g2 : jGet L0 1 = some (.int (i32 (p0))) := eL0 ▸ (rfl : jGet [(0, rv (x)), (1, .int (i32 (p0))), (2, rv (ou))] 1 = some (.int (i32 (p0))))
  have g3 : jGet L0 2 = some (rv (ou)) := eL0 ▸ (rfl : jGet [(0, rv (x)), (1, .int (i32 (p0))), (2, rv (ou))] 2 = some (rv (ou)))
  clear eL0
  refine jx_ld (pc_q := 1) (l_q := L0) (st_q := [rv (ou)]) rfl (jl_rvn g3) ?_
  refine jx_ar (pc_q := 2) (st_q := [.int (i32 (0)), rv (ou)]) rfl rfl rfl rfl ?_
  refine jx_ld (pc_q := 3) (l_q := L0) (st_q := [rv (x), .int (i32 (0)), rv (ou)]) rfl (jl_rvn g1) ?_
  refine jx_ld (pc_q := 4) (l_q := L0) (st_q := [.int (i32 (p0)), rv (x), .int (i32 (0)), rv (ou)]) rfl (jl_iloadn g2) ?_
  refine cx_vi (c := 0) (a := x) (st := [.int (i32 (0)), rv (ou)]) (as := [.int (i32 (p0))]) rfl rfl rfl o_x t_x (by decide) rfl ⟨rfl, rfl, (by rw [jS_i, jS_r, jS_0]; exact Nat.le_of_ble_eq_true rfl)⟩ rfl (k_LY_fault (dd := d) (R := R) (m := m) (tg := tg) (ln := ln) (F := F) (me := x) (wh := p0) (hd := by omega) (hC := hC) (o_me := o_x) (t_me := t_x) (h_wh := by omega) (c_NP := c_NP) (kk := kk) (c_SB := c_SB) (c_T3 := c_T3)) (fun o V_q hq => ?_)
  obtain ⟨m4, tg4, ln4, F5, r6, rfl, rfl, hx7, hC8, hM9, b10, p11, p12, c13, c14, c15, -⟩ | ⟨m16, tg16, ln16, F16, x16, rfl, rfl, hx16, hC16, hM16, ho16, ht16, p17, p18, c19, c20, c21, -⟩ := hq
  rotate_left
  ·
    refine Or.inr (Or.inr (Or.inl ⟨_, _, 12, rfl, cx_exc (c := 13) ho16 ht16 (by decide), rfl, ?_⟩))
    rw [← rv_x ho16]
    have hM22 := Fq_t (ln := ln) (ln1 := ln) hM0 hX0 hM16 (by decide) (Or.inl rfl)
    have ho23 : own m16 (x) ∧ tg16 (x) = 1 := Ex_o hx16 ⟨o_x, t_x⟩
    have ho24 : own m16 (ou) ∧ tg16 (ou) = 22 := Ex_o hx16 ⟨o_ou, t_ou⟩
    have ln25 : ln16 (ou) = 1 := (hx16.2 _ o_ou).2.trans p_0
    have hX26 := Ex_t hX0 hx16
    refine jx_ld (pc_q := 13) (l_q := jSto1 L0 3 (rv (((x16 : Nat) : Int)))) (st_q := []) rfl (js_rvn (by decide)) ?_
    obtain ⟨L27, eL27⟩ : ∃ q : jL, q = jSto1 L0 3 (rv (((x16 : Nat) : Int))) := ⟨_, rfl⟩
    rw [← eL27]
    have g28 : jGet L27 0 = some (rv (x)) := eL27 ▸ jg_nr (by decide) g1
    have g29 : jGet L27 1 = some (.int (i32 (p0))) := eL27 ▸ jg_ne (by decide) g2 rfl
    have g30 : jGet L27 2 = some (rv (ou)) := eL27 ▸ jg_nr (by decide) g3
    have g31 : jGet L27 3 = some (rv (((x16 : Nat) : Int))) := eL27 ▸ jg_eq
    clear eL27
    refine jx_ar (pc_q := 14) (st_q := [.int (i32 (1))]) rfl rfl rfl rfl ?_
    refine jx_rt (v := some (.int (i32 (1)))) rfl rfl rfl rfl rfl rfl ?_
    exact ⟨m16, tg16, ln16, F16, (1), rfl, rfl, hX26, hC16, hM22, by omega, by omega, by omega, c19, SB_m c20 (by omega), c21, trivial⟩
  have hM32 : Fq 0 [(22, -5)] m tg F F5 := Fq_t (ln := ln) (ln1 := ln) hM0 hX0 hM9 (by decide) (Or.inl rfl)
  have ho33 : own m4 (x) ∧ tg4 (x) = 1 := Ex_o hx7 ⟨o_x, t_x⟩
  have ho34 : own m4 (ou) ∧ tg4 (ou) = 22 := Ex_o hx7 ⟨o_ou, t_ou⟩
  have ln35 : ln4 (ou) = 1 := (hx7.2 _ o_ou).2.trans p_0
  have hX36 := Ex_t hX0 hx7
  refine Or.inr (Or.inl ⟨_, rfl, ?_⟩)
  refine jx_ar (pc_q := 8) (st_q := .long ((i32 (r6)).toInt64) :: [.int (i32 (0)), rv (ou)]) rfl rfl rfl rfl ?_
  obtain ⟨y37, ey37⟩ : ∃ q : Int64, q = (i32 (r6)).toInt64 := ⟨_, rfl⟩
  rw [← ey37]
  have b38 := HC_l hC8 ho34.1 ho34.2 (by decide)
  refine cx_las (pc_q := 9) (z := 0) (y := y37) rfl rfl ho34.1 ho34.2 (by omega) (by omega) (by omega) ?_
  obtain ⟨F39, eF39⟩ : ∃ q, q = uF F5 (ou) (0 : Int) ((y37 : Int64).toInt) := ⟨_, rfl⟩
  rw [← eF39]
  have hC40 : HC 0 m4 tg4 ln4 F39 := by rw [eF39]; exact HC_pl hC8 ho34.2 (by omega)
  have hM41 : Fq 0 [(22, -5)] m tg F F39 := by rw [eF39]; exact Fq_p hM32 ho34.2 (fun w => (hX36.2 _ w).1) (inL_a rfl (by omega) rfl)
  have c42 : NP m4 tg4 F39 := by rw [eF39]; exact NP_u hC8 c13 ho34.2 (by omega)
  have c43 : SB m4 tg4 F39 ((kk)) := by rw [eF39]; exact SB_u c14 ho34.2 (by omega)
  refine jx_go (tg := 15) rfl rfl ?_
  refine jx_ar (pc_q := 16) (st_q := [.int (i32 (0))]) rfl rfl rfl rfl ?_
  refine jx_rt (v := some (.int (i32 (0)))) rfl rfl rfl rfl rfl rfl ?_
  exact ⟨m4, tg4, ln4, F39, (0), rfl, rfl, hX36, hC40, hM41, by omega, by omega, by omega, c42, SB_m c43 (by omega), c15, trivial⟩
set_option maxRecDepth 20000 in
set_option maxHeartbeats 4000000 in
theorem k_LLaw_processor {X : jX} {dd : Nat} {R : Nat → jC} {m : Nat} {tg ln : Int → Int} {F : Int → Int → Int} {kk : Int} {x p0 p1 ou : Int} (hd : 4 ≤ dd) (hC : HC 0 m tg ln F) (o_x : own m x) (t_x : tg x = 1) (h_p0 : (-2147483648 : Int) ≤ p0 ∧ p0 ≤ 2147483647) (h_p1 : (-2147483648 : Int) ≤ p1 ∧ p1 ≤ 2147483647) (o_ou : own m ou) (t_ou : tg ou = 22) (s_ou : F ou (-1) = 0) (p_0 : ln ou = 1) (c_NP : NP m tg F) (c_SB : SB m tg F (kk)) (c_T3 : T3 m tg) : wk X dd 3 [rv x, .int (i32 p0), .int (i32 p1), rv ou] (cV R m tg ln F) (fun o V_q => ∃ (m_q : Nat) (tg_q ln_q : Int → Int) (F_q : Int → Int → Int) (r : Int), V_q = cV R m_q tg_q ln_q F_q ∧ o = .inl (some (.int (i32 r))) ∧ Ex m tg ln m_q tg_q ln_q ∧ HC 0 m_q tg_q ln_q F_q ∧ Fq 0 [(22, -5)] m tg F F_q ∧ (-2147483648 ≤ r ∧ r ≤ 2147483647) ∧ (szD m_q tg_q ln_q ≤ szD m tg ln + 25) ∧ ((m_q : Int) ≤ (m : Int) + 1) ∧ (NP m_q tg_q F_q) ∧ (SB m_q tg_q F_q (kk)) ∧ (T3 m_q tg_q) ∧ True) := by
  obtain ⟨d, rfl⟩ : ∃ d, dd = d + 1 := ⟨dd - 1, by omega⟩
  refine wk_of (e := jm3) rfl (by rw [jS_r, jS_i, jS_i, jS_r, jS_0]; exact Nat.le_of_ble_eq_true rfl) ?_
  rw [la_r, la_i, la_i, la_r, la_0]
  show wj X d jm3 (0, [(0, rv (x)), (1, .int (i32 (p0))), (2, .int (i32 (p1))), (3, rv (ou))], [], cV R m tg ln F) _
  have hM0 : Fq 0 [(22, -5)] m tg F F := Fq_r
  have hX0 : Ex m tg ln m tg ln := Ex_r
  obtain ⟨L0, eL0⟩ : ∃ q : jL, q = [(0, rv (x)), (1, .int (i32 (p0))), (2, .int (i32 (p1))), (3, rv (ou))] := ⟨_, rfl⟩
  rw [← eL0]
  have g1 : jGet L0 0 = some (rv (x)) := eL0 ▸ (rfl : jGet [(0, rv (x)), (1, .int (i32 (p0))), (2, .int (i32 (p1))), (3, rv (ou))] 0 = some (rv (x)))
  have g2 : jGet L0 1 = some (.int (i32 (p0))) := eL0 ▸ (rfl : jGet [(0, rv (x)), (1, .int (i32 (p0))), (2, .int (i32 (p1))), (3, rv (ou))] 1 = some (.int (i32 (p0))))
  have g3 : jGet L0 2 = some (.int (i32 (p1))) := eL0 ▸ (rfl : jGet [(0, rv (x)), (1, .int (i32 (p0))), (2, .int (i32 (p1))), (3, rv (ou))] 2 = some (.int (i32 (p1))))
  have g4 : jGet L0 3 = some (rv (ou)) := eL0 ▸ (rfl : jGet [(0, rv (x)), (1, .int (i32 (p0))), (2, .int (i32 (p1))), (3, rv (ou))] 3 = some (rv (ou)))
  clear eL0
  refine jx_ld (pc_q := 1) (l_q := L0) (st_q := [rv (ou)]) rfl (jl_rvn g4) ?_
  refine jx_ar (pc_q := 2) (st_q := [.int (i32 (0)), rv (ou)]) rfl rfl rfl rfl ?_
  refine jx_ld (pc_q := 3) (l_q := L0) (st_q := [rv (x), .int (i32 (0)), rv (ou)]) rfl (jl_rvn g1) ?_
  refine jx_ld (pc_q := 4) (l_q := L0) (st_q := [.int (i32 (p0)), rv (x), .int (i32 (0)), rv (ou)]) rfl (jl_iloadn g2) ?_
  refine jx_ld (pc_q := 5) (l_q := L0) (st_q := [.int (i32 (p1)), .int (i32 (p0)), rv (x), .int (i32 (0)), rv (ou)]) rfl (jl_iloadn g3) ?_
  refine cx_vi (c := 0) (a := x) (st := [.int (i32 (0)), rv (ou)]) (as := [.int (i32 (p0)), .int (i32 (p1))]) rfl rfl rfl o_x t_x (by decide) rfl ⟨rfl, rfl, (by rw [jS_i, jS_r, jS_0]; exact Nat.le_of_ble_eq_true rfl)⟩ rfl (k_LY_processor (dd := d) (R := R) (m := m) (tg := tg) (ln := ln) (F := F) (me := x) (p := p0) (wh := p1) (hd := by omega) (hC := hC) (o_me := o_x) (t_me := t_x) (h_p := by omega) (h_wh := by omega) (c_NP := c_NP) (kk := kk) (c_SB := c_SB) (c_T3 := c_T3)) (fun o V_q hq => ?_)
  obtain ⟨m5, tg5, ln5, F6, r7, rfl, rfl, hx8, hC9, hM10, b11, p12, p13, c14, c15, c16, -⟩ | ⟨m17, tg17, ln17, F17, x17, rfl, rfl, hx17, hC17, hM17, ho17, ht17, p18, p19, c20, c21, c22, -⟩ := hq
  rotate_left
  · rcases ht17 with ht17 | ht17 | ht17
    ·
      refine Or.inr (Or.inr (Or.inl ⟨_, _, 13, rfl, cx_exc (c := 15) ho17 ht17 (by decide), rfl, ?_⟩))
      rw [← rv_x ho17]
      have hM23 := Fq_t (ln := ln) (ln1 := ln) hM0 hX0 hM17 (by decide) (Or.inl rfl)
      have ho24 : own m17 (x) ∧ tg17 (x) = 1 := Ex_o hx17 ⟨o_x, t_x⟩
      have ho25 : own m17 (ou) ∧ tg17 (ou) = 22 := Ex_o hx17 ⟨o_ou, t_ou⟩
      have ln26 : ln17 (ou) = 1 := (hx17.2 _ o_ou).2.trans p_0
      have hX27 := Ex_t hX0 hx17
      refine jx_ld (pc_q := 15) (l_q := jSto1 L0 4 (rv (((x17 : Nat) : Int)))) (st_q := []) rfl (js_rv (by decide)) ?_
      obtain ⟨L28, eL28⟩ : ∃ q : jL, q = jSto1 L0 4 (rv (((x17 : Nat) : Int))) := ⟨_, rfl⟩
      rw [← eL28]
      have g29 : jGet L28 0 = some (rv (x)) := eL28 ▸ jg_nr (by decide) g1
      have g30 : jGet L28 1 = some (.int (i32 (p0))) := eL28 ▸ jg_ne (by decide) g2 rfl
      have g31 : jGet L28 2 = some (.int (i32 (p1))) := eL28 ▸ jg_ne (by decide) g3 rfl
      have g32 : jGet L28 3 = some (rv (ou)) := eL28 ▸ jg_nr (by decide) g4
      have g33 : jGet L28 4 = some (rv (((x17 : Nat) : Int))) := eL28 ▸ jg_eq
      clear eL28
      refine jx_ar (pc_q := 16) (st_q := [.int (i32 (1))]) rfl rfl rfl rfl ?_
      refine jx_rt (v := some (.int (i32 (1)))) rfl rfl rfl rfl rfl rfl ?_
      exact ⟨m17, tg17, ln17, F17, (1), rfl, rfl, hX27, hC17, hM23, by omega, by omega, by omega, c20, SB_m c21 (by omega), c22, trivial⟩
    ·
      refine Or.inr (Or.inr (Or.inl ⟨_, _, 17, rfl, cx_exc (c := 16) ho17 ht17 (by decide), rfl, ?_⟩))
      rw [← rv_x ho17]
      have hM34 := Fq_t (ln := ln) (ln1 := ln) hM0 hX0 hM17 (by decide) (Or.inl rfl)
      have ho35 : own m17 (x) ∧ tg17 (x) = 1 := Ex_o hx17 ⟨o_x, t_x⟩
      have ho36 : own m17 (ou) ∧ tg17 (ou) = 22 := Ex_o hx17 ⟨o_ou, t_ou⟩
      have ln37 : ln17 (ou) = 1 := (hx17.2 _ o_ou).2.trans p_0
      have hX38 := Ex_t hX0 hx17
      refine jx_ld (pc_q := 19) (l_q := jSto1 L0 4 (rv (((x17 : Nat) : Int)))) (st_q := []) rfl (js_rv (by decide)) ?_
      obtain ⟨L39, eL39⟩ : ∃ q : jL, q = jSto1 L0 4 (rv (((x17 : Nat) : Int))) := ⟨_, rfl⟩
      rw [← eL39]
      have g40 : jGet L39 0 = some (rv (x)) := eL39 ▸ jg_nr (by decide) g1
      have g41 : jGet L39 1 = some (.int (i32 (p0))) := eL39 ▸ jg_ne (by decide) g2 rfl
      have g42 : jGet L39 2 = some (.int (i32 (p1))) := eL39 ▸ jg_ne (by decide) g3 rfl
      have g43 : jGet L39 3 = some (rv (ou)) := eL39 ▸ jg_nr (by decide) g4
      have g44 : jGet L39 4 = some (rv (((x17 : Nat) : Int))) := eL39 ▸ jg_eq
      clear eL39
      refine jx_ar (pc_q := 20) (st_q := [.int (i32 (2))]) rfl rfl rfl rfl ?_
      refine jx_rt (v := some (.int (i32 (2)))) rfl rfl rfl rfl rfl rfl ?_
      exact ⟨m17, tg17, ln17, F17, (2), rfl, rfl, hX38, hC17, hM34, by omega, by omega, by omega, c20, SB_m c21 (by omega), c22, trivial⟩
    ·
      refine Or.inr (Or.inr (Or.inl ⟨_, _, 21, rfl, cx_exc (c := 13) ho17 ht17 (by decide), rfl, ?_⟩))
      rw [← rv_x ho17]
      have hM45 := Fq_t (ln := ln) (ln1 := ln) hM0 hX0 hM17 (by decide) (Or.inl rfl)
      have ho46 : own m17 (x) ∧ tg17 (x) = 1 := Ex_o hx17 ⟨o_x, t_x⟩
      have ho47 : own m17 (ou) ∧ tg17 (ou) = 22 := Ex_o hx17 ⟨o_ou, t_ou⟩
      have ln48 : ln17 (ou) = 1 := (hx17.2 _ o_ou).2.trans p_0
      have hX49 := Ex_t hX0 hx17
      refine jx_ld (pc_q := 23) (l_q := jSto1 L0 4 (rv (((x17 : Nat) : Int)))) (st_q := []) rfl (js_rv (by decide)) ?_
      obtain ⟨L50, eL50⟩ : ∃ q : jL, q = jSto1 L0 4 (rv (((x17 : Nat) : Int))) := ⟨_, rfl⟩
      rw [← eL50]
      have g51 : jGet L50 0 = some (rv (x)) := eL50 ▸ jg_nr (by decide) g1
      have g52 : jGet L50 1 = some (.int (i32 (p0))) := eL50 ▸ jg_ne (by decide) g2 rfl
      have g53 : jGet L50 2 = some (.int (i32 (p1))) := eL50 ▸ jg_ne (by decide) g3 rfl
      have g54 : jGet L50 3 = some (rv (ou)) := eL50 ▸ jg_nr (by decide) g4
      have g55 : jGet L50 4 = some (rv (((x17 : Nat) : Int))) := eL50 ▸ jg_eq
      clear eL50
      refine jx_ar (pc_q := 24) (st_q := [.int (i32 (3))]) rfl rfl rfl rfl ?_
      refine jx_rt (v := some (.int (i32 (3)))) rfl rfl rfl rfl rfl rfl ?_
      exact ⟨m17, tg17, ln17, F17, (3), rfl, rfl, hX49, hC17, hM45, by omega, by omega, by omega, c20, SB_m c21 (by omega), c22, trivial⟩
  have hM56 : Fq 0 [(22, -5)] m tg F F6 := Fq_t (ln := ln) (ln1 := ln) hM0 hX0 hM10 (by decide) (Or.inl rfl)
  have ho57 : own m5 (x) ∧ tg5 (x) = 1 := Ex_o hx8 ⟨o_x, t_x⟩
  have ho58 : own m5 (ou) ∧ tg5 (ou) = 22 := Ex_o hx8 ⟨o_ou, t_ou⟩
  have ln59 : ln5 (ou) = 1 := (hx8.2 _ o_ou).2.trans p_0
  have hX60 := Ex_t hX0 hx8
  refine Or.inr (Or.inl ⟨_, rfl, ?_⟩)
  refine jx_ar (pc_q := 9) (st_q := .long ((i32 (r7)).toInt64) :: [.int (i32 (0)), rv (ou)]) rfl rfl rfl rfl ?_
  obtain ⟨y61, ey61⟩ : ∃ q : Int64, q = (i32 (r7)).toInt64 := ⟨_, rfl⟩
  rw [← ey61]
  have b62 := HC_l hC9 ho58.1 ho58.2 (by decide)
  refine cx_las (pc_q := 10) (z := 0) (y := y61) rfl rfl ho58.1 ho58.2 (by omega) (by omega) (by omega) ?_
  obtain ⟨F63, eF63⟩ : ∃ q, q = uF F6 (ou) (0 : Int) ((y61 : Int64).toInt) := ⟨_, rfl⟩
  rw [← eF63]
  have hC64 : HC 0 m5 tg5 ln5 F63 := by rw [eF63]; exact HC_pl hC9 ho58.2 (by omega)
  have hM65 : Fq 0 [(22, -5)] m tg F F63 := by rw [eF63]; exact Fq_p hM56 ho58.2 (fun w => (hX60.2 _ w).1) (inL_a rfl (by omega) rfl)
  have c66 : NP m5 tg5 F63 := by rw [eF63]; exact NP_u hC9 c14 ho58.2 (by omega)
  have c67 : SB m5 tg5 F63 ((kk)) := by rw [eF63]; exact SB_u c15 ho58.2 (by omega)
  refine jx_go (tg := 25) rfl rfl ?_
  refine jx_ar (pc_q := 26) (st_q := [.int (i32 (0))]) rfl rfl rfl rfl ?_
  refine jx_rt (v := some (.int (i32 (0)))) rfl rfl rfl rfl rfl rfl ?_
  exact ⟨m5, tg5, ln5, F63, (0), rfl, rfl, hX60, hC64, hM65, by omega, by omega, by omega, c66, SB_m c67 (by omega), c16, trivial⟩
set_option maxRecDepth 20000 in
set_option maxHeartbeats 4000000 in
theorem k_LLaw_code {X : jX} {dd : Nat} {R : Nat → jC} {m : Nat} {tg ln : Int → Int} {F : Int → Int → Int} {kk : Int} {x p0 p1 ou : Int} (hd : 4 ≤ dd) (hC : HC 0 m tg ln F) (o_x : own m x) (t_x : tg x = 1) (h_p0 : (-2147483648 : Int) ≤ p0 ∧ p0 ≤ 2147483647) (h_p1 : (-2147483648 : Int) ≤ p1 ∧ p1 ≤ 2147483647) (o_ou : own m ou) (t_ou : tg ou = 22) (s_ou : F ou (-1) = 0) (p_0 : ln ou = 1) (c_NP : NP m tg F) (c_SB : SB m tg F (kk)) (c_T3 : T3 m tg) : wk X dd 4 [rv x, .int (i32 p0), .int (i32 p1), rv ou] (cV R m tg ln F) (fun o V_q => ∃ (m_q : Nat) (tg_q ln_q : Int → Int) (F_q : Int → Int → Int) (r : Int), V_q = cV R m_q tg_q ln_q F_q ∧ o = .inl (some (.int (i32 r))) ∧ Ex m tg ln m_q tg_q ln_q ∧ HC 0 m_q tg_q ln_q F_q ∧ Fq 0 [(22, -5)] m tg F F_q ∧ (-2147483648 ≤ r ∧ r ≤ 2147483647) ∧ (szD m_q tg_q ln_q ≤ szD m tg ln + 25) ∧ ((m_q : Int) ≤ (m : Int) + 1) ∧ (NP m_q tg_q F_q) ∧ (SB m_q tg_q F_q (kk)) ∧ (T3 m_q tg_q) ∧ True) := by
  obtain ⟨d, rfl⟩ : ∃ d, dd = d + 1 := ⟨dd - 1, by omega⟩
  refine wk_of (e := jm4) rfl (by rw [jS_r, jS_i, jS_i, jS_r, jS_0]; exact Nat.le_of_ble_eq_true rfl) ?_
  rw [la_r, la_i, la_i, la_r, la_0]
  show wj X d jm4 (0, [(0, rv (x)), (1, .int (i32 (p0))), (2, .int (i32 (p1))), (3, rv (ou))], [], cV R m tg ln F) _
  have hM0 : Fq 0 [(22, -5)] m tg F F := Fq_r
  have hX0 : Ex m tg ln m tg ln := Ex_r
  obtain ⟨L0, eL0⟩ : ∃ q : jL, q = [(0, rv (x)), (1, .int (i32 (p0))), (2, .int (i32 (p1))), (3, rv (ou))] := ⟨_, rfl⟩
  rw [← eL0]
  have g1 : jGet L0 0 = some (rv (x)) := eL0 ▸ (rfl : jGet [(0, rv (x)), (1, .int (i32 (p0))), (2, .int (i32 (p1))), (3, rv (ou))] 0 = some (rv (x)))
  have g2 : jGet L0 1 = some (.int (i32 (p0))) := eL0 ▸ (rfl : jGet [(0, rv (x)), (1, .int (i32 (p0))), (2, .int (i32 (p1))), (3, rv (ou))] 1 = some (.int (i32 (p0))))
  have g3 : jGet L0 2 = some (.int (i32 (p1))) := eL0 ▸ (rfl : jGet [(0, rv (x)), (1, .int (i32 (p0))), (2, .int (i32 (p1))), (3, rv (ou))] 2 = some (.int (i32 (p1))))
  have g4 : jGet L0 3 = some (rv (ou)) := eL0 ▸ (rfl : jGet [(0, rv (x)), (1, .int (i32 (p0))), (2, .int (i32 (p1))), (3, rv (ou))] 3 = some (rv (ou)))
  clear eL0
  refine jx_ld (pc_q := 1) (l_q := L0) (st_q := [rv (ou)]) rfl (jl_rvn g4) ?_
  refine jx_ar (pc_q := 2) (st_q := [.int (i32 (0)), rv (ou)]) rfl rfl rfl rfl ?_
  refine jx_ld (pc_q := 3) (l_q := L0) (st_q := [rv (x), .int (i32 (0)), rv (ou)]) rfl (jl_rvn g1) ?_
  refine jx_ld (pc_q := 4) (l_q := L0) (st_q := [.int (i32 (p0)), rv (x), .int (i32 (0)), rv (ou)]) rfl (jl_iloadn g2) ?_
  refine jx_ld (pc_q := 5) (l_q := L0) (st_q := [.int (i32 (p1)), .int (i32 (p0)), rv (x), .int (i32 (0)), rv (ou)]) rfl (jl_iloadn g3) ?_
  refine cx_vi (c := 0) (a := x) (st := [.int (i32 (0)), rv (ou)]) (as := [.int (i32 (p0)), .int (i32 (p1))]) rfl rfl rfl o_x t_x (by decide) rfl ⟨rfl, rfl, (by rw [jS_i, jS_r, jS_0]; exact Nat.le_of_ble_eq_true rfl)⟩ rfl (k_LY_code (dd := d) (R := R) (m := m) (tg := tg) (ln := ln) (F := F) (me := x) (p := p0) (k := p1) (hd := by omega) (hC := hC) (o_me := o_x) (t_me := t_x) (h_p := by omega) (h_k := by omega) (c_NP := c_NP) (kk := kk) (c_SB := c_SB) (c_T3 := c_T3)) (fun o V_q hq => ?_)
  obtain ⟨m5, tg5, ln5, F6, r7, rfl, rfl, hx8, hC9, hM10, b11, p12, p13, c14, c15, c16, -⟩ | ⟨m17, tg17, ln17, F17, x17, rfl, rfl, hx17, hC17, hM17, ho17, ht17, p18, p19, c20, c21, c22, -⟩ := hq
  rotate_left
  · rcases ht17 with ht17 | ht17 | ht17
    ·
      refine Or.inr (Or.inr (Or.inl ⟨_, _, 13, rfl, cx_exc (c := 15) ho17 ht17 (by decide), rfl, ?_⟩))
      rw [← rv_x ho17]
      have hM23 := Fq_t (ln := ln) (ln1 := ln) hM0 hX0 hM17 (by decide) (Or.inl rfl)
      have ho24 : own m17 (x) ∧ tg17 (x) = 1 := Ex_o hx17 ⟨o_x, t_x⟩
      have ho25 : own m17 (ou) ∧ tg17 (ou) = 22 := Ex_o hx17 ⟨o_ou, t_ou⟩
      have ln26 : ln17 (ou) = 1 := (hx17.2 _ o_ou).2.trans p_0
      have hX27 := Ex_t hX0 hx17
      refine jx_ld (pc_q := 15) (l_q := jSto1 L0 4 (rv (((x17 : Nat) : Int)))) (st_q := []) rfl (js_rv (by decide)) ?_
      obtain ⟨L28, eL28⟩ : ∃ q : jL, q = jSto1 L0 4 (rv (((x17 : Nat) : Int))) := ⟨_, rfl⟩
      rw [← eL28]
      have g29 : jGet L28 0 = some (rv (x)) := eL28 ▸ jg_nr (by decide) g1
      have g30 : jGet L28 1 = some (.int (i32 (p0))) := eL28 ▸ jg_ne (by decide) g2 rfl
      have g31 : jGet L28 2 = some (.int (i32 (p1))) := eL28 ▸ jg_ne (by decide) g3 rfl
      have g32 : jGet L28 3 = some (rv (ou)) := eL28 ▸ jg_nr (by decide) g4
      have g33 : jGet L28 4 = some (rv (((x17 : Nat) : Int))) := eL28 ▸ jg_eq
      clear eL28
      refine jx_ar (pc_q := 16) (st_q := [.int (i32 (1))]) rfl rfl rfl rfl ?_
      refine jx_rt (v := some (.int (i32 (1)))) rfl rfl rfl rfl rfl rfl ?_
      exact ⟨m17, tg17, ln17, F17, (1), rfl, rfl, hX27, hC17, hM23, by omega, by omega, by omega, c20, SB_m c21 (by omega), c22, trivial⟩
    ·
      refine Or.inr (Or.inr (Or.inl ⟨_, _, 17, rfl, cx_exc (c := 16) ho17 ht17 (by decide), rfl, ?_⟩))
      rw [← rv_x ho17]
      have hM34 := Fq_t (ln := ln) (ln1 := ln) hM0 hX0 hM17 (by decide) (Or.inl rfl)
      have ho35 : own m17 (x) ∧ tg17 (x) = 1 := Ex_o hx17 ⟨o_x, t_x⟩
      have ho36 : own m17 (ou) ∧ tg17 (ou) = 22 := Ex_o hx17 ⟨o_ou, t_ou⟩
      have ln37 : ln17 (ou) = 1 := (hx17.2 _ o_ou).2.trans p_0
      have hX38 := Ex_t hX0 hx17
      refine jx_ld (pc_q := 19) (l_q := jSto1 L0 4 (rv (((x17 : Nat) : Int)))) (st_q := []) rfl (js_rv (by decide)) ?_
      obtain ⟨L39, eL39⟩ : ∃ q : jL, q = jSto1 L0 4 (rv (((x17 : Nat) : Int))) := ⟨_, rfl⟩
      rw [← eL39]
      have g40 : jGet L39 0 = some (rv (x)) := eL39 ▸ jg_nr (by decide) g1
      have g41 : jGet L39 1 = some (.int (i32 (p0))) := eL39 ▸ jg_ne (by decide) g2 rfl
      have g42 : jGet L39 2 = some (.int (i32 (p1))) := eL39 ▸ jg_ne (by decide) g3 rfl
      have g43 : jGet L39 3 = some (rv (ou)) := eL39 ▸ jg_nr (by decide) g4
      have g44 : jGet L39 4 = some (rv (((x17 : Nat) : Int))) := eL39 ▸ jg_eq
      clear eL39
      refine jx_ar (pc_q := 20) (st_q := [.int (i32 (2))]) rfl rfl rfl rfl ?_
      refine jx_rt (v := some (.int (i32 (2)))) rfl rfl rfl rfl rfl rfl ?_
      exact ⟨m17, tg17, ln17, F17, (2), rfl, rfl, hX38, hC17, hM34, by omega, by omega, by omega, c20, SB_m c21 (by omega), c22, trivial⟩
    ·
      refine Or.inr (Or.inr (Or.inl ⟨_, _, 21, rfl, cx_exc (c := 17) ho17 ht17 (by decide), rfl, ?_⟩))
      rw [← rv_x ho17]
      have hM45 := Fq_t (ln := ln) (ln1 := ln) hM0 hX0 hM17 (by decide) (Or.inl rfl)
      have ho46 : own m17 (x) ∧ tg17 (x) = 1 := Ex_o hx17 ⟨o_x, t_x⟩
      have ho47 : own m17 (ou) ∧ tg17 (ou) = 22 := Ex_o hx17 ⟨o_ou, t_ou⟩
      have ln48 : ln17 (ou) = 1 := (hx17.2 _ o_ou).2.trans p_0
      have hX49 := Ex_t hX0 hx17
      refine jx_ld (pc_q := 23) (l_q := jSto1 L0 4 (rv (((x17 : Nat) : Int)))) (st_q := []) rfl (js_rv (by decide)) ?_
      obtain ⟨L50, eL50⟩ : ∃ q : jL, q = jSto1 L0 4 (rv (((x17 : Nat) : Int))) := ⟨_, rfl⟩
      rw [← eL50]
      have g51 : jGet L50 0 = some (rv (x)) := eL50 ▸ jg_nr (by decide) g1
      have g52 : jGet L50 1 = some (.int (i32 (p0))) := eL50 ▸ jg_ne (by decide) g2 rfl
      have g53 : jGet L50 2 = some (.int (i32 (p1))) := eL50 ▸ jg_ne (by decide) g3 rfl
      have g54 : jGet L50 3 = some (rv (ou)) := eL50 ▸ jg_nr (by decide) g4
      have g55 : jGet L50 4 = some (rv (((x17 : Nat) : Int))) := eL50 ▸ jg_eq
      clear eL50
      refine jx_ar (pc_q := 24) (st_q := [.int (i32 (3))]) rfl rfl rfl rfl ?_
      refine jx_rt (v := some (.int (i32 (3)))) rfl rfl rfl rfl rfl rfl ?_
      exact ⟨m17, tg17, ln17, F17, (3), rfl, rfl, hX49, hC17, hM45, by omega, by omega, by omega, c20, SB_m c21 (by omega), c22, trivial⟩
  have hM56 : Fq 0 [(22, -5)] m tg F F6 := Fq_t (ln := ln) (ln1 := ln) hM0 hX0 hM10 (by decide) (Or.inl rfl)
  have ho57 : own m5 (x) ∧ tg5 (x) = 1 := Ex_o hx8 ⟨o_x, t_x⟩
  have ho58 : own m5 (ou) ∧ tg5 (ou) = 22 := Ex_o hx8 ⟨o_ou, t_ou⟩
  have ln59 : ln5 (ou) = 1 := (hx8.2 _ o_ou).2.trans p_0
  have hX60 := Ex_t hX0 hx8
  refine Or.inr (Or.inl ⟨_, rfl, ?_⟩)
  refine jx_ar (pc_q := 9) (st_q := .long ((i32 (r7)).toInt64) :: [.int (i32 (0)), rv (ou)]) rfl rfl rfl rfl ?_
  obtain ⟨y61, ey61⟩ : ∃ q : Int64, q = (i32 (r7)).toInt64 := ⟨_, rfl⟩
  rw [← ey61]
  have b62 := HC_l hC9 ho58.1 ho58.2 (by decide)
  refine cx_las (pc_q := 10) (z := 0) (y := y61) rfl rfl ho58.1 ho58.2 (by omega) (by omega) (by omega) ?_
  obtain ⟨F63, eF63⟩ : ∃ q, q = uF F6 (ou) (0 : Int) ((y61 : Int64).toInt) := ⟨_, rfl⟩
  rw [← eF63]
  have hC64 : HC 0 m5 tg5 ln5 F63 := by rw [eF63]; exact HC_pl hC9 ho58.2 (by omega)
  have hM65 : Fq 0 [(22, -5)] m tg F F63 := by rw [eF63]; exact Fq_p hM56 ho58.2 (fun w => (hX60.2 _ w).1) (inL_a rfl (by omega) rfl)
  have c66 : NP m5 tg5 F63 := by rw [eF63]; exact NP_u hC9 c14 ho58.2 (by omega)
  have c67 : SB m5 tg5 F63 ((kk)) := by rw [eF63]; exact SB_u c15 ho58.2 (by omega)
  refine jx_go (tg := 25) rfl rfl ?_
  refine jx_ar (pc_q := 26) (st_q := [.int (i32 (0))]) rfl rfl rfl rfl ?_
  refine jx_rt (v := some (.int (i32 (0)))) rfl rfl rfl rfl rfl rfl ?_
  exact ⟨m5, tg5, ln5, F63, (0), rfl, rfl, hX60, hC64, hM65, by omega, by omega, by omega, c66, SB_m c67 (by omega), c16, trivial⟩
set_option maxRecDepth 20000 in
set_option maxHeartbeats 4000000 in
theorem k_LLaw_instruction {X : jX} {dd : Nat} {R : Nat → jC} {m : Nat} {tg ln : Int → Int} {F : Int → Int → Int} {kk : Int} {x p0 p1 p2 ou : Int} (hd : 4 ≤ dd) (hC : HC 0 m tg ln F) (o_x : own m x) (t_x : tg x = 1) (h_p0 : (-2147483648 : Int) ≤ p0 ∧ p0 ≤ 2147483647) (h_p1 : (-2147483648 : Int) ≤ p1 ∧ p1 ≤ 2147483647) (h_p2 : (-2147483648 : Int) ≤ p2 ∧ p2 ≤ 2147483647) (o_ou : own m ou) (t_ou : tg ou = 22) (s_ou : F ou (-1) = 0) (p_0 : ln ou = 1) (c_NP : NP m tg F) (c_SB : SB m tg F (kk)) (c_T3 : T3 m tg) : wk X dd 5 [rv x, .int (i32 p0), .int (i32 p1), .int (i32 p2), rv ou] (cV R m tg ln F) (fun o V_q => ∃ (m_q : Nat) (tg_q ln_q : Int → Int) (F_q : Int → Int → Int) (r : Int), V_q = cV R m_q tg_q ln_q F_q ∧ o = .inl (some (.int (i32 r))) ∧ Ex m tg ln m_q tg_q ln_q ∧ HC 0 m_q tg_q ln_q F_q ∧ Fq 0 [(22, -5)] m tg F F_q ∧ (-2147483648 ≤ r ∧ r ≤ 2147483647) ∧ (szD m_q tg_q ln_q ≤ szD m tg ln + 25) ∧ ((m_q : Int) ≤ (m : Int) + 1) ∧ (NP m_q tg_q F_q) ∧ (SB m_q tg_q F_q (kk)) ∧ (T3 m_q tg_q) ∧ True) := by
  obtain ⟨d, rfl⟩ : ∃ d, dd = d + 1 := ⟨dd - 1, by omega⟩
  refine wk_of (e := jm5) rfl (by rw [jS_r, jS_i, jS_i, jS_i, jS_r, jS_0]; exact Nat.le_of_ble_eq_true rfl) ?_
  rw [la_r, la_i, la_i, la_i, la_r, la_0]
  show wj X d jm5 (0, [(0, rv (x)), (1, .int (i32 (p0))), (2, .int (i32 (p1))), (3, .int (i32 (p2))), (4, rv (ou))], [], cV R m tg ln F) _
  have hM0 : Fq 0 [(22, -5)] m tg F F := Fq_r
  have hX0 : Ex m tg ln m tg ln := Ex_r
  obtain ⟨L0, eL0⟩ : ∃ q : jL, q = [(0, rv (x)), (1, .int (i32 (p0))), (2, .int (i32 (p1))), (3, .int (i32 (p2))), (4, rv (ou))] := ⟨_, rfl⟩
  rw [← eL0]
  have g1 : jGet L0 0 = some (rv (x)) := eL0 ▸ (rfl : jGet [(0, rv (x)), (1, .int (i32 (p0))), (2, .int (i32 (p1))), (3, .int (i32 (p2))), (4, rv (ou))] 0 = some (rv (x)))
  have g2 : jGet L0 1 = some (.int (i32 (p0))) := eL0 ▸ (rfl : jGet [(0, rv (x)), (1, .int (i32 (p0))), (2, .int (i32 (p1))), (3, .int (i32 (p2))), (4, rv (ou))] 1 = some (.int (i32 (p0))))
  have g3 : jGet L0 2 = some (.int (i32 (p1))) := eL0 ▸ (rfl : jGet [(0, rv (x)), (1, .int (i32 (p0))), (2, .int (i32 (p1))), (3, .int (i32 (p2))), (4, rv (ou))] 2 = some (.int (i32 (p1))))
  have g4 : jGet L0 3 = some (.int (i32 (p2))) := eL0 ▸ (rfl : jGet [(0, rv (x)), (1, .int (i32 (p0))), (2, .int (i32 (p1))), (3, .int (i32 (p2))), (4, rv (ou))] 3 = some (.int (i32 (p2))))
  have g5 : jGet L0 4 = some (rv (ou)) := eL0 ▸ (rfl : jGet [(0, rv (x)), (1, .int (i32 (p0))), (2, .int (i32 (p1))), (3, .int (i32 (p2))), (4, rv (ou))] 4 = some (rv (ou)))
  clear eL0
  refine jx_ld (pc_q := 2) (l_q := L0) (st_q := [rv (ou)]) rfl (jl_rv g5) ?_
  refine jx_ar (pc_q := 3) (st_q := [.int (i32 (0)), rv (ou)]) rfl rfl rfl rfl ?_
  refine jx_ld (pc_q := 4) (l_q := L0) (st_q := [rv (x), .int (i32 (0)), rv (ou)]) rfl (jl_rvn g1) ?_
  refine jx_ld (pc_q := 5) (l_q := L0) (st_q := [.int (i32 (p0)), rv (x), .int (i32 (0)), rv (ou)]) rfl (jl_iloadn g2) ?_
  refine jx_ld (pc_q := 6) (l_q := L0) (st_q := [.int (i32 (p1)), .int (i32 (p0)), rv (x), .int (i32 (0)), rv (ou)]) rfl (jl_iloadn g3) ?_
  refine jx_ld (pc_q := 7) (l_q := L0) (st_q := [.int (i32 (p2)), .int (i32 (p1)), .int (i32 (p0)), rv (x), .int (i32 (0)), rv (ou)]) rfl (jl_iloadn g4) ?_
  refine cx_vi (c := 0) (a := x) (st := [.int (i32 (0)), rv (ou)]) (as := [.int (i32 (p0)), .int (i32 (p1)), .int (i32 (p2))]) rfl rfl rfl o_x t_x (by decide) rfl ⟨rfl, rfl, (by rw [jS_i, jS_r, jS_0]; exact Nat.le_of_ble_eq_true rfl)⟩ rfl (k_LY_instruction (dd := d) (R := R) (m := m) (tg := tg) (ln := ln) (F := F) (me := x) (p := p0) (k := p1) (wh := p2) (hd := by omega) (hC := hC) (o_me := o_x) (t_me := t_x) (h_p := by omega) (h_k := by omega) (h_wh := by omega) (c_NP := c_NP) (kk := kk) (c_SB := c_SB) (c_T3 := c_T3)) (fun o V_q hq => ?_)
  obtain ⟨m6, tg6, ln6, F7, r8, rfl, rfl, hx9, hC10, hM11, b12, p13, p14, c15, c16, c17, -⟩ | ⟨m18, tg18, ln18, F18, x18, rfl, rfl, hx18, hC18, hM18, ho18, ht18, p19, p20, c21, c22, c23, -⟩ := hq
  rotate_left
  · rcases ht18 with ht18 | ht18 | ht18 | ht18
    ·
      refine Or.inr (Or.inr (Or.inl ⟨_, _, 15, rfl, cx_exc (c := 15) ho18 ht18 (by decide), rfl, ?_⟩))
      rw [← rv_x ho18]
      have hM24 := Fq_t (ln := ln) (ln1 := ln) hM0 hX0 hM18 (by decide) (Or.inl rfl)
      have ho25 : own m18 (x) ∧ tg18 (x) = 1 := Ex_o hx18 ⟨o_x, t_x⟩
      have ho26 : own m18 (ou) ∧ tg18 (ou) = 22 := Ex_o hx18 ⟨o_ou, t_ou⟩
      have ln27 : ln18 (ou) = 1 := (hx18.2 _ o_ou).2.trans p_0
      have hX28 := Ex_t hX0 hx18
      refine jx_ld (pc_q := 17) (l_q := jSto1 L0 5 (rv (((x18 : Nat) : Int)))) (st_q := []) rfl (js_rv (by decide)) ?_
      obtain ⟨L29, eL29⟩ : ∃ q : jL, q = jSto1 L0 5 (rv (((x18 : Nat) : Int))) := ⟨_, rfl⟩
      rw [← eL29]
      have g30 : jGet L29 0 = some (rv (x)) := eL29 ▸ jg_nr (by decide) g1
      have g31 : jGet L29 1 = some (.int (i32 (p0))) := eL29 ▸ jg_ne (by decide) g2 rfl
      have g32 : jGet L29 2 = some (.int (i32 (p1))) := eL29 ▸ jg_ne (by decide) g3 rfl
      have g33 : jGet L29 3 = some (.int (i32 (p2))) := eL29 ▸ jg_ne (by decide) g4 rfl
      have g34 : jGet L29 4 = some (rv (ou)) := eL29 ▸ jg_nr (by decide) g5
      have g35 : jGet L29 5 = some (rv (((x18 : Nat) : Int))) := eL29 ▸ jg_eq
      clear eL29
      refine jx_ar (pc_q := 18) (st_q := [.int (i32 (1))]) rfl rfl rfl rfl ?_
      refine jx_rt (v := some (.int (i32 (1)))) rfl rfl rfl rfl rfl rfl ?_
      exact ⟨m18, tg18, ln18, F18, (1), rfl, rfl, hX28, hC18, hM24, by omega, by omega, by omega, c21, SB_m c22 (by omega), c23, trivial⟩
    ·
      refine Or.inr (Or.inr (Or.inl ⟨_, _, 19, rfl, cx_exc (c := 16) ho18 ht18 (by decide), rfl, ?_⟩))
      rw [← rv_x ho18]
      have hM36 := Fq_t (ln := ln) (ln1 := ln) hM0 hX0 hM18 (by decide) (Or.inl rfl)
      have ho37 : own m18 (x) ∧ tg18 (x) = 1 := Ex_o hx18 ⟨o_x, t_x⟩
      have ho38 : own m18 (ou) ∧ tg18 (ou) = 22 := Ex_o hx18 ⟨o_ou, t_ou⟩
      have ln39 : ln18 (ou) = 1 := (hx18.2 _ o_ou).2.trans p_0
      have hX40 := Ex_t hX0 hx18
      refine jx_ld (pc_q := 21) (l_q := jSto1 L0 5 (rv (((x18 : Nat) : Int)))) (st_q := []) rfl (js_rv (by decide)) ?_
      obtain ⟨L41, eL41⟩ : ∃ q : jL, q = jSto1 L0 5 (rv (((x18 : Nat) : Int))) := ⟨_, rfl⟩
      rw [← eL41]
      have g42 : jGet L41 0 = some (rv (x)) := eL41 ▸ jg_nr (by decide) g1
      have g43 : jGet L41 1 = some (.int (i32 (p0))) := eL41 ▸ jg_ne (by decide) g2 rfl
      have g44 : jGet L41 2 = some (.int (i32 (p1))) := eL41 ▸ jg_ne (by decide) g3 rfl
      have g45 : jGet L41 3 = some (.int (i32 (p2))) := eL41 ▸ jg_ne (by decide) g4 rfl
      have g46 : jGet L41 4 = some (rv (ou)) := eL41 ▸ jg_nr (by decide) g5
      have g47 : jGet L41 5 = some (rv (((x18 : Nat) : Int))) := eL41 ▸ jg_eq
      clear eL41
      refine jx_ar (pc_q := 22) (st_q := [.int (i32 (2))]) rfl rfl rfl rfl ?_
      refine jx_rt (v := some (.int (i32 (2)))) rfl rfl rfl rfl rfl rfl ?_
      exact ⟨m18, tg18, ln18, F18, (2), rfl, rfl, hX40, hC18, hM36, by omega, by omega, by omega, c21, SB_m c22 (by omega), c23, trivial⟩
    ·
      refine Or.inr (Or.inr (Or.inl ⟨_, _, 23, rfl, cx_exc (c := 17) ho18 ht18 (by decide), rfl, ?_⟩))
      rw [← rv_x ho18]
      have hM48 := Fq_t (ln := ln) (ln1 := ln) hM0 hX0 hM18 (by decide) (Or.inl rfl)
      have ho49 : own m18 (x) ∧ tg18 (x) = 1 := Ex_o hx18 ⟨o_x, t_x⟩
      have ho50 : own m18 (ou) ∧ tg18 (ou) = 22 := Ex_o hx18 ⟨o_ou, t_ou⟩
      have ln51 : ln18 (ou) = 1 := (hx18.2 _ o_ou).2.trans p_0
      have hX52 := Ex_t hX0 hx18
      refine jx_ld (pc_q := 25) (l_q := jSto1 L0 5 (rv (((x18 : Nat) : Int)))) (st_q := []) rfl (js_rv (by decide)) ?_
      obtain ⟨L53, eL53⟩ : ∃ q : jL, q = jSto1 L0 5 (rv (((x18 : Nat) : Int))) := ⟨_, rfl⟩
      rw [← eL53]
      have g54 : jGet L53 0 = some (rv (x)) := eL53 ▸ jg_nr (by decide) g1
      have g55 : jGet L53 1 = some (.int (i32 (p0))) := eL53 ▸ jg_ne (by decide) g2 rfl
      have g56 : jGet L53 2 = some (.int (i32 (p1))) := eL53 ▸ jg_ne (by decide) g3 rfl
      have g57 : jGet L53 3 = some (.int (i32 (p2))) := eL53 ▸ jg_ne (by decide) g4 rfl
      have g58 : jGet L53 4 = some (rv (ou)) := eL53 ▸ jg_nr (by decide) g5
      have g59 : jGet L53 5 = some (rv (((x18 : Nat) : Int))) := eL53 ▸ jg_eq
      clear eL53
      refine jx_ar (pc_q := 26) (st_q := [.int (i32 (3))]) rfl rfl rfl rfl ?_
      refine jx_rt (v := some (.int (i32 (3)))) rfl rfl rfl rfl rfl rfl ?_
      exact ⟨m18, tg18, ln18, F18, (3), rfl, rfl, hX52, hC18, hM48, by omega, by omega, by omega, c21, SB_m c22 (by omega), c23, trivial⟩
    ·
      refine Or.inr (Or.inr (Or.inl ⟨_, _, 27, rfl, cx_exc (c := 13) ho18 ht18 (by decide), rfl, ?_⟩))
      rw [← rv_x ho18]
      have hM60 := Fq_t (ln := ln) (ln1 := ln) hM0 hX0 hM18 (by decide) (Or.inl rfl)
      have ho61 : own m18 (x) ∧ tg18 (x) = 1 := Ex_o hx18 ⟨o_x, t_x⟩
      have ho62 : own m18 (ou) ∧ tg18 (ou) = 22 := Ex_o hx18 ⟨o_ou, t_ou⟩
      have ln63 : ln18 (ou) = 1 := (hx18.2 _ o_ou).2.trans p_0
      have hX64 := Ex_t hX0 hx18
      refine jx_ld (pc_q := 29) (l_q := jSto1 L0 5 (rv (((x18 : Nat) : Int)))) (st_q := []) rfl (js_rv (by decide)) ?_
      obtain ⟨L65, eL65⟩ : ∃ q : jL, q = jSto1 L0 5 (rv (((x18 : Nat) : Int))) := ⟨_, rfl⟩
      rw [← eL65]
      have g66 : jGet L65 0 = some (rv (x)) := eL65 ▸ jg_nr (by decide) g1
      have g67 : jGet L65 1 = some (.int (i32 (p0))) := eL65 ▸ jg_ne (by decide) g2 rfl
      have g68 : jGet L65 2 = some (.int (i32 (p1))) := eL65 ▸ jg_ne (by decide) g3 rfl
      have g69 : jGet L65 3 = some (.int (i32 (p2))) := eL65 ▸ jg_ne (by decide) g4 rfl
      have g70 : jGet L65 4 = some (rv (ou)) := eL65 ▸ jg_nr (by decide) g5
      have g71 : jGet L65 5 = some (rv (((x18 : Nat) : Int))) := eL65 ▸ jg_eq
      clear eL65
      refine jx_ar (pc_q := 30) (st_q := [.int (i32 (4))]) rfl rfl rfl rfl ?_
      refine jx_rt (v := some (.int (i32 (4)))) rfl rfl rfl rfl rfl rfl ?_
      exact ⟨m18, tg18, ln18, F18, (4), rfl, rfl, hX64, hC18, hM60, by omega, by omega, by omega, c21, SB_m c22 (by omega), c23, trivial⟩
  have hM72 : Fq 0 [(22, -5)] m tg F F7 := Fq_t (ln := ln) (ln1 := ln) hM0 hX0 hM11 (by decide) (Or.inl rfl)
  have ho73 : own m6 (x) ∧ tg6 (x) = 1 := Ex_o hx9 ⟨o_x, t_x⟩
  have ho74 : own m6 (ou) ∧ tg6 (ou) = 22 := Ex_o hx9 ⟨o_ou, t_ou⟩
  have ln75 : ln6 (ou) = 1 := (hx9.2 _ o_ou).2.trans p_0
  have hX76 := Ex_t hX0 hx9
  refine Or.inr (Or.inl ⟨_, rfl, ?_⟩)
  refine jx_ar (pc_q := 11) (st_q := .long ((i32 (r8)).toInt64) :: [.int (i32 (0)), rv (ou)]) rfl rfl rfl rfl ?_
  obtain ⟨y77, ey77⟩ : ∃ q : Int64, q = (i32 (r8)).toInt64 := ⟨_, rfl⟩
  rw [← ey77]
  have b78 := HC_l hC10 ho74.1 ho74.2 (by decide)
  refine cx_las (pc_q := 12) (z := 0) (y := y77) rfl rfl ho74.1 ho74.2 (by omega) (by omega) (by omega) ?_
  obtain ⟨F79, eF79⟩ : ∃ q, q = uF F7 (ou) (0 : Int) ((y77 : Int64).toInt) := ⟨_, rfl⟩
  rw [← eF79]
  have hC80 : HC 0 m6 tg6 ln6 F79 := by rw [eF79]; exact HC_pl hC10 ho74.2 (by omega)
  have hM81 : Fq 0 [(22, -5)] m tg F F79 := by rw [eF79]; exact Fq_p hM72 ho74.2 (fun w => (hX76.2 _ w).1) (inL_a rfl (by omega) rfl)
  have c82 : NP m6 tg6 F79 := by rw [eF79]; exact NP_u hC10 c15 ho74.2 (by omega)
  have c83 : SB m6 tg6 F79 ((kk)) := by rw [eF79]; exact SB_u c16 ho74.2 (by omega)
  refine jx_go (tg := 31) rfl rfl ?_
  refine jx_ar (pc_q := 32) (st_q := [.int (i32 (0))]) rfl rfl rfl rfl ?_
  refine jx_rt (v := some (.int (i32 (0)))) rfl rfl rfl rfl rfl rfl ?_
  exact ⟨m6, tg6, ln6, F79, (0), rfl, rfl, hX76, hC80, hM81, by omega, by omega, by omega, c82, SB_m c83 (by omega), c17, trivial⟩
set_option maxRecDepth 20000 in
set_option maxHeartbeats 4000000 in
theorem k_LLaw_link {X : jX} {dd : Nat} {R : Nat → jC} {m : Nat} {tg ln : Int → Int} {F : Int → Int → Int} {kk : Int} {x p0 p1 ou : Int} (hd : 3 ≤ dd) (hC : HC 0 m tg ln F) (o_x : own m x) (t_x : tg x = 1) (h_p0 : (-2147483648 : Int) ≤ p0 ∧ p0 ≤ 2147483647) (h_p1 : (-2147483648 : Int) ≤ p1 ∧ p1 ≤ 2147483647) (o_ou : own m ou) (t_ou : tg ou = 22) (s_ou : F ou (-1) = 0) (p_0 : ln ou = 1) (c_NP : NP m tg F) (c_SB : SB m tg F (kk)) (c_T3 : T3 m tg) : wk X dd 6 [rv x, .int (i32 p0), .int (i32 p1), rv ou] (cV R m tg ln F) (fun o V_q => ∃ (m_q : Nat) (tg_q ln_q : Int → Int) (F_q : Int → Int → Int) (r : Int), V_q = cV R m_q tg_q ln_q F_q ∧ o = .inl (some (.int (i32 r))) ∧ Ex m tg ln m_q tg_q ln_q ∧ HC 0 m_q tg_q ln_q F_q ∧ Fq 0 [(22, -5)] m tg F F_q ∧ (-2147483648 ≤ r ∧ r ≤ 2147483647) ∧ (szD m_q tg_q ln_q ≤ szD m tg ln + 25) ∧ ((m_q : Int) ≤ (m : Int) + 1) ∧ (NP m_q tg_q F_q) ∧ (SB m_q tg_q F_q (kk)) ∧ (T3 m_q tg_q) ∧ True) := by
  obtain ⟨d, rfl⟩ : ∃ d, dd = d + 1 := ⟨dd - 1, by omega⟩
  refine wk_of (e := jm6) rfl (by rw [jS_r, jS_i, jS_i, jS_r, jS_0]; exact Nat.le_of_ble_eq_true rfl) ?_
  rw [la_r, la_i, la_i, la_r, la_0]
  show wj X d jm6 (0, [(0, rv (x)), (1, .int (i32 (p0))), (2, .int (i32 (p1))), (3, rv (ou))], [], cV R m tg ln F) _
  have hM0 : Fq 0 [(22, -5)] m tg F F := Fq_r
  have hX0 : Ex m tg ln m tg ln := Ex_r
  obtain ⟨L0, eL0⟩ : ∃ q : jL, q = [(0, rv (x)), (1, .int (i32 (p0))), (2, .int (i32 (p1))), (3, rv (ou))] := ⟨_, rfl⟩
  rw [← eL0]
  have g1 : jGet L0 0 = some (rv (x)) := eL0 ▸ (rfl : jGet [(0, rv (x)), (1, .int (i32 (p0))), (2, .int (i32 (p1))), (3, rv (ou))] 0 = some (rv (x)))
  have g2 : jGet L0 1 = some (.int (i32 (p0))) := eL0 ▸ (rfl : jGet [(0, rv (x)), (1, .int (i32 (p0))), (2, .int (i32 (p1))), (3, rv (ou))] 1 = some (.int (i32 (p0))))
  have g3 : jGet L0 2 = some (.int (i32 (p1))) := eL0 ▸ (rfl : jGet [(0, rv (x)), (1, .int (i32 (p0))), (2, .int (i32 (p1))), (3, rv (ou))] 2 = some (.int (i32 (p1))))
  have g4 : jGet L0 3 = some (rv (ou)) := eL0 ▸ (rfl : jGet [(0, rv (x)), (1, .int (i32 (p0))), (2, .int (i32 (p1))), (3, rv (ou))] 3 = some (rv (ou)))
  clear eL0
  refine jx_ld (pc_q := 1) (l_q := L0) (st_q := [rv (ou)]) rfl (jl_rvn g4) ?_
  refine jx_ar (pc_q := 2) (st_q := [.int (i32 (0)), rv (ou)]) rfl rfl rfl rfl ?_
  refine jx_ld (pc_q := 3) (l_q := L0) (st_q := [rv (x), .int (i32 (0)), rv (ou)]) rfl (jl_rvn g1) ?_
  refine jx_ld (pc_q := 4) (l_q := L0) (st_q := [.int (i32 (p0)), rv (x), .int (i32 (0)), rv (ou)]) rfl (jl_iloadn g2) ?_
  refine jx_ld (pc_q := 5) (l_q := L0) (st_q := [.int (i32 (p1)), .int (i32 (p0)), rv (x), .int (i32 (0)), rv (ou)]) rfl (jl_iloadn g3) ?_
  refine cx_vi (c := 0) (a := x) (st := [.int (i32 (0)), rv (ou)]) (as := [.int (i32 (p0)), .int (i32 (p1))]) rfl rfl rfl o_x t_x (by decide) rfl ⟨rfl, rfl, (by rw [jS_i, jS_r, jS_0]; exact Nat.le_of_ble_eq_true rfl)⟩ rfl (k_LY_link (dd := d) (R := R) (m := m) (tg := tg) (ln := ln) (F := F) (me := x) (l := p0) (wh := p1) (hd := by omega) (hC := hC) (o_me := o_x) (t_me := t_x) (h_l := by omega) (h_wh := by omega) (c_NP := c_NP) (kk := kk) (c_SB := c_SB) (c_T3 := c_T3)) (fun o V_q hq => ?_)
  obtain ⟨m5, tg5, ln5, F6, r7, rfl, rfl, hx8, hC9, hM10, b11, p12, p13, c14, c15, c16, -⟩ | ⟨m17, tg17, ln17, F17, x17, rfl, rfl, hx17, hC17, hM17, ho17, ht17, p18, p19, c20, c21, c22, -⟩ := hq
  rotate_left
  · rcases ht17 with ht17 | ht17 | ht17
    ·
      refine Or.inr (Or.inr (Or.inl ⟨_, _, 13, rfl, cx_exc (c := 15) ho17 ht17 (by decide), rfl, ?_⟩))
      rw [← rv_x ho17]
      have hM23 := Fq_t (ln := ln) (ln1 := ln) hM0 hX0 hM17 (by decide) (Or.inl rfl)
      have ho24 : own m17 (x) ∧ tg17 (x) = 1 := Ex_o hx17 ⟨o_x, t_x⟩
      have ho25 : own m17 (ou) ∧ tg17 (ou) = 22 := Ex_o hx17 ⟨o_ou, t_ou⟩
      have ln26 : ln17 (ou) = 1 := (hx17.2 _ o_ou).2.trans p_0
      have hX27 := Ex_t hX0 hx17
      refine jx_ld (pc_q := 15) (l_q := jSto1 L0 4 (rv (((x17 : Nat) : Int)))) (st_q := []) rfl (js_rv (by decide)) ?_
      obtain ⟨L28, eL28⟩ : ∃ q : jL, q = jSto1 L0 4 (rv (((x17 : Nat) : Int))) := ⟨_, rfl⟩
      rw [← eL28]
      have g29 : jGet L28 0 = some (rv (x)) := eL28 ▸ jg_nr (by decide) g1
      have g30 : jGet L28 1 = some (.int (i32 (p0))) := eL28 ▸ jg_ne (by decide) g2 rfl
      have g31 : jGet L28 2 = some (.int (i32 (p1))) := eL28 ▸ jg_ne (by decide) g3 rfl
      have g32 : jGet L28 3 = some (rv (ou)) := eL28 ▸ jg_nr (by decide) g4
      have g33 : jGet L28 4 = some (rv (((x17 : Nat) : Int))) := eL28 ▸ jg_eq
      clear eL28
      refine jx_ar (pc_q := 16) (st_q := [.int (i32 (1))]) rfl rfl rfl rfl ?_
      refine jx_rt (v := some (.int (i32 (1)))) rfl rfl rfl rfl rfl rfl ?_
      exact ⟨m17, tg17, ln17, F17, (1), rfl, rfl, hX27, hC17, hM23, by omega, by omega, by omega, c20, SB_m c21 (by omega), c22, trivial⟩
    ·
      refine Or.inr (Or.inr (Or.inl ⟨_, _, 17, rfl, cx_exc (c := 17) ho17 ht17 (by decide), rfl, ?_⟩))
      rw [← rv_x ho17]
      have hM34 := Fq_t (ln := ln) (ln1 := ln) hM0 hX0 hM17 (by decide) (Or.inl rfl)
      have ho35 : own m17 (x) ∧ tg17 (x) = 1 := Ex_o hx17 ⟨o_x, t_x⟩
      have ho36 : own m17 (ou) ∧ tg17 (ou) = 22 := Ex_o hx17 ⟨o_ou, t_ou⟩
      have ln37 : ln17 (ou) = 1 := (hx17.2 _ o_ou).2.trans p_0
      have hX38 := Ex_t hX0 hx17
      refine jx_ld (pc_q := 19) (l_q := jSto1 L0 4 (rv (((x17 : Nat) : Int)))) (st_q := []) rfl (js_rv (by decide)) ?_
      obtain ⟨L39, eL39⟩ : ∃ q : jL, q = jSto1 L0 4 (rv (((x17 : Nat) : Int))) := ⟨_, rfl⟩
      rw [← eL39]
      have g40 : jGet L39 0 = some (rv (x)) := eL39 ▸ jg_nr (by decide) g1
      have g41 : jGet L39 1 = some (.int (i32 (p0))) := eL39 ▸ jg_ne (by decide) g2 rfl
      have g42 : jGet L39 2 = some (.int (i32 (p1))) := eL39 ▸ jg_ne (by decide) g3 rfl
      have g43 : jGet L39 3 = some (rv (ou)) := eL39 ▸ jg_nr (by decide) g4
      have g44 : jGet L39 4 = some (rv (((x17 : Nat) : Int))) := eL39 ▸ jg_eq
      clear eL39
      refine jx_ar (pc_q := 20) (st_q := [.int (i32 (2))]) rfl rfl rfl rfl ?_
      refine jx_rt (v := some (.int (i32 (2)))) rfl rfl rfl rfl rfl rfl ?_
      exact ⟨m17, tg17, ln17, F17, (2), rfl, rfl, hX38, hC17, hM34, by omega, by omega, by omega, c20, SB_m c21 (by omega), c22, trivial⟩
    ·
      refine Or.inr (Or.inr (Or.inl ⟨_, _, 21, rfl, cx_exc (c := 13) ho17 ht17 (by decide), rfl, ?_⟩))
      rw [← rv_x ho17]
      have hM45 := Fq_t (ln := ln) (ln1 := ln) hM0 hX0 hM17 (by decide) (Or.inl rfl)
      have ho46 : own m17 (x) ∧ tg17 (x) = 1 := Ex_o hx17 ⟨o_x, t_x⟩
      have ho47 : own m17 (ou) ∧ tg17 (ou) = 22 := Ex_o hx17 ⟨o_ou, t_ou⟩
      have ln48 : ln17 (ou) = 1 := (hx17.2 _ o_ou).2.trans p_0
      have hX49 := Ex_t hX0 hx17
      refine jx_ld (pc_q := 23) (l_q := jSto1 L0 4 (rv (((x17 : Nat) : Int)))) (st_q := []) rfl (js_rv (by decide)) ?_
      obtain ⟨L50, eL50⟩ : ∃ q : jL, q = jSto1 L0 4 (rv (((x17 : Nat) : Int))) := ⟨_, rfl⟩
      rw [← eL50]
      have g51 : jGet L50 0 = some (rv (x)) := eL50 ▸ jg_nr (by decide) g1
      have g52 : jGet L50 1 = some (.int (i32 (p0))) := eL50 ▸ jg_ne (by decide) g2 rfl
      have g53 : jGet L50 2 = some (.int (i32 (p1))) := eL50 ▸ jg_ne (by decide) g3 rfl
      have g54 : jGet L50 3 = some (rv (ou)) := eL50 ▸ jg_nr (by decide) g4
      have g55 : jGet L50 4 = some (rv (((x17 : Nat) : Int))) := eL50 ▸ jg_eq
      clear eL50
      refine jx_ar (pc_q := 24) (st_q := [.int (i32 (3))]) rfl rfl rfl rfl ?_
      refine jx_rt (v := some (.int (i32 (3)))) rfl rfl rfl rfl rfl rfl ?_
      exact ⟨m17, tg17, ln17, F17, (3), rfl, rfl, hX49, hC17, hM45, by omega, by omega, by omega, c20, SB_m c21 (by omega), c22, trivial⟩
  have hM56 : Fq 0 [(22, -5)] m tg F F6 := Fq_t (ln := ln) (ln1 := ln) hM0 hX0 hM10 (by decide) (Or.inl rfl)
  have ho57 : own m5 (x) ∧ tg5 (x) = 1 := Ex_o hx8 ⟨o_x, t_x⟩
  have ho58 : own m5 (ou) ∧ tg5 (ou) = 22 := Ex_o hx8 ⟨o_ou, t_ou⟩
  have ln59 : ln5 (ou) = 1 := (hx8.2 _ o_ou).2.trans p_0
  have hX60 := Ex_t hX0 hx8
  refine Or.inr (Or.inl ⟨_, rfl, ?_⟩)
  refine jx_ar (pc_q := 9) (st_q := .long ((i32 (r7)).toInt64) :: [.int (i32 (0)), rv (ou)]) rfl rfl rfl rfl ?_
  obtain ⟨y61, ey61⟩ : ∃ q : Int64, q = (i32 (r7)).toInt64 := ⟨_, rfl⟩
  rw [← ey61]
  have b62 := HC_l hC9 ho58.1 ho58.2 (by decide)
  refine cx_las (pc_q := 10) (z := 0) (y := y61) rfl rfl ho58.1 ho58.2 (by omega) (by omega) (by omega) ?_
  obtain ⟨F63, eF63⟩ : ∃ q, q = uF F6 (ou) (0 : Int) ((y61 : Int64).toInt) := ⟨_, rfl⟩
  rw [← eF63]
  have hC64 : HC 0 m5 tg5 ln5 F63 := by rw [eF63]; exact HC_pl hC9 ho58.2 (by omega)
  have hM65 : Fq 0 [(22, -5)] m tg F F63 := by rw [eF63]; exact Fq_p hM56 ho58.2 (fun w => (hX60.2 _ w).1) (inL_a rfl (by omega) rfl)
  have c66 : NP m5 tg5 F63 := by rw [eF63]; exact NP_u hC9 c14 ho58.2 (by omega)
  have c67 : SB m5 tg5 F63 ((kk)) := by rw [eF63]; exact SB_u c15 ho58.2 (by omega)
  refine jx_go (tg := 25) rfl rfl ?_
  refine jx_ar (pc_q := 26) (st_q := [.int (i32 (0))]) rfl rfl rfl rfl ?_
  refine jx_rt (v := some (.int (i32 (0)))) rfl rfl rfl rfl rfl rfl ?_
  exact ⟨m5, tg5, ln5, F63, (0), rfl, rfl, hX60, hC64, hM65, by omega, by omega, by omega, c66, SB_m c67 (by omega), c16, trivial⟩
set_option maxRecDepth 20000 in
set_option maxHeartbeats 4000000 in
theorem k_LLaw_outcome {X : jX} {dd : Nat} {R : Nat → jC} {m : Nat} {tg ln : Int → Int} {F : Int → Int → Int} {kk : Int} {x ou : Int} (hd : 4 ≤ dd) (hC : HC 0 m tg ln F) (o_x : own m x) (t_x : tg x = 1) (o_ou : own m ou) (t_ou : tg ou = 22) (s_ou : F ou (-1) = 0) (p_0 : ln ou = 1) (c_NP : NP m tg F) (c_SB : SB m tg F (kk)) (c_T3 : T3 m tg) : wk X dd 12 [rv x, rv ou] (cV R m tg ln F) (fun o V_q => ∃ (m_q : Nat) (tg_q ln_q : Int → Int) (F_q : Int → Int → Int) (r : Int), V_q = cV R m_q tg_q ln_q F_q ∧ o = .inl (some (.int (i32 r))) ∧ Ex m tg ln m_q tg_q ln_q ∧ HC 0 m_q tg_q ln_q F_q ∧ Fq 0 [(22, -5)] m tg F F_q ∧ (-2147483648 ≤ r ∧ r ≤ 2147483647) ∧ (szD m_q tg_q ln_q ≤ szD m tg ln + 25) ∧ ((m_q : Int) ≤ (m : Int) + 1) ∧ (NP m_q tg_q F_q) ∧ (SB m_q tg_q F_q (kk)) ∧ (T3 m_q tg_q) ∧ True) := by
  obtain ⟨d, rfl⟩ : ∃ d, dd = d + 1 := ⟨dd - 1, by omega⟩
  refine wk_of (e := jm12) rfl (by rw [jS_r, jS_r, jS_0]; exact Nat.le_of_ble_eq_true rfl) ?_
  rw [la_r, la_r, la_0]
  show wj X d jm12 (0, [(0, rv (x)), (1, rv (ou))], [], cV R m tg ln F) _
  have hM0 : Fq 0 [(22, -5)] m tg F F := Fq_r
  have hX0 : Ex m tg ln m tg ln := Ex_r
  obtain ⟨L0, eL0⟩ : ∃ q : jL, q = [(0, rv (x)), (1, rv (ou))] := ⟨_, rfl⟩
  rw [← eL0]
  have g1 : jGet L0 0 = some (rv (x)) := eL0 ▸ (rfl : jGet [(0, rv (x)), (1, rv (ou))] 0 = some (rv (x)))
  have g2 : jGet L0 1 = some (rv (ou)) := eL0 ▸ (rfl : jGet [(0, rv (x)), (1, rv (ou))] 1 = some (rv (ou)))
  clear eL0
  refine jx_ld (pc_q := 1) (l_q := L0) (st_q := [rv (ou)]) rfl (jl_rvn g2) ?_
  refine jx_ar (pc_q := 2) (st_q := [.int (i32 (0)), rv (ou)]) rfl rfl rfl rfl ?_
  refine jx_ld (pc_q := 3) (l_q := L0) (st_q := [rv (x), .int (i32 (0)), rv (ou)]) rfl (jl_rvn g1) ?_
  refine cx_vi (c := 0) (a := x) (st := [.int (i32 (0)), rv (ou)]) (as := []) rfl rfl rfl o_x t_x (by decide) rfl ⟨rfl, rfl, (by rw [jS_i, jS_r, jS_0]; exact Nat.le_of_ble_eq_true rfl)⟩ rfl (k_LY_outcome (dd := d) (R := R) (m := m) (tg := tg) (ln := ln) (F := F) (me := x) (hd := by omega) (hC := hC) (o_me := o_x) (t_me := t_x) (c_NP := c_NP) (kk := kk) (c_SB := c_SB) (c_T3 := c_T3)) (fun o V_q hq => ?_)
  obtain ⟨m3, tg3, ln3, F4, r5, rfl, rfl, hx6, hC7, hM8, b9, p10, p11, c12, c13, c14, -⟩ | ⟨m15, tg15, ln15, F15, x15, rfl, rfl, hx15, hC15, hM15, ho15, ht15, p16, p17, c18, c19, c20, -⟩ := hq
  rotate_left
  ·
    refine Or.inr (Or.inr (Or.inl ⟨_, _, 11, rfl, cx_exc (c := 15) ho15 ht15 (by decide), rfl, ?_⟩))
    rw [← rv_x ho15]
    have hM21 := Fq_t (ln := ln) (ln1 := ln) hM0 hX0 hM15 (by decide) (Or.inl rfl)
    have ho22 : own m15 (x) ∧ tg15 (x) = 1 := Ex_o hx15 ⟨o_x, t_x⟩
    have ho23 : own m15 (ou) ∧ tg15 (ou) = 22 := Ex_o hx15 ⟨o_ou, t_ou⟩
    have ln24 : ln15 (ou) = 1 := (hx15.2 _ o_ou).2.trans p_0
    have hX25 := Ex_t hX0 hx15
    refine jx_ld (pc_q := 12) (l_q := jSto1 L0 2 (rv (((x15 : Nat) : Int)))) (st_q := []) rfl (js_rvn (by decide)) ?_
    obtain ⟨L26, eL26⟩ : ∃ q : jL, q = jSto1 L0 2 (rv (((x15 : Nat) : Int))) := ⟨_, rfl⟩
    rw [← eL26]
    have g27 : jGet L26 0 = some (rv (x)) := eL26 ▸ jg_nr (by decide) g1
    have g28 : jGet L26 1 = some (rv (ou)) := eL26 ▸ jg_nr (by decide) g2
    have g29 : jGet L26 2 = some (rv (((x15 : Nat) : Int))) := eL26 ▸ jg_eq
    clear eL26
    refine jx_ar (pc_q := 13) (st_q := [.int (i32 (1))]) rfl rfl rfl rfl ?_
    refine jx_rt (v := some (.int (i32 (1)))) rfl rfl rfl rfl rfl rfl ?_
    exact ⟨m15, tg15, ln15, F15, (1), rfl, rfl, hX25, hC15, hM21, by omega, by omega, by omega, c18, SB_m c19 (by omega), c20, trivial⟩
  have hM30 : Fq 0 [(22, -5)] m tg F F4 := Fq_t (ln := ln) (ln1 := ln) hM0 hX0 hM8 (by decide) (Or.inl rfl)
  have ho31 : own m3 (x) ∧ tg3 (x) = 1 := Ex_o hx6 ⟨o_x, t_x⟩
  have ho32 : own m3 (ou) ∧ tg3 (ou) = 22 := Ex_o hx6 ⟨o_ou, t_ou⟩
  have ln33 : ln3 (ou) = 1 := (hx6.2 _ o_ou).2.trans p_0
  have hX34 := Ex_t hX0 hx6
  refine Or.inr (Or.inl ⟨_, rfl, ?_⟩)
  refine jx_ar (pc_q := 7) (st_q := .long ((i32 (r5)).toInt64) :: [.int (i32 (0)), rv (ou)]) rfl rfl rfl rfl ?_
  obtain ⟨y35, ey35⟩ : ∃ q : Int64, q = (i32 (r5)).toInt64 := ⟨_, rfl⟩
  rw [← ey35]
  have b36 := HC_l hC7 ho32.1 ho32.2 (by decide)
  refine cx_las (pc_q := 8) (z := 0) (y := y35) rfl rfl ho32.1 ho32.2 (by omega) (by omega) (by omega) ?_
  obtain ⟨F37, eF37⟩ : ∃ q, q = uF F4 (ou) (0 : Int) ((y35 : Int64).toInt) := ⟨_, rfl⟩
  rw [← eF37]
  have hC38 : HC 0 m3 tg3 ln3 F37 := by rw [eF37]; exact HC_pl hC7 ho32.2 (by omega)
  have hM39 : Fq 0 [(22, -5)] m tg F F37 := by rw [eF37]; exact Fq_p hM30 ho32.2 (fun w => (hX34.2 _ w).1) (inL_a rfl (by omega) rfl)
  have c40 : NP m3 tg3 F37 := by rw [eF37]; exact NP_u hC7 c12 ho32.2 (by omega)
  have c41 : SB m3 tg3 F37 ((kk)) := by rw [eF37]; exact SB_u c13 ho32.2 (by omega)
  refine jx_go (tg := 14) rfl rfl ?_
  refine jx_ar (pc_q := 15) (st_q := [.int (i32 (0))]) rfl rfl rfl rfl ?_
  refine jx_rt (v := some (.int (i32 (0)))) rfl rfl rfl rfl rfl rfl ?_
  exact ⟨m3, tg3, ln3, F37, (0), rfl, rfl, hX34, hC38, hM39, by omega, by omega, by omega, c40, SB_m c41 (by omega), c14, trivial⟩
set_option maxRecDepth 20000 in
set_option maxHeartbeats 4000000 in
theorem k_LLaw_core {X : jX} {dd : Nat} {R : Nat → jC} {m : Nat} {tg ln : Int → Int} {F : Int → Int → Int} {kk : Int} {x p0 p1 ou : Int} (hd : 4 ≤ dd) (hC : HC 0 m tg ln F) (o_x : own m x) (t_x : tg x = 1) (h_p0 : (-2147483648 : Int) ≤ p0 ∧ p0 ≤ 2147483647) (h_p1 : (-2147483648 : Int) ≤ p1 ∧ p1 ≤ 2147483647) (o_ou : own m ou) (t_ou : tg ou = 22) (s_ou : F ou (-1) = 0) (p_0 : ln ou = 1) (c_NP : NP m tg F) (c_SB : SB m tg F (kk)) (c_T3 : T3 m tg) : wk X dd 13 [rv x, .int (i32 p0), .int (i32 p1), rv ou] (cV R m tg ln F) (fun o V_q => ∃ (m_q : Nat) (tg_q ln_q : Int → Int) (F_q : Int → Int → Int) (r : Int), V_q = cV R m_q tg_q ln_q F_q ∧ o = .inl (some (.int (i32 r))) ∧ Ex m tg ln m_q tg_q ln_q ∧ HC 0 m_q tg_q ln_q F_q ∧ Fq 0 [(22, -5)] m tg F F_q ∧ (-2147483648 ≤ r ∧ r ≤ 2147483647) ∧ (szD m_q tg_q ln_q ≤ szD m tg ln + 25) ∧ ((m_q : Int) ≤ (m : Int) + 1) ∧ (NP m_q tg_q F_q) ∧ (SB m_q tg_q F_q (kk)) ∧ (T3 m_q tg_q) ∧ True) := by
  obtain ⟨d, rfl⟩ : ∃ d, dd = d + 1 := ⟨dd - 1, by omega⟩
  refine wk_of (e := jm13) rfl (by rw [jS_r, jS_i, jS_i, jS_r, jS_0]; exact Nat.le_of_ble_eq_true rfl) ?_
  rw [la_r, la_i, la_i, la_r, la_0]
  show wj X d jm13 (0, [(0, rv (x)), (1, .int (i32 (p0))), (2, .int (i32 (p1))), (3, rv (ou))], [], cV R m tg ln F) _
  have hM0 : Fq 0 [(22, -5)] m tg F F := Fq_r
  have hX0 : Ex m tg ln m tg ln := Ex_r
  obtain ⟨L0, eL0⟩ : ∃ q : jL, q = [(0, rv (x)), (1, .int (i32 (p0))), (2, .int (i32 (p1))), (3, rv (ou))] := ⟨_, rfl⟩
  rw [← eL0]
  have g1 : jGet L0 0 = some (rv (x)) := eL0 ▸ (rfl : jGet [(0, rv (x)), (1, .int (i32 (p0))), (2, .int (i32 (p1))), (3, rv (ou))] 0 = some (rv (x)))
  have g2 : jGet L0 1 = some (.int (i32 (p0))) := eL0 ▸ (rfl : jGet [(0, rv (x)), (1, .int (i32 (p0))), (2, .int (i32 (p1))), (3, rv (ou))] 1 = some (.int (i32 (p0))))
  have g3 : jGet L0 2 = some (.int (i32 (p1))) := eL0 ▸ (rfl : jGet [(0, rv (x)), (1, .int (i32 (p0))), (2, .int (i32 (p1))), (3, rv (ou))] 2 = some (.int (i32 (p1))))
  have g4 : jGet L0 3 = some (rv (ou)) := eL0 ▸ (rfl : jGet [(0, rv (x)), (1, .int (i32 (p0))), (2, .int (i32 (p1))), (3, rv (ou))] 3 = some (rv (ou)))
  clear eL0
  refine jx_ld (pc_q := 1) (l_q := L0) (st_q := [rv (ou)]) rfl (jl_rvn g4) ?_
  refine jx_ar (pc_q := 2) (st_q := [.int (i32 (0)), rv (ou)]) rfl rfl rfl rfl ?_
  refine jx_ld (pc_q := 3) (l_q := L0) (st_q := [rv (x), .int (i32 (0)), rv (ou)]) rfl (jl_rvn g1) ?_
  refine jx_ld (pc_q := 4) (l_q := L0) (st_q := [.int (i32 (p0)), rv (x), .int (i32 (0)), rv (ou)]) rfl (jl_iloadn g2) ?_
  refine jx_ld (pc_q := 5) (l_q := L0) (st_q := [.int (i32 (p1)), .int (i32 (p0)), rv (x), .int (i32 (0)), rv (ou)]) rfl (jl_iloadn g3) ?_
  refine cx_vi (c := 0) (a := x) (st := [.int (i32 (0)), rv (ou)]) (as := [.int (i32 (p0)), .int (i32 (p1))]) rfl rfl rfl o_x t_x (by decide) rfl ⟨rfl, rfl, (by rw [jS_i, jS_r, jS_0]; exact Nat.le_of_ble_eq_true rfl)⟩ rfl (k_LY_core (dd := d) (R := R) (m := m) (tg := tg) (ln := ln) (F := F) (me := x) (p := p0) (wh := p1) (hd := by omega) (hC := hC) (o_me := o_x) (t_me := t_x) (h_p := by omega) (h_wh := by omega) (c_NP := c_NP) (kk := kk) (c_SB := c_SB) (c_T3 := c_T3)) (fun o V_q hq => ?_)
  obtain ⟨m5, tg5, ln5, F6, r7, rfl, rfl, hx8, hC9, hM10, b11, p12, p13, c14, c15, c16, -⟩ | ⟨m17, tg17, ln17, F17, x17, rfl, rfl, hx17, hC17, hM17, ho17, ht17, p18, p19, c20, c21, c22, -⟩ := hq
  rotate_left
  · rcases ht17 with ht17 | ht17 | ht17
    ·
      refine Or.inr (Or.inr (Or.inl ⟨_, _, 13, rfl, cx_exc (c := 15) ho17 ht17 (by decide), rfl, ?_⟩))
      rw [← rv_x ho17]
      have hM23 := Fq_t (ln := ln) (ln1 := ln) hM0 hX0 hM17 (by decide) (Or.inl rfl)
      have ho24 : own m17 (x) ∧ tg17 (x) = 1 := Ex_o hx17 ⟨o_x, t_x⟩
      have ho25 : own m17 (ou) ∧ tg17 (ou) = 22 := Ex_o hx17 ⟨o_ou, t_ou⟩
      have ln26 : ln17 (ou) = 1 := (hx17.2 _ o_ou).2.trans p_0
      have hX27 := Ex_t hX0 hx17
      refine jx_ld (pc_q := 15) (l_q := jSto1 L0 4 (rv (((x17 : Nat) : Int)))) (st_q := []) rfl (js_rv (by decide)) ?_
      obtain ⟨L28, eL28⟩ : ∃ q : jL, q = jSto1 L0 4 (rv (((x17 : Nat) : Int))) := ⟨_, rfl⟩
      rw [← eL28]
      have g29 : jGet L28 0 = some (rv (x)) := eL28 ▸ jg_nr (by decide) g1
      have g30 : jGet L28 1 = some (.int (i32 (p0))) := eL28 ▸ jg_ne (by decide) g2 rfl
      have g31 : jGet L28 2 = some (.int (i32 (p1))) := eL28 ▸ jg_ne (by decide) g3 rfl
      have g32 : jGet L28 3 = some (rv (ou)) := eL28 ▸ jg_nr (by decide) g4
      have g33 : jGet L28 4 = some (rv (((x17 : Nat) : Int))) := eL28 ▸ jg_eq
      clear eL28
      refine jx_ar (pc_q := 16) (st_q := [.int (i32 (1))]) rfl rfl rfl rfl ?_
      refine jx_rt (v := some (.int (i32 (1)))) rfl rfl rfl rfl rfl rfl ?_
      exact ⟨m17, tg17, ln17, F17, (1), rfl, rfl, hX27, hC17, hM23, by omega, by omega, by omega, c20, SB_m c21 (by omega), c22, trivial⟩
    ·
      refine Or.inr (Or.inr (Or.inl ⟨_, _, 17, rfl, cx_exc (c := 16) ho17 ht17 (by decide), rfl, ?_⟩))
      rw [← rv_x ho17]
      have hM34 := Fq_t (ln := ln) (ln1 := ln) hM0 hX0 hM17 (by decide) (Or.inl rfl)
      have ho35 : own m17 (x) ∧ tg17 (x) = 1 := Ex_o hx17 ⟨o_x, t_x⟩
      have ho36 : own m17 (ou) ∧ tg17 (ou) = 22 := Ex_o hx17 ⟨o_ou, t_ou⟩
      have ln37 : ln17 (ou) = 1 := (hx17.2 _ o_ou).2.trans p_0
      have hX38 := Ex_t hX0 hx17
      refine jx_ld (pc_q := 19) (l_q := jSto1 L0 4 (rv (((x17 : Nat) : Int)))) (st_q := []) rfl (js_rv (by decide)) ?_
      obtain ⟨L39, eL39⟩ : ∃ q : jL, q = jSto1 L0 4 (rv (((x17 : Nat) : Int))) := ⟨_, rfl⟩
      rw [← eL39]
      have g40 : jGet L39 0 = some (rv (x)) := eL39 ▸ jg_nr (by decide) g1
      have g41 : jGet L39 1 = some (.int (i32 (p0))) := eL39 ▸ jg_ne (by decide) g2 rfl
      have g42 : jGet L39 2 = some (.int (i32 (p1))) := eL39 ▸ jg_ne (by decide) g3 rfl
      have g43 : jGet L39 3 = some (rv (ou)) := eL39 ▸ jg_nr (by decide) g4
      have g44 : jGet L39 4 = some (rv (((x17 : Nat) : Int))) := eL39 ▸ jg_eq
      clear eL39
      refine jx_ar (pc_q := 20) (st_q := [.int (i32 (2))]) rfl rfl rfl rfl ?_
      refine jx_rt (v := some (.int (i32 (2)))) rfl rfl rfl rfl rfl rfl ?_
      exact ⟨m17, tg17, ln17, F17, (2), rfl, rfl, hX38, hC17, hM34, by omega, by omega, by omega, c20, SB_m c21 (by omega), c22, trivial⟩
    ·
      refine Or.inr (Or.inr (Or.inl ⟨_, _, 21, rfl, cx_exc (c := 13) ho17 ht17 (by decide), rfl, ?_⟩))
      rw [← rv_x ho17]
      have hM45 := Fq_t (ln := ln) (ln1 := ln) hM0 hX0 hM17 (by decide) (Or.inl rfl)
      have ho46 : own m17 (x) ∧ tg17 (x) = 1 := Ex_o hx17 ⟨o_x, t_x⟩
      have ho47 : own m17 (ou) ∧ tg17 (ou) = 22 := Ex_o hx17 ⟨o_ou, t_ou⟩
      have ln48 : ln17 (ou) = 1 := (hx17.2 _ o_ou).2.trans p_0
      have hX49 := Ex_t hX0 hx17
      refine jx_ld (pc_q := 23) (l_q := jSto1 L0 4 (rv (((x17 : Nat) : Int)))) (st_q := []) rfl (js_rv (by decide)) ?_
      obtain ⟨L50, eL50⟩ : ∃ q : jL, q = jSto1 L0 4 (rv (((x17 : Nat) : Int))) := ⟨_, rfl⟩
      rw [← eL50]
      have g51 : jGet L50 0 = some (rv (x)) := eL50 ▸ jg_nr (by decide) g1
      have g52 : jGet L50 1 = some (.int (i32 (p0))) := eL50 ▸ jg_ne (by decide) g2 rfl
      have g53 : jGet L50 2 = some (.int (i32 (p1))) := eL50 ▸ jg_ne (by decide) g3 rfl
      have g54 : jGet L50 3 = some (rv (ou)) := eL50 ▸ jg_nr (by decide) g4
      have g55 : jGet L50 4 = some (rv (((x17 : Nat) : Int))) := eL50 ▸ jg_eq
      clear eL50
      refine jx_ar (pc_q := 24) (st_q := [.int (i32 (3))]) rfl rfl rfl rfl ?_
      refine jx_rt (v := some (.int (i32 (3)))) rfl rfl rfl rfl rfl rfl ?_
      exact ⟨m17, tg17, ln17, F17, (3), rfl, rfl, hX49, hC17, hM45, by omega, by omega, by omega, c20, SB_m c21 (by omega), c22, trivial⟩
  have hM56 : Fq 0 [(22, -5)] m tg F F6 := Fq_t (ln := ln) (ln1 := ln) hM0 hX0 hM10 (by decide) (Or.inl rfl)
  have ho57 : own m5 (x) ∧ tg5 (x) = 1 := Ex_o hx8 ⟨o_x, t_x⟩
  have ho58 : own m5 (ou) ∧ tg5 (ou) = 22 := Ex_o hx8 ⟨o_ou, t_ou⟩
  have ln59 : ln5 (ou) = 1 := (hx8.2 _ o_ou).2.trans p_0
  have hX60 := Ex_t hX0 hx8
  refine Or.inr (Or.inl ⟨_, rfl, ?_⟩)
  refine jx_ar (pc_q := 9) (st_q := .long ((i32 (r7)).toInt64) :: [.int (i32 (0)), rv (ou)]) rfl rfl rfl rfl ?_
  obtain ⟨y61, ey61⟩ : ∃ q : Int64, q = (i32 (r7)).toInt64 := ⟨_, rfl⟩
  rw [← ey61]
  have b62 := HC_l hC9 ho58.1 ho58.2 (by decide)
  refine cx_las (pc_q := 10) (z := 0) (y := y61) rfl rfl ho58.1 ho58.2 (by omega) (by omega) (by omega) ?_
  obtain ⟨F63, eF63⟩ : ∃ q, q = uF F6 (ou) (0 : Int) ((y61 : Int64).toInt) := ⟨_, rfl⟩
  rw [← eF63]
  have hC64 : HC 0 m5 tg5 ln5 F63 := by rw [eF63]; exact HC_pl hC9 ho58.2 (by omega)
  have hM65 : Fq 0 [(22, -5)] m tg F F63 := by rw [eF63]; exact Fq_p hM56 ho58.2 (fun w => (hX60.2 _ w).1) (inL_a rfl (by omega) rfl)
  have c66 : NP m5 tg5 F63 := by rw [eF63]; exact NP_u hC9 c14 ho58.2 (by omega)
  have c67 : SB m5 tg5 F63 ((kk)) := by rw [eF63]; exact SB_u c15 ho58.2 (by omega)
  refine jx_go (tg := 25) rfl rfl ?_
  refine jx_ar (pc_q := 26) (st_q := [.int (i32 (0))]) rfl rfl rfl rfl ?_
  refine jx_rt (v := some (.int (i32 (0)))) rfl rfl rfl rfl rfl rfl ?_
  exact ⟨m5, tg5, ln5, F63, (0), rfl, rfl, hX60, hC64, hM65, by omega, by omega, by omega, c66, SB_m c67 (by omega), c16, trivial⟩
set_option maxRecDepth 20000 in
set_option maxHeartbeats 4000000 in
theorem k_LLaw_ready {X : jX} {dd : Nat} {R : Nat → jC} {m : Nat} {tg ln : Int → Int} {F : Int → Int → Int} {kk : Int} {x p0 p1 ou : Int} (hd : 4 ≤ dd) (hC : HC 0 m tg ln F) (o_x : own m x) (t_x : tg x = 1) (h_p0 : (-2147483648 : Int) ≤ p0 ∧ p0 ≤ 2147483647) (h_p1 : (-2147483648 : Int) ≤ p1 ∧ p1 ≤ 2147483647) (o_ou : own m ou) (t_ou : tg ou = 22) (s_ou : F ou (-1) = 0) (p_0 : ln ou = 1) (c_NP : NP m tg F) (c_SB : SB m tg F (kk)) (c_T3 : T3 m tg) : wk X dd 14 [rv x, .int (i32 p0), .int (i32 p1), rv ou] (cV R m tg ln F) (fun o V_q => ∃ (m_q : Nat) (tg_q ln_q : Int → Int) (F_q : Int → Int → Int) (r : Int), V_q = cV R m_q tg_q ln_q F_q ∧ o = .inl (some (.int (i32 r))) ∧ Ex m tg ln m_q tg_q ln_q ∧ HC 0 m_q tg_q ln_q F_q ∧ Fq 0 [(22, -5)] m tg F F_q ∧ (-2147483648 ≤ r ∧ r ≤ 2147483647) ∧ (szD m_q tg_q ln_q ≤ szD m tg ln + 25) ∧ ((m_q : Int) ≤ (m : Int) + 1) ∧ (NP m_q tg_q F_q) ∧ (SB m_q tg_q F_q (kk)) ∧ (T3 m_q tg_q) ∧ True) := by
  obtain ⟨d, rfl⟩ : ∃ d, dd = d + 1 := ⟨dd - 1, by omega⟩
  refine wk_of (e := jm14) rfl (by rw [jS_r, jS_i, jS_i, jS_r, jS_0]; exact Nat.le_of_ble_eq_true rfl) ?_
  rw [la_r, la_i, la_i, la_r, la_0]
  show wj X d jm14 (0, [(0, rv (x)), (1, .int (i32 (p0))), (2, .int (i32 (p1))), (3, rv (ou))], [], cV R m tg ln F) _
  have hM0 : Fq 0 [(22, -5)] m tg F F := Fq_r
  have hX0 : Ex m tg ln m tg ln := Ex_r
  obtain ⟨L0, eL0⟩ : ∃ q : jL, q = [(0, rv (x)), (1, .int (i32 (p0))), (2, .int (i32 (p1))), (3, rv (ou))] := ⟨_, rfl⟩
  rw [← eL0]
  have g1 : jGet L0 0 = some (rv (x)) := eL0 ▸ (rfl : jGet [(0, rv (x)), (1, .int (i32 (p0))), (2, .int (i32 (p1))), (3, rv (ou))] 0 = some (rv (x)))
  have g2 : jGet L0 1 = some (.int (i32 (p0))) := eL0 ▸ (rfl : jGet [(0, rv (x)), (1, .int (i32 (p0))), (2, .int (i32 (p1))), (3, rv (ou))] 1 = some (.int (i32 (p0))))
  have g3 : jGet L0 2 = some (.int (i32 (p1))) := eL0 ▸ (rfl : jGet [(0, rv (x)), (1, .int (i32 (p0))), (2, .int (i32 (p1))), (3, rv (ou))] 2 = some (.int (i32 (p1))))
  have g4 : jGet L0 3 = some (rv (ou)) := eL0 ▸ (rfl : jGet [(0, rv (x)), (1, .int (i32 (p0))), (2, .int (i32 (p1))), (3, rv (ou))] 3 = some (rv (ou)))
  clear eL0
  refine jx_ld (pc_q := 1) (l_q := L0) (st_q := [rv (ou)]) rfl (jl_rvn g4) ?_
  refine jx_ar (pc_q := 2) (st_q := [.int (i32 (0)), rv (ou)]) rfl rfl rfl rfl ?_
  refine jx_ld (pc_q := 3) (l_q := L0) (st_q := [rv (x), .int (i32 (0)), rv (ou)]) rfl (jl_rvn g1) ?_
  refine jx_ld (pc_q := 4) (l_q := L0) (st_q := [.int (i32 (p0)), rv (x), .int (i32 (0)), rv (ou)]) rfl (jl_iloadn g2) ?_
  refine jx_ld (pc_q := 5) (l_q := L0) (st_q := [.int (i32 (p1)), .int (i32 (p0)), rv (x), .int (i32 (0)), rv (ou)]) rfl (jl_iloadn g3) ?_
  refine cx_vi (c := 0) (a := x) (st := [.int (i32 (0)), rv (ou)]) (as := [.int (i32 (p0)), .int (i32 (p1))]) rfl rfl rfl o_x t_x (by decide) rfl ⟨rfl, rfl, (by rw [jS_i, jS_r, jS_0]; exact Nat.le_of_ble_eq_true rfl)⟩ rfl (k_LY_ready (dd := d) (R := R) (m := m) (tg := tg) (ln := ln) (F := F) (me := x) (p := p0) (i := p1) (hd := by omega) (hC := hC) (o_me := o_x) (t_me := t_x) (h_p := by omega) (h_i := by omega) (c_NP := c_NP) (kk := kk) (c_SB := c_SB) (c_T3 := c_T3)) (fun o V_q hq => ?_)
  obtain ⟨m5, tg5, ln5, F6, r7, rfl, rfl, hx8, hC9, hM10, b11, p12, p13, c14, c15, c16, -⟩ | ⟨m17, tg17, ln17, F17, x17, rfl, rfl, hx17, hC17, hM17, ho17, ht17, p18, p19, c20, c21, c22, -⟩ := hq
  rotate_left
  · rcases ht17 with ht17 | ht17 | ht17
    ·
      refine Or.inr (Or.inr (Or.inl ⟨_, _, 13, rfl, cx_exc (c := 15) ho17 ht17 (by decide), rfl, ?_⟩))
      rw [← rv_x ho17]
      have hM23 := Fq_t (ln := ln) (ln1 := ln) hM0 hX0 hM17 (by decide) (Or.inl rfl)
      have ho24 : own m17 (x) ∧ tg17 (x) = 1 := Ex_o hx17 ⟨o_x, t_x⟩
      have ho25 : own m17 (ou) ∧ tg17 (ou) = 22 := Ex_o hx17 ⟨o_ou, t_ou⟩
      have ln26 : ln17 (ou) = 1 := (hx17.2 _ o_ou).2.trans p_0
      have hX27 := Ex_t hX0 hx17
      refine jx_ld (pc_q := 15) (l_q := jSto1 L0 4 (rv (((x17 : Nat) : Int)))) (st_q := []) rfl (js_rv (by decide)) ?_
      obtain ⟨L28, eL28⟩ : ∃ q : jL, q = jSto1 L0 4 (rv (((x17 : Nat) : Int))) := ⟨_, rfl⟩
      rw [← eL28]
      have g29 : jGet L28 0 = some (rv (x)) := eL28 ▸ jg_nr (by decide) g1
      have g30 : jGet L28 1 = some (.int (i32 (p0))) := eL28 ▸ jg_ne (by decide) g2 rfl
      have g31 : jGet L28 2 = some (.int (i32 (p1))) := eL28 ▸ jg_ne (by decide) g3 rfl
      have g32 : jGet L28 3 = some (rv (ou)) := eL28 ▸ jg_nr (by decide) g4
      have g33 : jGet L28 4 = some (rv (((x17 : Nat) : Int))) := eL28 ▸ jg_eq
      clear eL28
      refine jx_ar (pc_q := 16) (st_q := [.int (i32 (1))]) rfl rfl rfl rfl ?_
      refine jx_rt (v := some (.int (i32 (1)))) rfl rfl rfl rfl rfl rfl ?_
      exact ⟨m17, tg17, ln17, F17, (1), rfl, rfl, hX27, hC17, hM23, by omega, by omega, by omega, c20, SB_m c21 (by omega), c22, trivial⟩
    ·
      refine Or.inr (Or.inr (Or.inl ⟨_, _, 17, rfl, cx_exc (c := 16) ho17 ht17 (by decide), rfl, ?_⟩))
      rw [← rv_x ho17]
      have hM34 := Fq_t (ln := ln) (ln1 := ln) hM0 hX0 hM17 (by decide) (Or.inl rfl)
      have ho35 : own m17 (x) ∧ tg17 (x) = 1 := Ex_o hx17 ⟨o_x, t_x⟩
      have ho36 : own m17 (ou) ∧ tg17 (ou) = 22 := Ex_o hx17 ⟨o_ou, t_ou⟩
      have ln37 : ln17 (ou) = 1 := (hx17.2 _ o_ou).2.trans p_0
      have hX38 := Ex_t hX0 hx17
      refine jx_ld (pc_q := 19) (l_q := jSto1 L0 4 (rv (((x17 : Nat) : Int)))) (st_q := []) rfl (js_rv (by decide)) ?_
      obtain ⟨L39, eL39⟩ : ∃ q : jL, q = jSto1 L0 4 (rv (((x17 : Nat) : Int))) := ⟨_, rfl⟩
      rw [← eL39]
      have g40 : jGet L39 0 = some (rv (x)) := eL39 ▸ jg_nr (by decide) g1
      have g41 : jGet L39 1 = some (.int (i32 (p0))) := eL39 ▸ jg_ne (by decide) g2 rfl
      have g42 : jGet L39 2 = some (.int (i32 (p1))) := eL39 ▸ jg_ne (by decide) g3 rfl
      have g43 : jGet L39 3 = some (rv (ou)) := eL39 ▸ jg_nr (by decide) g4
      have g44 : jGet L39 4 = some (rv (((x17 : Nat) : Int))) := eL39 ▸ jg_eq
      clear eL39
      refine jx_ar (pc_q := 20) (st_q := [.int (i32 (2))]) rfl rfl rfl rfl ?_
      refine jx_rt (v := some (.int (i32 (2)))) rfl rfl rfl rfl rfl rfl ?_
      exact ⟨m17, tg17, ln17, F17, (2), rfl, rfl, hX38, hC17, hM34, by omega, by omega, by omega, c20, SB_m c21 (by omega), c22, trivial⟩
    ·
      refine Or.inr (Or.inr (Or.inl ⟨_, _, 21, rfl, cx_exc (c := 17) ho17 ht17 (by decide), rfl, ?_⟩))
      rw [← rv_x ho17]
      have hM45 := Fq_t (ln := ln) (ln1 := ln) hM0 hX0 hM17 (by decide) (Or.inl rfl)
      have ho46 : own m17 (x) ∧ tg17 (x) = 1 := Ex_o hx17 ⟨o_x, t_x⟩
      have ho47 : own m17 (ou) ∧ tg17 (ou) = 22 := Ex_o hx17 ⟨o_ou, t_ou⟩
      have ln48 : ln17 (ou) = 1 := (hx17.2 _ o_ou).2.trans p_0
      have hX49 := Ex_t hX0 hx17
      refine jx_ld (pc_q := 23) (l_q := jSto1 L0 4 (rv (((x17 : Nat) : Int)))) (st_q := []) rfl (js_rv (by decide)) ?_
      obtain ⟨L50, eL50⟩ : ∃ q : jL, q = jSto1 L0 4 (rv (((x17 : Nat) : Int))) := ⟨_, rfl⟩
      rw [← eL50]
      have g51 : jGet L50 0 = some (rv (x)) := eL50 ▸ jg_nr (by decide) g1
      have g52 : jGet L50 1 = some (.int (i32 (p0))) := eL50 ▸ jg_ne (by decide) g2 rfl
      have g53 : jGet L50 2 = some (.int (i32 (p1))) := eL50 ▸ jg_ne (by decide) g3 rfl
      have g54 : jGet L50 3 = some (rv (ou)) := eL50 ▸ jg_nr (by decide) g4
      have g55 : jGet L50 4 = some (rv (((x17 : Nat) : Int))) := eL50 ▸ jg_eq
      clear eL50
      refine jx_ar (pc_q := 24) (st_q := [.int (i32 (3))]) rfl rfl rfl rfl ?_
      refine jx_rt (v := some (.int (i32 (3)))) rfl rfl rfl rfl rfl rfl ?_
      exact ⟨m17, tg17, ln17, F17, (3), rfl, rfl, hX49, hC17, hM45, by omega, by omega, by omega, c20, SB_m c21 (by omega), c22, trivial⟩
  have hM56 : Fq 0 [(22, -5)] m tg F F6 := Fq_t (ln := ln) (ln1 := ln) hM0 hX0 hM10 (by decide) (Or.inl rfl)
  have ho57 : own m5 (x) ∧ tg5 (x) = 1 := Ex_o hx8 ⟨o_x, t_x⟩
  have ho58 : own m5 (ou) ∧ tg5 (ou) = 22 := Ex_o hx8 ⟨o_ou, t_ou⟩
  have ln59 : ln5 (ou) = 1 := (hx8.2 _ o_ou).2.trans p_0
  have hX60 := Ex_t hX0 hx8
  refine Or.inr (Or.inl ⟨_, rfl, ?_⟩)
  refine jx_ar (pc_q := 9) (st_q := .long ((i32 (r7)).toInt64) :: [.int (i32 (0)), rv (ou)]) rfl rfl rfl rfl ?_
  obtain ⟨y61, ey61⟩ : ∃ q : Int64, q = (i32 (r7)).toInt64 := ⟨_, rfl⟩
  rw [← ey61]
  have b62 := HC_l hC9 ho58.1 ho58.2 (by decide)
  refine cx_las (pc_q := 10) (z := 0) (y := y61) rfl rfl ho58.1 ho58.2 (by omega) (by omega) (by omega) ?_
  obtain ⟨F63, eF63⟩ : ∃ q, q = uF F6 (ou) (0 : Int) ((y61 : Int64).toInt) := ⟨_, rfl⟩
  rw [← eF63]
  have hC64 : HC 0 m5 tg5 ln5 F63 := by rw [eF63]; exact HC_pl hC9 ho58.2 (by omega)
  have hM65 : Fq 0 [(22, -5)] m tg F F63 := by rw [eF63]; exact Fq_p hM56 ho58.2 (fun w => (hX60.2 _ w).1) (inL_a rfl (by omega) rfl)
  have c66 : NP m5 tg5 F63 := by rw [eF63]; exact NP_u hC9 c14 ho58.2 (by omega)
  have c67 : SB m5 tg5 F63 ((kk)) := by rw [eF63]; exact SB_u c15 ho58.2 (by omega)
  refine jx_go (tg := 25) rfl rfl ?_
  refine jx_ar (pc_q := 26) (st_q := [.int (i32 (0))]) rfl rfl rfl rfl ?_
  refine jx_rt (v := some (.int (i32 (0)))) rfl rfl rfl rfl rfl rfl ?_
  exact ⟨m5, tg5, ln5, F63, (0), rfl, rfl, hX60, hC64, hM65, by omega, by omega, by omega, c66, SB_m c67 (by omega), c16, trivial⟩
set_option maxRecDepth 20000 in
set_option maxHeartbeats 4000000 in
theorem k_LLaw_word {X : jX} {dd : Nat} {R : Nat → jC} {m : Nat} {tg ln : Int → Int} {F : Int → Int → Int} {kk : Int} {x p0 p1 ou : Int} (hd : 4 ≤ dd) (hC : HC 0 m tg ln F) (o_x : own m x) (t_x : tg x = 1) (h_p0 : (-2147483648 : Int) ≤ p0 ∧ p0 ≤ 2147483647) (h_p1 : (-2147483648 : Int) ≤ p1 ∧ p1 ≤ 2147483647) (o_ou : own m ou) (t_ou : tg ou = 22) (s_ou : F ou (-1) = 0) (p_0 : ln ou = 1) (c_NP : NP m tg F) (c_SB : SB m tg F (kk)) (c_T3 : T3 m tg) : wk X dd 15 [rv x, .int (i32 p0), .int (i32 p1), rv ou] (cV R m tg ln F) (fun o V_q => ∃ (m_q : Nat) (tg_q ln_q : Int → Int) (F_q : Int → Int → Int) (r : Int), V_q = cV R m_q tg_q ln_q F_q ∧ o = .inl (some (.int (i32 r))) ∧ Ex m tg ln m_q tg_q ln_q ∧ HC 0 m_q tg_q ln_q F_q ∧ Fq 0 [(22, -5)] m tg F F_q ∧ (-2147483648 ≤ r ∧ r ≤ 2147483647) ∧ (szD m_q tg_q ln_q ≤ szD m tg ln + 25) ∧ ((m_q : Int) ≤ (m : Int) + 1) ∧ (NP m_q tg_q F_q) ∧ (SB m_q tg_q F_q (kk)) ∧ (T3 m_q tg_q) ∧ True) := by
  obtain ⟨d, rfl⟩ : ∃ d, dd = d + 1 := ⟨dd - 1, by omega⟩
  refine wk_of (e := jm15) rfl (by rw [jS_r, jS_i, jS_i, jS_r, jS_0]; exact Nat.le_of_ble_eq_true rfl) ?_
  rw [la_r, la_i, la_i, la_r, la_0]
  show wj X d jm15 (0, [(0, rv (x)), (1, .int (i32 (p0))), (2, .int (i32 (p1))), (3, rv (ou))], [], cV R m tg ln F) _
  have hM0 : Fq 0 [(22, -5)] m tg F F := Fq_r
  have hX0 : Ex m tg ln m tg ln := Ex_r
  obtain ⟨L0, eL0⟩ : ∃ q : jL, q = [(0, rv (x)), (1, .int (i32 (p0))), (2, .int (i32 (p1))), (3, rv (ou))] := ⟨_, rfl⟩
  rw [← eL0]
  have g1 : jGet L0 0 = some (rv (x)) := eL0 ▸ (rfl : jGet [(0, rv (x)), (1, .int (i32 (p0))), (2, .int (i32 (p1))), (3, rv (ou))] 0 = some (rv (x)))
  have g2 : jGet L0 1 = some (.int (i32 (p0))) := eL0 ▸ (rfl : jGet [(0, rv (x)), (1, .int (i32 (p0))), (2, .int (i32 (p1))), (3, rv (ou))] 1 = some (.int (i32 (p0))))
  have g3 : jGet L0 2 = some (.int (i32 (p1))) := eL0 ▸ (rfl : jGet [(0, rv (x)), (1, .int (i32 (p0))), (2, .int (i32 (p1))), (3, rv (ou))] 2 = some (.int (i32 (p1))))
  have g4 : jGet L0 3 = some (rv (ou)) := eL0 ▸ (rfl : jGet [(0, rv (x)), (1, .int (i32 (p0))), (2, .int (i32 (p1))), (3, rv (ou))] 3 = some (rv (ou)))
  clear eL0
  refine jx_ld (pc_q := 1) (l_q := L0) (st_q := [rv (ou)]) rfl (jl_rvn g4) ?_
  refine jx_ar (pc_q := 2) (st_q := [.int (i32 (0)), rv (ou)]) rfl rfl rfl rfl ?_
  refine jx_ld (pc_q := 3) (l_q := L0) (st_q := [rv (x), .int (i32 (0)), rv (ou)]) rfl (jl_rvn g1) ?_
  refine jx_ld (pc_q := 4) (l_q := L0) (st_q := [.int (i32 (p0)), rv (x), .int (i32 (0)), rv (ou)]) rfl (jl_iloadn g2) ?_
  refine jx_ld (pc_q := 5) (l_q := L0) (st_q := [.int (i32 (p1)), .int (i32 (p0)), rv (x), .int (i32 (0)), rv (ou)]) rfl (jl_iloadn g3) ?_
  refine cx_vi (c := 0) (a := x) (st := [.int (i32 (0)), rv (ou)]) (as := [.int (i32 (p0)), .int (i32 (p1))]) rfl rfl rfl o_x t_x (by decide) rfl ⟨rfl, rfl, (by rw [jS_i, jS_r, jS_0]; exact Nat.le_of_ble_eq_true rfl)⟩ rfl (k_LY_word (dd := d) (R := R) (m := m) (tg := tg) (ln := ln) (F := F) (me := x) (p := p0) (ad := p1) (hd := by omega) (hC := hC) (o_me := o_x) (t_me := t_x) (h_p := by omega) (h_ad := by omega) (c_NP := c_NP) (kk := kk) (c_SB := c_SB) (c_T3 := c_T3)) (fun o V_q hq => ?_)
  obtain ⟨m5, tg5, ln5, F6, r7, rfl, rfl, hx8, hC9, hM10, b11, p12, p13, c14, c15, c16, -⟩ | ⟨m17, tg17, ln17, F17, x17, rfl, rfl, hx17, hC17, hM17, ho17, ht17, p18, p19, c20, c21, c22, -⟩ := hq
  rotate_left
  · rcases ht17 with ht17 | ht17 | ht17
    ·
      refine Or.inr (Or.inr (Or.inl ⟨_, _, 13, rfl, cx_exc (c := 15) ho17 ht17 (by decide), rfl, ?_⟩))
      rw [← rv_x ho17]
      have hM23 := Fq_t (ln := ln) (ln1 := ln) hM0 hX0 hM17 (by decide) (Or.inl rfl)
      have ho24 : own m17 (x) ∧ tg17 (x) = 1 := Ex_o hx17 ⟨o_x, t_x⟩
      have ho25 : own m17 (ou) ∧ tg17 (ou) = 22 := Ex_o hx17 ⟨o_ou, t_ou⟩
      have ln26 : ln17 (ou) = 1 := (hx17.2 _ o_ou).2.trans p_0
      have hX27 := Ex_t hX0 hx17
      refine jx_ld (pc_q := 15) (l_q := jSto1 L0 4 (rv (((x17 : Nat) : Int)))) (st_q := []) rfl (js_rv (by decide)) ?_
      obtain ⟨L28, eL28⟩ : ∃ q : jL, q = jSto1 L0 4 (rv (((x17 : Nat) : Int))) := ⟨_, rfl⟩
      rw [← eL28]
      have g29 : jGet L28 0 = some (rv (x)) := eL28 ▸ jg_nr (by decide) g1
      have g30 : jGet L28 1 = some (.int (i32 (p0))) := eL28 ▸ jg_ne (by decide) g2 rfl
      have g31 : jGet L28 2 = some (.int (i32 (p1))) := eL28 ▸ jg_ne (by decide) g3 rfl
      have g32 : jGet L28 3 = some (rv (ou)) := eL28 ▸ jg_nr (by decide) g4
      have g33 : jGet L28 4 = some (rv (((x17 : Nat) : Int))) := eL28 ▸ jg_eq
      clear eL28
      refine jx_ar (pc_q := 16) (st_q := [.int (i32 (1))]) rfl rfl rfl rfl ?_
      refine jx_rt (v := some (.int (i32 (1)))) rfl rfl rfl rfl rfl rfl ?_
      exact ⟨m17, tg17, ln17, F17, (1), rfl, rfl, hX27, hC17, hM23, by omega, by omega, by omega, c20, SB_m c21 (by omega), c22, trivial⟩
    ·
      refine Or.inr (Or.inr (Or.inl ⟨_, _, 17, rfl, cx_exc (c := 16) ho17 ht17 (by decide), rfl, ?_⟩))
      rw [← rv_x ho17]
      have hM34 := Fq_t (ln := ln) (ln1 := ln) hM0 hX0 hM17 (by decide) (Or.inl rfl)
      have ho35 : own m17 (x) ∧ tg17 (x) = 1 := Ex_o hx17 ⟨o_x, t_x⟩
      have ho36 : own m17 (ou) ∧ tg17 (ou) = 22 := Ex_o hx17 ⟨o_ou, t_ou⟩
      have ln37 : ln17 (ou) = 1 := (hx17.2 _ o_ou).2.trans p_0
      have hX38 := Ex_t hX0 hx17
      refine jx_ld (pc_q := 19) (l_q := jSto1 L0 4 (rv (((x17 : Nat) : Int)))) (st_q := []) rfl (js_rv (by decide)) ?_
      obtain ⟨L39, eL39⟩ : ∃ q : jL, q = jSto1 L0 4 (rv (((x17 : Nat) : Int))) := ⟨_, rfl⟩
      rw [← eL39]
      have g40 : jGet L39 0 = some (rv (x)) := eL39 ▸ jg_nr (by decide) g1
      have g41 : jGet L39 1 = some (.int (i32 (p0))) := eL39 ▸ jg_ne (by decide) g2 rfl
      have g42 : jGet L39 2 = some (.int (i32 (p1))) := eL39 ▸ jg_ne (by decide) g3 rfl
      have g43 : jGet L39 3 = some (rv (ou)) := eL39 ▸ jg_nr (by decide) g4
      have g44 : jGet L39 4 = some (rv (((x17 : Nat) : Int))) := eL39 ▸ jg_eq
      clear eL39
      refine jx_ar (pc_q := 20) (st_q := [.int (i32 (2))]) rfl rfl rfl rfl ?_
      refine jx_rt (v := some (.int (i32 (2)))) rfl rfl rfl rfl rfl rfl ?_
      exact ⟨m17, tg17, ln17, F17, (2), rfl, rfl, hX38, hC17, hM34, by omega, by omega, by omega, c20, SB_m c21 (by omega), c22, trivial⟩
    ·
      refine Or.inr (Or.inr (Or.inl ⟨_, _, 21, rfl, cx_exc (c := 17) ho17 ht17 (by decide), rfl, ?_⟩))
      rw [← rv_x ho17]
      have hM45 := Fq_t (ln := ln) (ln1 := ln) hM0 hX0 hM17 (by decide) (Or.inl rfl)
      have ho46 : own m17 (x) ∧ tg17 (x) = 1 := Ex_o hx17 ⟨o_x, t_x⟩
      have ho47 : own m17 (ou) ∧ tg17 (ou) = 22 := Ex_o hx17 ⟨o_ou, t_ou⟩
      have ln48 : ln17 (ou) = 1 := (hx17.2 _ o_ou).2.trans p_0
      have hX49 := Ex_t hX0 hx17
      refine jx_ld (pc_q := 23) (l_q := jSto1 L0 4 (rv (((x17 : Nat) : Int)))) (st_q := []) rfl (js_rv (by decide)) ?_
      obtain ⟨L50, eL50⟩ : ∃ q : jL, q = jSto1 L0 4 (rv (((x17 : Nat) : Int))) := ⟨_, rfl⟩
      rw [← eL50]
      have g51 : jGet L50 0 = some (rv (x)) := eL50 ▸ jg_nr (by decide) g1
      have g52 : jGet L50 1 = some (.int (i32 (p0))) := eL50 ▸ jg_ne (by decide) g2 rfl
      have g53 : jGet L50 2 = some (.int (i32 (p1))) := eL50 ▸ jg_ne (by decide) g3 rfl
      have g54 : jGet L50 3 = some (rv (ou)) := eL50 ▸ jg_nr (by decide) g4
      have g55 : jGet L50 4 = some (rv (((x17 : Nat) : Int))) := eL50 ▸ jg_eq
      clear eL50
      refine jx_ar (pc_q := 24) (st_q := [.int (i32 (3))]) rfl rfl rfl rfl ?_
      refine jx_rt (v := some (.int (i32 (3)))) rfl rfl rfl rfl rfl rfl ?_
      exact ⟨m17, tg17, ln17, F17, (3), rfl, rfl, hX49, hC17, hM45, by omega, by omega, by omega, c20, SB_m c21 (by omega), c22, trivial⟩
  have hM56 : Fq 0 [(22, -5)] m tg F F6 := Fq_t (ln := ln) (ln1 := ln) hM0 hX0 hM10 (by decide) (Or.inl rfl)
  have ho57 : own m5 (x) ∧ tg5 (x) = 1 := Ex_o hx8 ⟨o_x, t_x⟩
  have ho58 : own m5 (ou) ∧ tg5 (ou) = 22 := Ex_o hx8 ⟨o_ou, t_ou⟩
  have ln59 : ln5 (ou) = 1 := (hx8.2 _ o_ou).2.trans p_0
  have hX60 := Ex_t hX0 hx8
  refine Or.inr (Or.inl ⟨_, rfl, ?_⟩)
  refine jx_ar (pc_q := 9) (st_q := .long ((i32 (r7)).toInt64) :: [.int (i32 (0)), rv (ou)]) rfl rfl rfl rfl ?_
  obtain ⟨y61, ey61⟩ : ∃ q : Int64, q = (i32 (r7)).toInt64 := ⟨_, rfl⟩
  rw [← ey61]
  have b62 := HC_l hC9 ho58.1 ho58.2 (by decide)
  refine cx_las (pc_q := 10) (z := 0) (y := y61) rfl rfl ho58.1 ho58.2 (by omega) (by omega) (by omega) ?_
  obtain ⟨F63, eF63⟩ : ∃ q, q = uF F6 (ou) (0 : Int) ((y61 : Int64).toInt) := ⟨_, rfl⟩
  rw [← eF63]
  have hC64 : HC 0 m5 tg5 ln5 F63 := by rw [eF63]; exact HC_pl hC9 ho58.2 (by omega)
  have hM65 : Fq 0 [(22, -5)] m tg F F63 := by rw [eF63]; exact Fq_p hM56 ho58.2 (fun w => (hX60.2 _ w).1) (inL_a rfl (by omega) rfl)
  have c66 : NP m5 tg5 F63 := by rw [eF63]; exact NP_u hC9 c14 ho58.2 (by omega)
  have c67 : SB m5 tg5 F63 ((kk)) := by rw [eF63]; exact SB_u c15 ho58.2 (by omega)
  refine jx_go (tg := 25) rfl rfl ?_
  refine jx_ar (pc_q := 26) (st_q := [.int (i32 (0))]) rfl rfl rfl rfl ?_
  refine jx_rt (v := some (.int (i32 (0)))) rfl rfl rfl rfl rfl rfl ?_
  exact ⟨m5, tg5, ln5, F63, (0), rfl, rfl, hX60, hC64, hM65, by omega, by omega, by omega, c66, SB_m c67 (by omega), c16, trivial⟩
set_option maxRecDepth 20000 in
set_option maxHeartbeats 4000000 in
theorem k_LLaw_output {X : jX} {dd : Nat} {R : Nat → jC} {m : Nat} {tg ln : Int → Int} {F : Int → Int → Int} {kk : Int} {x p0 ou : Int} (hd : 3 ≤ dd) (hC : HC 0 m tg ln F) (o_x : own m x) (t_x : tg x = 1) (h_p0 : (-2147483648 : Int) ≤ p0 ∧ p0 ≤ 2147483647) (o_ou : own m ou) (t_ou : tg ou = 22) (s_ou : F ou (-1) = 0) (p_0 : ln ou = 1) (c_NP : NP m tg F) (c_SB : SB m tg F (kk)) (c_T3 : T3 m tg) : wk X dd 16 [rv x, .int (i32 p0), rv ou] (cV R m tg ln F) (fun o V_q => ∃ (m_q : Nat) (tg_q ln_q : Int → Int) (F_q : Int → Int → Int) (r : Int), V_q = cV R m_q tg_q ln_q F_q ∧ o = .inl (some (.int (i32 r))) ∧ Ex m tg ln m_q tg_q ln_q ∧ HC 0 m_q tg_q ln_q F_q ∧ Fq 0 [(22, -5)] m tg F F_q ∧ (-2147483648 ≤ r ∧ r ≤ 2147483647) ∧ (szD m_q tg_q ln_q ≤ szD m tg ln + 25) ∧ ((m_q : Int) ≤ (m : Int) + 1) ∧ (NP m_q tg_q F_q) ∧ (SB m_q tg_q F_q (kk)) ∧ (T3 m_q tg_q) ∧ True) := by
  obtain ⟨d, rfl⟩ : ∃ d, dd = d + 1 := ⟨dd - 1, by omega⟩
  refine wk_of (e := jm16) rfl (by rw [jS_r, jS_i, jS_r, jS_0]; exact Nat.le_of_ble_eq_true rfl) ?_
  rw [la_r, la_i, la_r, la_0]
  show wj X d jm16 (0, [(0, rv (x)), (1, .int (i32 (p0))), (2, rv (ou))], [], cV R m tg ln F) _
  have hM0 : Fq 0 [(22, -5)] m tg F F := Fq_r
  have hX0 : Ex m tg ln m tg ln := Ex_r
  obtain ⟨L0, eL0⟩ : ∃ q : jL, q = [(0, rv (x)), (1, .int (i32 (p0))), (2, rv (ou))] := ⟨_, rfl⟩
  rw [← eL0]
  have g1 : jGet L0 0 = some (rv (x)) := eL0 ▸ (rfl : jGet [(0, rv (x)), (1, .int (i32 (p0))), (2, rv (ou))] 0 = some (rv (x)))
  have g2 : jGet L0 1 = some (.int (i32 (p0))) := eL0 ▸ (rfl : jGet [(0, rv (x)), (1, .int (i32 (p0))), (2, rv (ou))] 1 = some (.int (i32 (p0))))
  have g3 : jGet L0 2 = some (rv (ou)) := eL0 ▸ (rfl : jGet [(0, rv (x)), (1, .int (i32 (p0))), (2, rv (ou))] 2 = some (rv (ou)))
  clear eL0
  refine jx_ld (pc_q := 1) (l_q := L0) (st_q := [rv (ou)]) rfl (jl_rvn g3) ?_
  refine jx_ar (pc_q := 2) (st_q := [.int (i32 (0)), rv (ou)]) rfl rfl rfl rfl ?_
  refine jx_ld (pc_q := 3) (l_q := L0) (st_q := [rv (x), .int (i32 (0)), rv (ou)]) rfl (jl_rvn g1) ?_
  refine jx_ld (pc_q := 4) (l_q := L0) (st_q := [.int (i32 (p0)), rv (x), .int (i32 (0)), rv (ou)]) rfl (jl_iloadn g2) ?_
  refine cx_vi (c := 0) (a := x) (st := [.int (i32 (0)), rv (ou)]) (as := [.int (i32 (p0))]) rfl rfl rfl o_x t_x (by decide) rfl ⟨rfl, rfl, (by rw [jS_i, jS_r, jS_0]; exact Nat.le_of_ble_eq_true rfl)⟩ rfl (k_LY_output (dd := d) (R := R) (m := m) (tg := tg) (ln := ln) (F := F) (me := x) (i := p0) (hd := by omega) (hC := hC) (o_me := o_x) (t_me := t_x) (h_i := by omega) (c_NP := c_NP) (kk := kk) (c_SB := c_SB) (c_T3 := c_T3)) (fun o V_q hq => ?_)
  obtain ⟨m4, tg4, ln4, F5, r6, rfl, rfl, hx7, hC8, hM9, b10, p11, p12, c13, c14, c15, -⟩ | ⟨m16, tg16, ln16, F16, x16, rfl, rfl, hx16, hC16, hM16, ho16, ht16, p17, p18, c19, c20, c21, -⟩ := hq
  rotate_left
  · rcases ht16 with ht16 | ht16
    ·
      refine Or.inr (Or.inr (Or.inl ⟨_, _, 12, rfl, cx_exc (c := 15) ho16 ht16 (by decide), rfl, ?_⟩))
      rw [← rv_x ho16]
      have hM22 := Fq_t (ln := ln) (ln1 := ln) hM0 hX0 hM16 (by decide) (Or.inl rfl)
      have ho23 : own m16 (x) ∧ tg16 (x) = 1 := Ex_o hx16 ⟨o_x, t_x⟩
      have ho24 : own m16 (ou) ∧ tg16 (ou) = 22 := Ex_o hx16 ⟨o_ou, t_ou⟩
      have ln25 : ln16 (ou) = 1 := (hx16.2 _ o_ou).2.trans p_0
      have hX26 := Ex_t hX0 hx16
      refine jx_ld (pc_q := 13) (l_q := jSto1 L0 3 (rv (((x16 : Nat) : Int)))) (st_q := []) rfl (js_rvn (by decide)) ?_
      obtain ⟨L27, eL27⟩ : ∃ q : jL, q = jSto1 L0 3 (rv (((x16 : Nat) : Int))) := ⟨_, rfl⟩
      rw [← eL27]
      have g28 : jGet L27 0 = some (rv (x)) := eL27 ▸ jg_nr (by decide) g1
      have g29 : jGet L27 1 = some (.int (i32 (p0))) := eL27 ▸ jg_ne (by decide) g2 rfl
      have g30 : jGet L27 2 = some (rv (ou)) := eL27 ▸ jg_nr (by decide) g3
      have g31 : jGet L27 3 = some (rv (((x16 : Nat) : Int))) := eL27 ▸ jg_eq
      clear eL27
      refine jx_ar (pc_q := 14) (st_q := [.int (i32 (1))]) rfl rfl rfl rfl ?_
      refine jx_rt (v := some (.int (i32 (1)))) rfl rfl rfl rfl rfl rfl ?_
      exact ⟨m16, tg16, ln16, F16, (1), rfl, rfl, hX26, hC16, hM22, by omega, by omega, by omega, c19, SB_m c20 (by omega), c21, trivial⟩
    ·
      refine Or.inr (Or.inr (Or.inl ⟨_, _, 15, rfl, cx_exc (c := 17) ho16 ht16 (by decide), rfl, ?_⟩))
      rw [← rv_x ho16]
      have hM32 := Fq_t (ln := ln) (ln1 := ln) hM0 hX0 hM16 (by decide) (Or.inl rfl)
      have ho33 : own m16 (x) ∧ tg16 (x) = 1 := Ex_o hx16 ⟨o_x, t_x⟩
      have ho34 : own m16 (ou) ∧ tg16 (ou) = 22 := Ex_o hx16 ⟨o_ou, t_ou⟩
      have ln35 : ln16 (ou) = 1 := (hx16.2 _ o_ou).2.trans p_0
      have hX36 := Ex_t hX0 hx16
      refine jx_ld (pc_q := 16) (l_q := jSto1 L0 3 (rv (((x16 : Nat) : Int)))) (st_q := []) rfl (js_rvn (by decide)) ?_
      obtain ⟨L37, eL37⟩ : ∃ q : jL, q = jSto1 L0 3 (rv (((x16 : Nat) : Int))) := ⟨_, rfl⟩
      rw [← eL37]
      have g38 : jGet L37 0 = some (rv (x)) := eL37 ▸ jg_nr (by decide) g1
      have g39 : jGet L37 1 = some (.int (i32 (p0))) := eL37 ▸ jg_ne (by decide) g2 rfl
      have g40 : jGet L37 2 = some (rv (ou)) := eL37 ▸ jg_nr (by decide) g3
      have g41 : jGet L37 3 = some (rv (((x16 : Nat) : Int))) := eL37 ▸ jg_eq
      clear eL37
      refine jx_ar (pc_q := 17) (st_q := [.int (i32 (2))]) rfl rfl rfl rfl ?_
      refine jx_rt (v := some (.int (i32 (2)))) rfl rfl rfl rfl rfl rfl ?_
      exact ⟨m16, tg16, ln16, F16, (2), rfl, rfl, hX36, hC16, hM32, by omega, by omega, by omega, c19, SB_m c20 (by omega), c21, trivial⟩
  have hM42 : Fq 0 [(22, -5)] m tg F F5 := Fq_t (ln := ln) (ln1 := ln) hM0 hX0 hM9 (by decide) (Or.inl rfl)
  have ho43 : own m4 (x) ∧ tg4 (x) = 1 := Ex_o hx7 ⟨o_x, t_x⟩
  have ho44 : own m4 (ou) ∧ tg4 (ou) = 22 := Ex_o hx7 ⟨o_ou, t_ou⟩
  have ln45 : ln4 (ou) = 1 := (hx7.2 _ o_ou).2.trans p_0
  have hX46 := Ex_t hX0 hx7
  refine Or.inr (Or.inl ⟨_, rfl, ?_⟩)
  refine jx_ar (pc_q := 8) (st_q := .long ((i32 (r6)).toInt64) :: [.int (i32 (0)), rv (ou)]) rfl rfl rfl rfl ?_
  obtain ⟨y47, ey47⟩ : ∃ q : Int64, q = (i32 (r6)).toInt64 := ⟨_, rfl⟩
  rw [← ey47]
  have b48 := HC_l hC8 ho44.1 ho44.2 (by decide)
  refine cx_las (pc_q := 9) (z := 0) (y := y47) rfl rfl ho44.1 ho44.2 (by omega) (by omega) (by omega) ?_
  obtain ⟨F49, eF49⟩ : ∃ q, q = uF F5 (ou) (0 : Int) ((y47 : Int64).toInt) := ⟨_, rfl⟩
  rw [← eF49]
  have hC50 : HC 0 m4 tg4 ln4 F49 := by rw [eF49]; exact HC_pl hC8 ho44.2 (by omega)
  have hM51 : Fq 0 [(22, -5)] m tg F F49 := by rw [eF49]; exact Fq_p hM42 ho44.2 (fun w => (hX46.2 _ w).1) (inL_a rfl (by omega) rfl)
  have c52 : NP m4 tg4 F49 := by rw [eF49]; exact NP_u hC8 c13 ho44.2 (by omega)
  have c53 : SB m4 tg4 F49 ((kk)) := by rw [eF49]; exact SB_u c14 ho44.2 (by omega)
  refine jx_go (tg := 18) rfl rfl ?_
  refine jx_ar (pc_q := 19) (st_q := [.int (i32 (0))]) rfl rfl rfl rfl ?_
  refine jx_rt (v := some (.int (i32 (0)))) rfl rfl rfl rfl rfl rfl ?_
  exact ⟨m4, tg4, ln4, F49, (0), rfl, rfl, hX46, hC50, hM51, by omega, by omega, by omega, c52, SB_m c53 (by omega), c15, trivial⟩
set_option maxRecDepth 20000 in
set_option maxHeartbeats 4000000 in
theorem k_LLaw_about {X : jX} {dd : Nat} {R : Nat → jC} {m : Nat} {tg ln : Int → Int} {F : Int → Int → Int} {kk : Int} {x p0 ou : Int} (hd : 3 ≤ dd) (hC : HC 0 m tg ln F) (o_x : own m x) (t_x : tg x = 1) (h_p0 : (-2147483648 : Int) ≤ p0 ∧ p0 ≤ 2147483647) (o_ou : own m ou) (t_ou : tg ou = 22) (s_ou : F ou (-1) = 0) (p_0 : ln ou = 1) (c_NP : NP m tg F) (c_SB : SB m tg F (kk)) (c_T3 : T3 m tg) : wk X dd 17 [rv x, .int (i32 p0), rv ou] (cV R m tg ln F) (fun o V_q => ∃ (m_q : Nat) (tg_q ln_q : Int → Int) (F_q : Int → Int → Int) (r : Int), V_q = cV R m_q tg_q ln_q F_q ∧ o = .inl (some (.int (i32 r))) ∧ Ex m tg ln m_q tg_q ln_q ∧ HC 0 m_q tg_q ln_q F_q ∧ Fq 0 [(22, -5)] m tg F F_q ∧ (-2147483648 ≤ r ∧ r ≤ 2147483647) ∧ (szD m_q tg_q ln_q ≤ szD m tg ln + 25) ∧ ((m_q : Int) ≤ (m : Int) + 1) ∧ (NP m_q tg_q F_q) ∧ (SB m_q tg_q F_q (kk)) ∧ (T3 m_q tg_q) ∧ True) := by
  obtain ⟨d, rfl⟩ : ∃ d, dd = d + 1 := ⟨dd - 1, by omega⟩
  refine wk_of (e := jm17) rfl (by rw [jS_r, jS_i, jS_r, jS_0]; exact Nat.le_of_ble_eq_true rfl) ?_
  rw [la_r, la_i, la_r, la_0]
  show wj X d jm17 (0, [(0, rv (x)), (1, .int (i32 (p0))), (2, rv (ou))], [], cV R m tg ln F) _
  have hM0 : Fq 0 [(22, -5)] m tg F F := Fq_r
  have hX0 : Ex m tg ln m tg ln := Ex_r
  obtain ⟨L0, eL0⟩ : ∃ q : jL, q = [(0, rv (x)), (1, .int (i32 (p0))), (2, rv (ou))] := ⟨_, rfl⟩
  rw [← eL0]
  have g1 : jGet L0 0 = some (rv (x)) := eL0 ▸ (rfl : jGet [(0, rv (x)), (1, .int (i32 (p0))), (2, rv (ou))] 0 = some (rv (x)))
  have g2 : jGet L0 1 = some (.int (i32 (p0))) := eL0 ▸ (rfl : jGet [(0, rv (x)), (1, .int (i32 (p0))), (2, rv (ou))] 1 = some (.int (i32 (p0))))
  have g3 : jGet L0 2 = some (rv (ou)) := eL0 ▸ (rfl : jGet [(0, rv (x)), (1, .int (i32 (p0))), (2, rv (ou))] 2 = some (rv (ou)))
  clear eL0
  refine jx_ld (pc_q := 1) (l_q := L0) (st_q := [rv (ou)]) rfl (jl_rvn g3) ?_
  refine jx_ar (pc_q := 2) (st_q := [.int (i32 (0)), rv (ou)]) rfl rfl rfl rfl ?_
  refine jx_ld (pc_q := 3) (l_q := L0) (st_q := [rv (x), .int (i32 (0)), rv (ou)]) rfl (jl_rvn g1) ?_
  refine jx_ld (pc_q := 4) (l_q := L0) (st_q := [.int (i32 (p0)), rv (x), .int (i32 (0)), rv (ou)]) rfl (jl_iloadn g2) ?_
  refine cx_vi (c := 0) (a := x) (st := [.int (i32 (0)), rv (ou)]) (as := [.int (i32 (p0))]) rfl rfl rfl o_x t_x (by decide) rfl ⟨rfl, rfl, (by rw [jS_i, jS_r, jS_0]; exact Nat.le_of_ble_eq_true rfl)⟩ rfl (k_LY_about (dd := d) (R := R) (m := m) (tg := tg) (ln := ln) (F := F) (me := x) (wh := p0) (hd := by omega) (hC := hC) (o_me := o_x) (t_me := t_x) (h_wh := by omega) (c_NP := c_NP) (kk := kk) (c_SB := c_SB) (c_T3 := c_T3)) (fun o V_q hq => ?_)
  obtain ⟨m4, tg4, ln4, F5, r6, rfl, rfl, hx7, hC8, hM9, b10, p11, p12, c13, c14, c15, -⟩ | ⟨m16, tg16, ln16, F16, x16, rfl, rfl, hx16, hC16, hM16, ho16, ht16, p17, p18, c19, c20, c21, -⟩ := hq
  rotate_left
  · rcases ht16 with ht16 | ht16
    ·
      refine Or.inr (Or.inr (Or.inl ⟨_, _, 12, rfl, cx_exc (c := 15) ho16 ht16 (by decide), rfl, ?_⟩))
      rw [← rv_x ho16]
      have hM22 := Fq_t (ln := ln) (ln1 := ln) hM0 hX0 hM16 (by decide) (Or.inl rfl)
      have ho23 : own m16 (x) ∧ tg16 (x) = 1 := Ex_o hx16 ⟨o_x, t_x⟩
      have ho24 : own m16 (ou) ∧ tg16 (ou) = 22 := Ex_o hx16 ⟨o_ou, t_ou⟩
      have ln25 : ln16 (ou) = 1 := (hx16.2 _ o_ou).2.trans p_0
      have hX26 := Ex_t hX0 hx16
      refine jx_ld (pc_q := 13) (l_q := jSto1 L0 3 (rv (((x16 : Nat) : Int)))) (st_q := []) rfl (js_rvn (by decide)) ?_
      obtain ⟨L27, eL27⟩ : ∃ q : jL, q = jSto1 L0 3 (rv (((x16 : Nat) : Int))) := ⟨_, rfl⟩
      rw [← eL27]
      have g28 : jGet L27 0 = some (rv (x)) := eL27 ▸ jg_nr (by decide) g1
      have g29 : jGet L27 1 = some (.int (i32 (p0))) := eL27 ▸ jg_ne (by decide) g2 rfl
      have g30 : jGet L27 2 = some (rv (ou)) := eL27 ▸ jg_nr (by decide) g3
      have g31 : jGet L27 3 = some (rv (((x16 : Nat) : Int))) := eL27 ▸ jg_eq
      clear eL27
      refine jx_ar (pc_q := 14) (st_q := [.int (i32 (1))]) rfl rfl rfl rfl ?_
      refine jx_rt (v := some (.int (i32 (1)))) rfl rfl rfl rfl rfl rfl ?_
      exact ⟨m16, tg16, ln16, F16, (1), rfl, rfl, hX26, hC16, hM22, by omega, by omega, by omega, c19, SB_m c20 (by omega), c21, trivial⟩
    ·
      refine Or.inr (Or.inr (Or.inl ⟨_, _, 15, rfl, cx_exc (c := 13) ho16 ht16 (by decide), rfl, ?_⟩))
      rw [← rv_x ho16]
      have hM32 := Fq_t (ln := ln) (ln1 := ln) hM0 hX0 hM16 (by decide) (Or.inl rfl)
      have ho33 : own m16 (x) ∧ tg16 (x) = 1 := Ex_o hx16 ⟨o_x, t_x⟩
      have ho34 : own m16 (ou) ∧ tg16 (ou) = 22 := Ex_o hx16 ⟨o_ou, t_ou⟩
      have ln35 : ln16 (ou) = 1 := (hx16.2 _ o_ou).2.trans p_0
      have hX36 := Ex_t hX0 hx16
      refine jx_ld (pc_q := 16) (l_q := jSto1 L0 3 (rv (((x16 : Nat) : Int)))) (st_q := []) rfl (js_rvn (by decide)) ?_
      obtain ⟨L37, eL37⟩ : ∃ q : jL, q = jSto1 L0 3 (rv (((x16 : Nat) : Int))) := ⟨_, rfl⟩
      rw [← eL37]
      have g38 : jGet L37 0 = some (rv (x)) := eL37 ▸ jg_nr (by decide) g1
      have g39 : jGet L37 1 = some (.int (i32 (p0))) := eL37 ▸ jg_ne (by decide) g2 rfl
      have g40 : jGet L37 2 = some (rv (ou)) := eL37 ▸ jg_nr (by decide) g3
      have g41 : jGet L37 3 = some (rv (((x16 : Nat) : Int))) := eL37 ▸ jg_eq
      clear eL37
      refine jx_ar (pc_q := 17) (st_q := [.int (i32 (2))]) rfl rfl rfl rfl ?_
      refine jx_rt (v := some (.int (i32 (2)))) rfl rfl rfl rfl rfl rfl ?_
      exact ⟨m16, tg16, ln16, F16, (2), rfl, rfl, hX36, hC16, hM32, by omega, by omega, by omega, c19, SB_m c20 (by omega), c21, trivial⟩
  have hM42 : Fq 0 [(22, -5)] m tg F F5 := Fq_t (ln := ln) (ln1 := ln) hM0 hX0 hM9 (by decide) (Or.inl rfl)
  have ho43 : own m4 (x) ∧ tg4 (x) = 1 := Ex_o hx7 ⟨o_x, t_x⟩
  have ho44 : own m4 (ou) ∧ tg4 (ou) = 22 := Ex_o hx7 ⟨o_ou, t_ou⟩
  have ln45 : ln4 (ou) = 1 := (hx7.2 _ o_ou).2.trans p_0
  have hX46 := Ex_t hX0 hx7
  refine Or.inr (Or.inl ⟨_, rfl, ?_⟩)
  refine jx_ar (pc_q := 8) (st_q := .long ((i32 (r6)).toInt64) :: [.int (i32 (0)), rv (ou)]) rfl rfl rfl rfl ?_
  obtain ⟨y47, ey47⟩ : ∃ q : Int64, q = (i32 (r6)).toInt64 := ⟨_, rfl⟩
  rw [← ey47]
  have b48 := HC_l hC8 ho44.1 ho44.2 (by decide)
  refine cx_las (pc_q := 9) (z := 0) (y := y47) rfl rfl ho44.1 ho44.2 (by omega) (by omega) (by omega) ?_
  obtain ⟨F49, eF49⟩ : ∃ q, q = uF F5 (ou) (0 : Int) ((y47 : Int64).toInt) := ⟨_, rfl⟩
  rw [← eF49]
  have hC50 : HC 0 m4 tg4 ln4 F49 := by rw [eF49]; exact HC_pl hC8 ho44.2 (by omega)
  have hM51 : Fq 0 [(22, -5)] m tg F F49 := by rw [eF49]; exact Fq_p hM42 ho44.2 (fun w => (hX46.2 _ w).1) (inL_a rfl (by omega) rfl)
  have c52 : NP m4 tg4 F49 := by rw [eF49]; exact NP_u hC8 c13 ho44.2 (by omega)
  have c53 : SB m4 tg4 F49 ((kk)) := by rw [eF49]; exact SB_u c14 ho44.2 (by omega)
  refine jx_go (tg := 18) rfl rfl ?_
  refine jx_ar (pc_q := 19) (st_q := [.int (i32 (0))]) rfl rfl rfl rfl ?_
  refine jx_rt (v := some (.int (i32 (0)))) rfl rfl rfl rfl rfl rfl ?_
  exact ⟨m4, tg4, ln4, F49, (0), rfl, rfl, hX46, hC50, hM51, by omega, by omega, by omega, c52, SB_m c53 (by omega), c15, trivial⟩
set_option maxRecDepth 20000 in
set_option maxHeartbeats 4000000 in
theorem k_LLaw_begin {X : jX} {dd : Nat} {R : Nat → jC} {m : Nat} {tg ln : Int → Int} {F : Int → Int → Int} {kk : Int} {x : Int} (hd : 5 ≤ dd) (hC : HC 0 m tg ln F) (o_x : own m x) (t_x : tg x = 1) (p_0 : 0 ≤ kk) (c_NP : NP m tg F) (c_SB : SB m tg F (kk)) (c_T3 : T3 m tg) : wk X dd 7 [rv x] (cV R m tg ln F) (fun o V_q => ∃ (m_q : Nat) (tg_q ln_q : Int → Int) (F_q : Int → Int → Int) (r : Int), V_q = cV R m_q tg_q ln_q F_q ∧ o = .inl (some (.int (i32 r))) ∧ Ex m tg ln m_q tg_q ln_q ∧ HC 0 m_q tg_q ln_q F_q ∧ Fq 0 [(3, 5), (3, 6), (3, 7), (3, 8), (3, 9), (3, 10), (3, 11), (3, 12), (3, 13), (3, 14), (3, 16), (3, 17), (3, 18), (3, 19), (3, 20), (5, 2), (5, 3), (5, 4), (5, 5), (5, 6), (5, 7), (6, 3), (6, 4), (6, 6), (6, 7), (6, 8), (21, -5)] m tg F F_q ∧ (-2147483648 ≤ r ∧ r ≤ 2147483647) ∧ (szD m_q tg_q ln_q ≤ szD m tg ln + 25) ∧ ((m_q : Int) ≤ (m : Int) + 1) ∧ (NP m_q tg_q F_q) ∧ (SB m_q tg_q F_q (kk + 1)) ∧ (T3 m_q tg_q) ∧ True) := by
  obtain ⟨d, rfl⟩ : ∃ d, dd = d + 1 := ⟨dd - 1, by omega⟩
  refine wk_of (e := jm7) rfl (by rw [jS_r, jS_0]; exact Nat.le_of_ble_eq_true rfl) ?_
  rw [la_r, la_0]
  show wj X d jm7 (0, [(0, rv (x))], [], cV R m tg ln F) _
  have hM0 : Fq 0 [(3, 5), (3, 6), (3, 7), (3, 8), (3, 9), (3, 10), (3, 11), (3, 12), (3, 13), (3, 14), (3, 16), (3, 17), (3, 18), (3, 19), (3, 20), (5, 2), (5, 3), (5, 4), (5, 5), (5, 6), (5, 7), (6, 3), (6, 4), (6, 6), (6, 7), (6, 8), (21, -5)] m tg F F := Fq_r
  have hX0 : Ex m tg ln m tg ln := Ex_r
  obtain ⟨L0, eL0⟩ : ∃ q : jL, q = [(0, rv (x))] := ⟨_, rfl⟩
  rw [← eL0]
  have g1 : jGet L0 0 = some (rv (x)) := eL0 ▸ (rfl : jGet [(0, rv (x))] 0 = some (rv (x)))
  clear eL0
  refine jx_ld (pc_q := 1) (l_q := L0) (st_q := [rv (x)]) rfl (jl_rvn g1) ?_
  refine cx_vi (c := 0) (a := x) (st := []) (as := []) rfl rfl rfl o_x t_x (by decide) rfl ⟨rfl, rfl, (Nat.le_of_ble_eq_true rfl)⟩ rfl (k_LY_begin (dd := d) (R := R) (m := m) (tg := tg) (ln := ln) (F := F) (me := x) (hd := by omega) (hC := hC) (o_me := o_x) (t_me := t_x) (p_0 := by omega) (c_NP := c_NP) (kk := kk) (c_SB := c_SB) (c_T3 := c_T3)) (fun o V_q hq => ?_)
  obtain ⟨m2, tg2, ln2, F3, rfl, rfl, hx4, hC5, hM6, p7, p8, c9, c10, c11, -⟩ | ⟨m12, tg12, ln12, F12, x12, rfl, rfl, hx12, hC12, hM12, ho12, ht12, p13, p14, c15, c16, c17, -⟩ := hq
  rotate_left
  ·
    refine Or.inr (Or.inr (Or.inl ⟨_, _, 7, rfl, cx_exc (c := 15) ho12 ht12 (by decide), rfl, ?_⟩))
    rw [← rv_x ho12]
    have hM18 := Fq_t (ln := ln) (ln1 := ln) hM0 hX0 hM12 (by decide) (Or.inl rfl)
    have ho19 : own m12 (x) ∧ tg12 (x) = 1 := Ex_o hx12 ⟨o_x, t_x⟩
    have hX20 := Ex_t hX0 hx12
    refine jx_ld (pc_q := 8) (l_q := jSto1 L0 1 (rv (((x12 : Nat) : Int)))) (st_q := []) rfl (js_rvn (by decide)) ?_
    obtain ⟨L21, eL21⟩ : ∃ q : jL, q = jSto1 L0 1 (rv (((x12 : Nat) : Int))) := ⟨_, rfl⟩
    rw [← eL21]
    have g22 : jGet L21 0 = some (rv (x)) := eL21 ▸ jg_nr (by decide) g1
    have g23 : jGet L21 1 = some (rv (((x12 : Nat) : Int))) := eL21 ▸ jg_eq
    clear eL21
    refine jx_ar (pc_q := 9) (st_q := [.int (i32 (1))]) rfl rfl rfl rfl ?_
    refine jx_rt (v := some (.int (i32 (1)))) rfl rfl rfl rfl rfl rfl ?_
    exact ⟨m12, tg12, ln12, F12, (1), rfl, rfl, hX20, hC12, hM18, by omega, by omega, by omega, c15, SB_m c16 (by omega), c17, trivial⟩
  have hM24 : Fq 0 [(3, 5), (3, 6), (3, 7), (3, 8), (3, 9), (3, 10), (3, 11), (3, 12), (3, 13), (3, 14), (3, 16), (3, 17), (3, 18), (3, 19), (3, 20), (5, 2), (5, 3), (5, 4), (5, 5), (5, 6), (5, 7), (6, 3), (6, 4), (6, 6), (6, 7), (6, 8), (21, -5)] m tg F F3 := Fq_t (ln := ln) (ln1 := ln) hM0 hX0 hM6 (by decide) (Or.inl rfl)
  have ho25 : own m2 (x) ∧ tg2 (x) = 1 := Ex_o hx4 ⟨o_x, t_x⟩
  have hX26 := Ex_t hX0 hx4
  refine Or.inl ⟨rfl, ?_⟩
  refine jx_go (tg := 10) rfl rfl ?_
  refine jx_ar (pc_q := 11) (st_q := [.int (i32 (0))]) rfl rfl rfl rfl ?_
  refine jx_rt (v := some (.int (i32 (0)))) rfl rfl rfl rfl rfl rfl ?_
  exact ⟨m2, tg2, ln2, F3, (0), rfl, rfl, hX26, hC5, hM24, by omega, by omega, by omega, c9, SB_m c10 (by omega), c11, trivial⟩
set_option maxRecDepth 20000 in
set_option maxHeartbeats 4000000 in
theorem k_LLaw_input {X : jX} {dd : Nat} {R : Nat → jC} {m : Nat} {tg ln : Int → Int} {F : Int → Int → Int} {kk : Int} {x p0 ou : Int} (hd : 7 ≤ dd) (hC : HC 0 m tg ln F) (o_x : own m x) (t_x : tg x = 1) (h_p0 : (-2147483648 : Int) ≤ p0 ∧ p0 ≤ 2147483647) (o_ou : own m ou) (t_ou : tg ou = 22) (s_ou : F ou (-1) = 0) (p_0 : ln ou = 1) (c_NP : NP m tg F) (c_SB : SB m tg F (kk)) (c_T3 : T3 m tg) : wk X dd 8 [rv x, .int (i32 p0), rv ou] (cV R m tg ln F) (fun o V_q => ∃ (m_q : Nat) (tg_q ln_q : Int → Int) (F_q : Int → Int → Int) (r : Int), V_q = cV R m_q tg_q ln_q F_q ∧ o = .inl (some (.int (i32 r))) ∧ Ex m tg ln m_q tg_q ln_q ∧ HC 0 m_q tg_q ln_q F_q ∧ Fq 0 [(3, 5), (3, 6), (3, 7), (3, 8), (3, 9), (3, 10), (3, 11), (3, 12), (3, 16), (3, 17), (3, 19), (3, 20), (6, 3), (6, 4), (21, -5), (22, -5)] m tg F F_q ∧ (-2147483648 ≤ r ∧ r ≤ 2147483647) ∧ (szD m_q tg_q ln_q ≤ szD m tg ln + 25) ∧ ((m_q : Int) ≤ (m : Int) + 1) ∧ (NP m_q tg_q F_q) ∧ (SB m_q tg_q F_q (kk)) ∧ (T3 m_q tg_q) ∧ True) := by
  obtain ⟨d, rfl⟩ : ∃ d, dd = d + 1 := ⟨dd - 1, by omega⟩
  refine wk_of (e := jm8) rfl (by rw [jS_r, jS_i, jS_r, jS_0]; exact Nat.le_of_ble_eq_true rfl) ?_
  rw [la_r, la_i, la_r, la_0]
  show wj X d jm8 (0, [(0, rv (x)), (1, .int (i32 (p0))), (2, rv (ou))], [], cV R m tg ln F) _
  have hM0 : Fq 0 [(3, 5), (3, 6), (3, 7), (3, 8), (3, 9), (3, 10), (3, 11), (3, 12), (3, 16), (3, 17), (3, 19), (3, 20), (6, 3), (6, 4), (21, -5), (22, -5)] m tg F F := Fq_r
  have hX0 : Ex m tg ln m tg ln := Ex_r
  obtain ⟨L0, eL0⟩ : ∃ q : jL, q = [(0, rv (x)), (1, .int (i32 (p0))), (2, rv (ou))] := ⟨_, rfl⟩
  rw [← eL0]
  have g1 : jGet L0 0 = some (rv (x)) := eL0 ▸ (rfl : jGet [(0, rv (x)), (1, .int (i32 (p0))), (2, rv (ou))] 0 = some (rv (x)))
  have g2 : jGet L0 1 = some (.int (i32 (p0))) := eL0 ▸ (rfl : jGet [(0, rv (x)), (1, .int (i32 (p0))), (2, rv (ou))] 1 = some (.int (i32 (p0))))
  have g3 : jGet L0 2 = some (rv (ou)) := eL0 ▸ (rfl : jGet [(0, rv (x)), (1, .int (i32 (p0))), (2, rv (ou))] 2 = some (rv (ou)))
  clear eL0
  refine jx_ld (pc_q := 1) (l_q := L0) (st_q := [rv (ou)]) rfl (jl_rvn g3) ?_
  refine jx_ar (pc_q := 2) (st_q := [.int (i32 (0)), rv (ou)]) rfl rfl rfl rfl ?_
  refine jx_ld (pc_q := 3) (l_q := L0) (st_q := [rv (x), .int (i32 (0)), rv (ou)]) rfl (jl_rvn g1) ?_
  refine jx_ld (pc_q := 4) (l_q := L0) (st_q := [.int (i32 (p0)), rv (x), .int (i32 (0)), rv (ou)]) rfl (jl_iloadn g2) ?_
  refine cx_vi (c := 0) (a := x) (st := [.int (i32 (0)), rv (ou)]) (as := [.int (i32 (p0))]) rfl rfl rfl o_x t_x (by decide) rfl ⟨rfl, rfl, (by rw [jS_i, jS_r, jS_0]; exact Nat.le_of_ble_eq_true rfl)⟩ rfl (k_LY_input (dd := d) (R := R) (m := m) (tg := tg) (ln := ln) (F := F) (me := x) (v := p0) (hd := by omega) (hC := hC) (o_me := o_x) (t_me := t_x) (h_v := by omega) (c_NP := c_NP) (kk := kk) (c_SB := c_SB) (c_T3 := c_T3)) (fun o V_q hq => ?_)
  obtain ⟨m4, tg4, ln4, F5, r6, rfl, rfl, hx7, hC8, hM9, b10, p11, p12, c13, c14, c15, -⟩ | ⟨m16, tg16, ln16, F16, x16, rfl, rfl, hx16, hC16, hM16, ho16, ht16, p17, p18, c19, c20, c21, -⟩ := hq
  rotate_left
  · rcases ht16 with ht16 | ht16
    ·
      refine Or.inr (Or.inr (Or.inl ⟨_, _, 12, rfl, cx_exc (c := 15) ho16 ht16 (by decide), rfl, ?_⟩))
      rw [← rv_x ho16]
      have hM22 := Fq_t (ln := ln) (ln1 := ln) hM0 hX0 hM16 (by decide) (Or.inl rfl)
      have ho23 : own m16 (x) ∧ tg16 (x) = 1 := Ex_o hx16 ⟨o_x, t_x⟩
      have ho24 : own m16 (ou) ∧ tg16 (ou) = 22 := Ex_o hx16 ⟨o_ou, t_ou⟩
      have ln25 : ln16 (ou) = 1 := (hx16.2 _ o_ou).2.trans p_0
      have hX26 := Ex_t hX0 hx16
      refine jx_ld (pc_q := 13) (l_q := jSto1 L0 3 (rv (((x16 : Nat) : Int)))) (st_q := []) rfl (js_rvn (by decide)) ?_
      obtain ⟨L27, eL27⟩ : ∃ q : jL, q = jSto1 L0 3 (rv (((x16 : Nat) : Int))) := ⟨_, rfl⟩
      rw [← eL27]
      have g28 : jGet L27 0 = some (rv (x)) := eL27 ▸ jg_nr (by decide) g1
      have g29 : jGet L27 1 = some (.int (i32 (p0))) := eL27 ▸ jg_ne (by decide) g2 rfl
      have g30 : jGet L27 2 = some (rv (ou)) := eL27 ▸ jg_nr (by decide) g3
      have g31 : jGet L27 3 = some (rv (((x16 : Nat) : Int))) := eL27 ▸ jg_eq
      clear eL27
      refine jx_ar (pc_q := 14) (st_q := [.int (i32 (1))]) rfl rfl rfl rfl ?_
      refine jx_rt (v := some (.int (i32 (1)))) rfl rfl rfl rfl rfl rfl ?_
      exact ⟨m16, tg16, ln16, F16, (1), rfl, rfl, hX26, hC16, hM22, by omega, by omega, by omega, c19, SB_m c20 (by omega), c21, trivial⟩
    ·
      refine Or.inr (Or.inr (Or.inl ⟨_, _, 15, rfl, cx_exc (c := 14) ho16 ht16 (by decide), rfl, ?_⟩))
      rw [← rv_x ho16]
      have hM32 := Fq_t (ln := ln) (ln1 := ln) hM0 hX0 hM16 (by decide) (Or.inl rfl)
      have ho33 : own m16 (x) ∧ tg16 (x) = 1 := Ex_o hx16 ⟨o_x, t_x⟩
      have ho34 : own m16 (ou) ∧ tg16 (ou) = 22 := Ex_o hx16 ⟨o_ou, t_ou⟩
      have ln35 : ln16 (ou) = 1 := (hx16.2 _ o_ou).2.trans p_0
      have hX36 := Ex_t hX0 hx16
      refine jx_ld (pc_q := 16) (l_q := jSto1 L0 3 (rv (((x16 : Nat) : Int)))) (st_q := []) rfl (js_rvn (by decide)) ?_
      obtain ⟨L37, eL37⟩ : ∃ q : jL, q = jSto1 L0 3 (rv (((x16 : Nat) : Int))) := ⟨_, rfl⟩
      rw [← eL37]
      have g38 : jGet L37 0 = some (rv (x)) := eL37 ▸ jg_nr (by decide) g1
      have g39 : jGet L37 1 = some (.int (i32 (p0))) := eL37 ▸ jg_ne (by decide) g2 rfl
      have g40 : jGet L37 2 = some (rv (ou)) := eL37 ▸ jg_nr (by decide) g3
      have g41 : jGet L37 3 = some (rv (((x16 : Nat) : Int))) := eL37 ▸ jg_eq
      clear eL37
      refine jx_ar (pc_q := 17) (st_q := [.int (i32 (2))]) rfl rfl rfl rfl ?_
      refine jx_rt (v := some (.int (i32 (2)))) rfl rfl rfl rfl rfl rfl ?_
      exact ⟨m16, tg16, ln16, F16, (2), rfl, rfl, hX36, hC16, hM32, by omega, by omega, by omega, c19, SB_m c20 (by omega), c21, trivial⟩
  have hM42 : Fq 0 [(3, 5), (3, 6), (3, 7), (3, 8), (3, 9), (3, 10), (3, 11), (3, 12), (3, 16), (3, 17), (3, 19), (3, 20), (6, 3), (6, 4), (21, -5), (22, -5)] m tg F F5 := Fq_t (ln := ln) (ln1 := ln) hM0 hX0 hM9 (by decide) (Or.inl rfl)
  have ho43 : own m4 (x) ∧ tg4 (x) = 1 := Ex_o hx7 ⟨o_x, t_x⟩
  have ho44 : own m4 (ou) ∧ tg4 (ou) = 22 := Ex_o hx7 ⟨o_ou, t_ou⟩
  have ln45 : ln4 (ou) = 1 := (hx7.2 _ o_ou).2.trans p_0
  have hX46 := Ex_t hX0 hx7
  refine Or.inr (Or.inl ⟨_, rfl, ?_⟩)
  refine jx_ar (pc_q := 8) (st_q := .long ((i32 (r6)).toInt64) :: [.int (i32 (0)), rv (ou)]) rfl rfl rfl rfl ?_
  obtain ⟨y47, ey47⟩ : ∃ q : Int64, q = (i32 (r6)).toInt64 := ⟨_, rfl⟩
  rw [← ey47]
  have b48 := HC_l hC8 ho44.1 ho44.2 (by decide)
  refine cx_las (pc_q := 9) (z := 0) (y := y47) rfl rfl ho44.1 ho44.2 (by omega) (by omega) (by omega) ?_
  obtain ⟨F49, eF49⟩ : ∃ q, q = uF F5 (ou) (0 : Int) ((y47 : Int64).toInt) := ⟨_, rfl⟩
  rw [← eF49]
  have hC50 : HC 0 m4 tg4 ln4 F49 := by rw [eF49]; exact HC_pl hC8 ho44.2 (by omega)
  have hM51 : Fq 0 [(3, 5), (3, 6), (3, 7), (3, 8), (3, 9), (3, 10), (3, 11), (3, 12), (3, 16), (3, 17), (3, 19), (3, 20), (6, 3), (6, 4), (21, -5), (22, -5)] m tg F F49 := by rw [eF49]; exact Fq_p hM42 ho44.2 (fun w => (hX46.2 _ w).1) (inL_a rfl (by omega) rfl)
  have c52 : NP m4 tg4 F49 := by rw [eF49]; exact NP_u hC8 c13 ho44.2 (by omega)
  have c53 : SB m4 tg4 F49 ((kk)) := by rw [eF49]; exact SB_u c14 ho44.2 (by omega)
  refine jx_go (tg := 18) rfl rfl ?_
  refine jx_ar (pc_q := 19) (st_q := [.int (i32 (0))]) rfl rfl rfl rfl ?_
  refine jx_rt (v := some (.int (i32 (0)))) rfl rfl rfl rfl rfl rfl ?_
  exact ⟨m4, tg4, ln4, F49, (0), rfl, rfl, hX46, hC50, hM51, by omega, by omega, by omega, c52, SB_m c53 (by omega), c15, trivial⟩
set_option maxRecDepth 20000 in
set_option maxHeartbeats 4000000 in
theorem k_LLaw_run {X : jX} {dd : Nat} {R : Nat → jC} {m : Nat} {tg ln : Int → Int} {F : Int → Int → Int} {kk : Int} {x p0 p1 ou : Int} (hd : 8 ≤ dd) (hC : HC 0 m tg ln F) (o_x : own m x) (t_x : tg x = 1) (h_p0 : (-2147483648 : Int) ≤ p0 ∧ p0 ≤ 2147483647) (h_p1 : (-2147483648 : Int) ≤ p1 ∧ p1 ≤ 2147483647) (o_ou : own m ou) (t_ou : tg ou = 22) (s_ou : F ou (-1) = 0) (p_0 : ln ou = 1) (p_1 : 0 ≤ kk) (p_2 : kk ≤ 2000000000) (c_NP : NP m tg F) (c_SB : SB m tg F (kk)) (c_T3 : T3 m tg) : wk X dd 9 [rv x, .int (i32 p0), .int (i32 p1), rv ou] (cV R m tg ln F) (fun o V_q => ∃ (m_q : Nat) (tg_q ln_q : Int → Int) (F_q : Int → Int → Int) (r : Int), V_q = cV R m_q tg_q ln_q F_q ∧ o = .inl (some (.int (i32 r))) ∧ Ex m tg ln m_q tg_q ln_q ∧ HC 0 m_q tg_q ln_q F_q ∧ Fq 0 [(3, 5), (3, 6), (3, 7), (3, 8), (3, 9), (3, 10), (3, 11), (3, 12), (3, 13), (3, 14), (3, 16), (3, 17), (3, 18), (3, 19), (3, 20), (5, 2), (5, 3), (5, 4), (5, 5), (5, 6), (5, 7), (6, 4), (6, 6), (21, -5), (22, -5)] m tg F F_q ∧ (-2147483648 ≤ r ∧ r ≤ 2147483647) ∧ (szD m_q tg_q ln_q ≤ szD m tg ln + 25) ∧ ((m_q : Int) ≤ (m : Int) + 1) ∧ (NP m_q tg_q F_q) ∧ (SB m_q tg_q F_q (kk + 5000)) ∧ (T3 m_q tg_q) ∧ True) := by
  obtain ⟨d, rfl⟩ : ∃ d, dd = d + 1 := ⟨dd - 1, by omega⟩
  refine wk_of (e := jm9) rfl (by rw [jS_r, jS_i, jS_i, jS_r, jS_0]; exact Nat.le_of_ble_eq_true rfl) ?_
  rw [la_r, la_i, la_i, la_r, la_0]
  show wj X d jm9 (0, [(0, rv (x)), (1, .int (i32 (p0))), (2, .int (i32 (p1))), (3, rv (ou))], [], cV R m tg ln F) _
  have hM0 : Fq 0 [(3, 5), (3, 6), (3, 7), (3, 8), (3, 9), (3, 10), (3, 11), (3, 12), (3, 13), (3, 14), (3, 16), (3, 17), (3, 18), (3, 19), (3, 20), (5, 2), (5, 3), (5, 4), (5, 5), (5, 6), (5, 7), (6, 4), (6, 6), (21, -5), (22, -5)] m tg F F := Fq_r
  have hX0 : Ex m tg ln m tg ln := Ex_r
  obtain ⟨L0, eL0⟩ : ∃ q : jL, q = [(0, rv (x)), (1, .int (i32 (p0))), (2, .int (i32 (p1))), (3, rv (ou))] := ⟨_, rfl⟩
  rw [← eL0]
  have g1 : jGet L0 0 = some (rv (x)) := eL0 ▸ (rfl : jGet [(0, rv (x)), (1, .int (i32 (p0))), (2, .int (i32 (p1))), (3, rv (ou))] 0 = some (rv (x)))
  have g2 : jGet L0 1 = some (.int (i32 (p0))) := eL0 ▸ (rfl : jGet [(0, rv (x)), (1, .int (i32 (p0))), (2, .int (i32 (p1))), (3, rv (ou))] 1 = some (.int (i32 (p0))))
  have g3 : jGet L0 2 = some (.int (i32 (p1))) := eL0 ▸ (rfl : jGet [(0, rv (x)), (1, .int (i32 (p0))), (2, .int (i32 (p1))), (3, rv (ou))] 2 = some (.int (i32 (p1))))
  have g4 : jGet L0 3 = some (rv (ou)) := eL0 ▸ (rfl : jGet [(0, rv (x)), (1, .int (i32 (p0))), (2, .int (i32 (p1))), (3, rv (ou))] 3 = some (rv (ou)))
  clear eL0
  refine jx_ld (pc_q := 1) (l_q := L0) (st_q := [rv (ou)]) rfl (jl_rvn g4) ?_
  refine jx_ar (pc_q := 2) (st_q := [.int (i32 (0)), rv (ou)]) rfl rfl rfl rfl ?_
  refine jx_ld (pc_q := 3) (l_q := L0) (st_q := [rv (x), .int (i32 (0)), rv (ou)]) rfl (jl_rvn g1) ?_
  refine jx_ld (pc_q := 4) (l_q := L0) (st_q := [.int (i32 (p0)), rv (x), .int (i32 (0)), rv (ou)]) rfl (jl_iloadn g2) ?_
  refine jx_ld (pc_q := 5) (l_q := L0) (st_q := [.int (i32 (p1)), .int (i32 (p0)), rv (x), .int (i32 (0)), rv (ou)]) rfl (jl_iloadn g3) ?_
  refine cx_vi (c := 0) (a := x) (st := [.int (i32 (0)), rv (ou)]) (as := [.int (i32 (p0)), .int (i32 (p1))]) rfl rfl rfl o_x t_x (by decide) rfl ⟨rfl, rfl, (by rw [jS_i, jS_r, jS_0]; exact Nat.le_of_ble_eq_true rfl)⟩ rfl (k_LY_run (dd := d) (R := R) (m := m) (tg := tg) (ln := ln) (F := F) (me := x) (p := p0) (n := p1) (hd := by omega) (hC := hC) (o_me := o_x) (t_me := t_x) (h_p := by omega) (h_n := by omega) (p_0 := by omega) (p_1 := by omega) (c_NP := c_NP) (kk := kk) (c_SB := c_SB) (c_T3 := c_T3)) (fun o V_q hq => ?_)
  obtain ⟨m5, tg5, ln5, F6, r7, rfl, rfl, hx8, hC9, hM10, b11, p12, p13, c14, c15, c16, -⟩ | ⟨m17, tg17, ln17, F17, x17, rfl, rfl, hx17, hC17, hM17, ho17, ht17, p18, p19, c20, c21, c22, -⟩ := hq
  rotate_left
  · rcases ht17 with ht17 | ht17 | ht17
    ·
      refine Or.inr (Or.inr (Or.inl ⟨_, _, 13, rfl, cx_exc (c := 15) ho17 ht17 (by decide), rfl, ?_⟩))
      rw [← rv_x ho17]
      have hM23 := Fq_t (ln := ln) (ln1 := ln) hM0 hX0 hM17 (by decide) (Or.inl rfl)
      have ho24 : own m17 (x) ∧ tg17 (x) = 1 := Ex_o hx17 ⟨o_x, t_x⟩
      have ho25 : own m17 (ou) ∧ tg17 (ou) = 22 := Ex_o hx17 ⟨o_ou, t_ou⟩
      have ln26 : ln17 (ou) = 1 := (hx17.2 _ o_ou).2.trans p_0
      have hX27 := Ex_t hX0 hx17
      refine jx_ld (pc_q := 15) (l_q := jSto1 L0 4 (rv (((x17 : Nat) : Int)))) (st_q := []) rfl (js_rv (by decide)) ?_
      obtain ⟨L28, eL28⟩ : ∃ q : jL, q = jSto1 L0 4 (rv (((x17 : Nat) : Int))) := ⟨_, rfl⟩
      rw [← eL28]
      have g29 : jGet L28 0 = some (rv (x)) := eL28 ▸ jg_nr (by decide) g1
      have g30 : jGet L28 1 = some (.int (i32 (p0))) := eL28 ▸ jg_ne (by decide) g2 rfl
      have g31 : jGet L28 2 = some (.int (i32 (p1))) := eL28 ▸ jg_ne (by decide) g3 rfl
      have g32 : jGet L28 3 = some (rv (ou)) := eL28 ▸ jg_nr (by decide) g4
      have g33 : jGet L28 4 = some (rv (((x17 : Nat) : Int))) := eL28 ▸ jg_eq
      clear eL28
      refine jx_ar (pc_q := 16) (st_q := [.int (i32 (1))]) rfl rfl rfl rfl ?_
      refine jx_rt (v := some (.int (i32 (1)))) rfl rfl rfl rfl rfl rfl ?_
      exact ⟨m17, tg17, ln17, F17, (1), rfl, rfl, hX27, hC17, hM23, by omega, by omega, by omega, c20, SB_m c21 (by omega), c22, trivial⟩
    ·
      refine Or.inr (Or.inr (Or.inl ⟨_, _, 17, rfl, cx_exc (c := 16) ho17 ht17 (by decide), rfl, ?_⟩))
      rw [← rv_x ho17]
      have hM34 := Fq_t (ln := ln) (ln1 := ln) hM0 hX0 hM17 (by decide) (Or.inl rfl)
      have ho35 : own m17 (x) ∧ tg17 (x) = 1 := Ex_o hx17 ⟨o_x, t_x⟩
      have ho36 : own m17 (ou) ∧ tg17 (ou) = 22 := Ex_o hx17 ⟨o_ou, t_ou⟩
      have ln37 : ln17 (ou) = 1 := (hx17.2 _ o_ou).2.trans p_0
      have hX38 := Ex_t hX0 hx17
      refine jx_ld (pc_q := 19) (l_q := jSto1 L0 4 (rv (((x17 : Nat) : Int)))) (st_q := []) rfl (js_rv (by decide)) ?_
      obtain ⟨L39, eL39⟩ : ∃ q : jL, q = jSto1 L0 4 (rv (((x17 : Nat) : Int))) := ⟨_, rfl⟩
      rw [← eL39]
      have g40 : jGet L39 0 = some (rv (x)) := eL39 ▸ jg_nr (by decide) g1
      have g41 : jGet L39 1 = some (.int (i32 (p0))) := eL39 ▸ jg_ne (by decide) g2 rfl
      have g42 : jGet L39 2 = some (.int (i32 (p1))) := eL39 ▸ jg_ne (by decide) g3 rfl
      have g43 : jGet L39 3 = some (rv (ou)) := eL39 ▸ jg_nr (by decide) g4
      have g44 : jGet L39 4 = some (rv (((x17 : Nat) : Int))) := eL39 ▸ jg_eq
      clear eL39
      refine jx_ar (pc_q := 20) (st_q := [.int (i32 (2))]) rfl rfl rfl rfl ?_
      refine jx_rt (v := some (.int (i32 (2)))) rfl rfl rfl rfl rfl rfl ?_
      exact ⟨m17, tg17, ln17, F17, (2), rfl, rfl, hX38, hC17, hM34, by omega, by omega, by omega, c20, SB_m c21 (by omega), c22, trivial⟩
    ·
      refine Or.inr (Or.inr (Or.inl ⟨_, _, 21, rfl, cx_exc (c := 13) ho17 ht17 (by decide), rfl, ?_⟩))
      rw [← rv_x ho17]
      have hM45 := Fq_t (ln := ln) (ln1 := ln) hM0 hX0 hM17 (by decide) (Or.inl rfl)
      have ho46 : own m17 (x) ∧ tg17 (x) = 1 := Ex_o hx17 ⟨o_x, t_x⟩
      have ho47 : own m17 (ou) ∧ tg17 (ou) = 22 := Ex_o hx17 ⟨o_ou, t_ou⟩
      have ln48 : ln17 (ou) = 1 := (hx17.2 _ o_ou).2.trans p_0
      have hX49 := Ex_t hX0 hx17
      refine jx_ld (pc_q := 23) (l_q := jSto1 L0 4 (rv (((x17 : Nat) : Int)))) (st_q := []) rfl (js_rv (by decide)) ?_
      obtain ⟨L50, eL50⟩ : ∃ q : jL, q = jSto1 L0 4 (rv (((x17 : Nat) : Int))) := ⟨_, rfl⟩
      rw [← eL50]
      have g51 : jGet L50 0 = some (rv (x)) := eL50 ▸ jg_nr (by decide) g1
      have g52 : jGet L50 1 = some (.int (i32 (p0))) := eL50 ▸ jg_ne (by decide) g2 rfl
      have g53 : jGet L50 2 = some (.int (i32 (p1))) := eL50 ▸ jg_ne (by decide) g3 rfl
      have g54 : jGet L50 3 = some (rv (ou)) := eL50 ▸ jg_nr (by decide) g4
      have g55 : jGet L50 4 = some (rv (((x17 : Nat) : Int))) := eL50 ▸ jg_eq
      clear eL50
      refine jx_ar (pc_q := 24) (st_q := [.int (i32 (3))]) rfl rfl rfl rfl ?_
      refine jx_rt (v := some (.int (i32 (3)))) rfl rfl rfl rfl rfl rfl ?_
      exact ⟨m17, tg17, ln17, F17, (3), rfl, rfl, hX49, hC17, hM45, by omega, by omega, by omega, c20, SB_m c21 (by omega), c22, trivial⟩
  have hM56 : Fq 0 [(3, 5), (3, 6), (3, 7), (3, 8), (3, 9), (3, 10), (3, 11), (3, 12), (3, 13), (3, 14), (3, 16), (3, 17), (3, 18), (3, 19), (3, 20), (5, 2), (5, 3), (5, 4), (5, 5), (5, 6), (5, 7), (6, 4), (6, 6), (21, -5), (22, -5)] m tg F F6 := Fq_t (ln := ln) (ln1 := ln) hM0 hX0 hM10 (by decide) (Or.inl rfl)
  have ho57 : own m5 (x) ∧ tg5 (x) = 1 := Ex_o hx8 ⟨o_x, t_x⟩
  have ho58 : own m5 (ou) ∧ tg5 (ou) = 22 := Ex_o hx8 ⟨o_ou, t_ou⟩
  have ln59 : ln5 (ou) = 1 := (hx8.2 _ o_ou).2.trans p_0
  have hX60 := Ex_t hX0 hx8
  refine Or.inr (Or.inl ⟨_, rfl, ?_⟩)
  refine jx_ar (pc_q := 9) (st_q := .long ((i32 (r7)).toInt64) :: [.int (i32 (0)), rv (ou)]) rfl rfl rfl rfl ?_
  obtain ⟨y61, ey61⟩ : ∃ q : Int64, q = (i32 (r7)).toInt64 := ⟨_, rfl⟩
  rw [← ey61]
  have b62 := HC_l hC9 ho58.1 ho58.2 (by decide)
  refine cx_las (pc_q := 10) (z := 0) (y := y61) rfl rfl ho58.1 ho58.2 (by omega) (by omega) (by omega) ?_
  obtain ⟨F63, eF63⟩ : ∃ q, q = uF F6 (ou) (0 : Int) ((y61 : Int64).toInt) := ⟨_, rfl⟩
  rw [← eF63]
  have hC64 : HC 0 m5 tg5 ln5 F63 := by rw [eF63]; exact HC_pl hC9 ho58.2 (by omega)
  have hM65 : Fq 0 [(3, 5), (3, 6), (3, 7), (3, 8), (3, 9), (3, 10), (3, 11), (3, 12), (3, 13), (3, 14), (3, 16), (3, 17), (3, 18), (3, 19), (3, 20), (5, 2), (5, 3), (5, 4), (5, 5), (5, 6), (5, 7), (6, 4), (6, 6), (21, -5), (22, -5)] m tg F F63 := by rw [eF63]; exact Fq_p hM56 ho58.2 (fun w => (hX60.2 _ w).1) (inL_a rfl (by omega) rfl)
  have c66 : NP m5 tg5 F63 := by rw [eF63]; exact NP_u hC9 c14 ho58.2 (by omega)
  have c67 : SB m5 tg5 F63 ((kk) + 5000) := by rw [eF63]; exact SB_u c15 ho58.2 (by omega)
  refine jx_go (tg := 25) rfl rfl ?_
  refine jx_ar (pc_q := 26) (st_q := [.int (i32 (0))]) rfl rfl rfl rfl ?_
  refine jx_rt (v := some (.int (i32 (0)))) rfl rfl rfl rfl rfl rfl ?_
  exact ⟨m5, tg5, ln5, F63, (0), rfl, rfl, hX60, hC64, hM65, by omega, by omega, by omega, c66, SB_m c67 (by omega), c16, trivial⟩
set_option maxRecDepth 20000 in
set_option maxHeartbeats 4000000 in
theorem k_LLaw_beat {X : jX} {dd : Nat} {R : Nat → jC} {m : Nat} {tg ln : Int → Int} {F : Int → Int → Int} {kk : Int} {x p0 ou : Int} (hd : 8 ≤ dd) (hC : HC 0 m tg ln F) (o_x : own m x) (t_x : tg x = 1) (h_p0 : (-2147483648 : Int) ≤ p0 ∧ p0 ≤ 2147483647) (o_ou : own m ou) (t_ou : tg ou = 22) (s_ou : F ou (-1) = 0) (p_0 : ln ou = 1) (p_1 : 0 ≤ kk) (p_2 : kk ≤ 2000000000) (c_NP : NP m tg F) (c_SB : SB m tg F (kk)) (c_T3 : T3 m tg) : wk X dd 10 [rv x, .int (i32 p0), rv ou] (cV R m tg ln F) (fun o V_q => ∃ (m_q : Nat) (tg_q ln_q : Int → Int) (F_q : Int → Int → Int) (r : Int), V_q = cV R m_q tg_q ln_q F_q ∧ o = .inl (some (.int (i32 r))) ∧ Ex m tg ln m_q tg_q ln_q ∧ HC 0 m_q tg_q ln_q F_q ∧ Fq 0 [(3, 5), (3, 6), (3, 7), (3, 8), (3, 9), (3, 10), (3, 11), (3, 12), (3, 16), (3, 17), (3, 19), (3, 20), (5, 2), (5, 3), (5, 4), (5, 5), (5, 6), (5, 7), (6, 7), (6, 8), (21, -5), (22, -5)] m tg F F_q ∧ (-2147483648 ≤ r ∧ r ≤ 2147483647) ∧ (szD m_q tg_q ln_q ≤ szD m tg ln + 25) ∧ ((m_q : Int) ≤ (m : Int) + 1) ∧ (NP m_q tg_q F_q) ∧ (SB m_q tg_q F_q (kk)) ∧ (T3 m_q tg_q) ∧ True) := by
  obtain ⟨d, rfl⟩ : ∃ d, dd = d + 1 := ⟨dd - 1, by omega⟩
  refine wk_of (e := jm10) rfl (by rw [jS_r, jS_i, jS_r, jS_0]; exact Nat.le_of_ble_eq_true rfl) ?_
  rw [la_r, la_i, la_r, la_0]
  show wj X d jm10 (0, [(0, rv (x)), (1, .int (i32 (p0))), (2, rv (ou))], [], cV R m tg ln F) _
  have hM0 : Fq 0 [(3, 5), (3, 6), (3, 7), (3, 8), (3, 9), (3, 10), (3, 11), (3, 12), (3, 16), (3, 17), (3, 19), (3, 20), (5, 2), (5, 3), (5, 4), (5, 5), (5, 6), (5, 7), (6, 7), (6, 8), (21, -5), (22, -5)] m tg F F := Fq_r
  have hX0 : Ex m tg ln m tg ln := Ex_r
  obtain ⟨L0, eL0⟩ : ∃ q : jL, q = [(0, rv (x)), (1, .int (i32 (p0))), (2, rv (ou))] := ⟨_, rfl⟩
  rw [← eL0]
  have g1 : jGet L0 0 = some (rv (x)) := eL0 ▸ (rfl : jGet [(0, rv (x)), (1, .int (i32 (p0))), (2, rv (ou))] 0 = some (rv (x)))
  have g2 : jGet L0 1 = some (.int (i32 (p0))) := eL0 ▸ (rfl : jGet [(0, rv (x)), (1, .int (i32 (p0))), (2, rv (ou))] 1 = some (.int (i32 (p0))))
  have g3 : jGet L0 2 = some (rv (ou)) := eL0 ▸ (rfl : jGet [(0, rv (x)), (1, .int (i32 (p0))), (2, rv (ou))] 2 = some (rv (ou)))
  clear eL0
  refine jx_ld (pc_q := 1) (l_q := L0) (st_q := [rv (ou)]) rfl (jl_rvn g3) ?_
  refine jx_ar (pc_q := 2) (st_q := [.int (i32 (0)), rv (ou)]) rfl rfl rfl rfl ?_
  refine jx_ld (pc_q := 3) (l_q := L0) (st_q := [rv (x), .int (i32 (0)), rv (ou)]) rfl (jl_rvn g1) ?_
  refine jx_ld (pc_q := 4) (l_q := L0) (st_q := [.int (i32 (p0)), rv (x), .int (i32 (0)), rv (ou)]) rfl (jl_iloadn g2) ?_
  refine cx_vi (c := 0) (a := x) (st := [.int (i32 (0)), rv (ou)]) (as := [.int (i32 (p0))]) rfl rfl rfl o_x t_x (by decide) rfl ⟨rfl, rfl, (by rw [jS_i, jS_r, jS_0]; exact Nat.le_of_ble_eq_true rfl)⟩ rfl (k_LY_beat (dd := d) (R := R) (m := m) (tg := tg) (ln := ln) (F := F) (me := x) (n := p0) (hd := by omega) (hC := hC) (o_me := o_x) (t_me := t_x) (h_n := by omega) (p_0 := by omega) (p_1 := by omega) (c_NP := c_NP) (kk := kk) (c_SB := c_SB) (c_T3 := c_T3)) (fun o V_q hq => ?_)
  obtain ⟨m4, tg4, ln4, F5, r6, rfl, rfl, hx7, hC8, hM9, b10, p11, p12, c13, c14, c15, -⟩ | ⟨m16, tg16, ln16, F16, x16, rfl, rfl, hx16, hC16, hM16, ho16, ht16, p17, p18, c19, c20, c21, -⟩ := hq
  rotate_left
  · rcases ht16 with ht16 | ht16
    ·
      refine Or.inr (Or.inr (Or.inl ⟨_, _, 12, rfl, cx_exc (c := 15) ho16 ht16 (by decide), rfl, ?_⟩))
      rw [← rv_x ho16]
      have hM22 := Fq_t (ln := ln) (ln1 := ln) hM0 hX0 hM16 (by decide) (Or.inl rfl)
      have ho23 : own m16 (x) ∧ tg16 (x) = 1 := Ex_o hx16 ⟨o_x, t_x⟩
      have ho24 : own m16 (ou) ∧ tg16 (ou) = 22 := Ex_o hx16 ⟨o_ou, t_ou⟩
      have ln25 : ln16 (ou) = 1 := (hx16.2 _ o_ou).2.trans p_0
      have hX26 := Ex_t hX0 hx16
      refine jx_ld (pc_q := 13) (l_q := jSto1 L0 3 (rv (((x16 : Nat) : Int)))) (st_q := []) rfl (js_rvn (by decide)) ?_
      obtain ⟨L27, eL27⟩ : ∃ q : jL, q = jSto1 L0 3 (rv (((x16 : Nat) : Int))) := ⟨_, rfl⟩
      rw [← eL27]
      have g28 : jGet L27 0 = some (rv (x)) := eL27 ▸ jg_nr (by decide) g1
      have g29 : jGet L27 1 = some (.int (i32 (p0))) := eL27 ▸ jg_ne (by decide) g2 rfl
      have g30 : jGet L27 2 = some (rv (ou)) := eL27 ▸ jg_nr (by decide) g3
      have g31 : jGet L27 3 = some (rv (((x16 : Nat) : Int))) := eL27 ▸ jg_eq
      clear eL27
      refine jx_ar (pc_q := 14) (st_q := [.int (i32 (1))]) rfl rfl rfl rfl ?_
      refine jx_rt (v := some (.int (i32 (1)))) rfl rfl rfl rfl rfl rfl ?_
      exact ⟨m16, tg16, ln16, F16, (1), rfl, rfl, hX26, hC16, hM22, by omega, by omega, by omega, c19, SB_m c20 (by omega), c21, trivial⟩
    ·
      refine Or.inr (Or.inr (Or.inl ⟨_, _, 15, rfl, cx_exc (c := 13) ho16 ht16 (by decide), rfl, ?_⟩))
      rw [← rv_x ho16]
      have hM32 := Fq_t (ln := ln) (ln1 := ln) hM0 hX0 hM16 (by decide) (Or.inl rfl)
      have ho33 : own m16 (x) ∧ tg16 (x) = 1 := Ex_o hx16 ⟨o_x, t_x⟩
      have ho34 : own m16 (ou) ∧ tg16 (ou) = 22 := Ex_o hx16 ⟨o_ou, t_ou⟩
      have ln35 : ln16 (ou) = 1 := (hx16.2 _ o_ou).2.trans p_0
      have hX36 := Ex_t hX0 hx16
      refine jx_ld (pc_q := 16) (l_q := jSto1 L0 3 (rv (((x16 : Nat) : Int)))) (st_q := []) rfl (js_rvn (by decide)) ?_
      obtain ⟨L37, eL37⟩ : ∃ q : jL, q = jSto1 L0 3 (rv (((x16 : Nat) : Int))) := ⟨_, rfl⟩
      rw [← eL37]
      have g38 : jGet L37 0 = some (rv (x)) := eL37 ▸ jg_nr (by decide) g1
      have g39 : jGet L37 1 = some (.int (i32 (p0))) := eL37 ▸ jg_ne (by decide) g2 rfl
      have g40 : jGet L37 2 = some (rv (ou)) := eL37 ▸ jg_nr (by decide) g3
      have g41 : jGet L37 3 = some (rv (((x16 : Nat) : Int))) := eL37 ▸ jg_eq
      clear eL37
      refine jx_ar (pc_q := 17) (st_q := [.int (i32 (2))]) rfl rfl rfl rfl ?_
      refine jx_rt (v := some (.int (i32 (2)))) rfl rfl rfl rfl rfl rfl ?_
      exact ⟨m16, tg16, ln16, F16, (2), rfl, rfl, hX36, hC16, hM32, by omega, by omega, by omega, c19, SB_m c20 (by omega), c21, trivial⟩
  have hM42 : Fq 0 [(3, 5), (3, 6), (3, 7), (3, 8), (3, 9), (3, 10), (3, 11), (3, 12), (3, 16), (3, 17), (3, 19), (3, 20), (5, 2), (5, 3), (5, 4), (5, 5), (5, 6), (5, 7), (6, 7), (6, 8), (21, -5), (22, -5)] m tg F F5 := Fq_t (ln := ln) (ln1 := ln) hM0 hX0 hM9 (by decide) (Or.inl rfl)
  have ho43 : own m4 (x) ∧ tg4 (x) = 1 := Ex_o hx7 ⟨o_x, t_x⟩
  have ho44 : own m4 (ou) ∧ tg4 (ou) = 22 := Ex_o hx7 ⟨o_ou, t_ou⟩
  have ln45 : ln4 (ou) = 1 := (hx7.2 _ o_ou).2.trans p_0
  have hX46 := Ex_t hX0 hx7
  refine Or.inr (Or.inl ⟨_, rfl, ?_⟩)
  refine jx_ar (pc_q := 8) (st_q := .long ((i32 (r6)).toInt64) :: [.int (i32 (0)), rv (ou)]) rfl rfl rfl rfl ?_
  obtain ⟨y47, ey47⟩ : ∃ q : Int64, q = (i32 (r6)).toInt64 := ⟨_, rfl⟩
  rw [← ey47]
  have b48 := HC_l hC8 ho44.1 ho44.2 (by decide)
  refine cx_las (pc_q := 9) (z := 0) (y := y47) rfl rfl ho44.1 ho44.2 (by omega) (by omega) (by omega) ?_
  obtain ⟨F49, eF49⟩ : ∃ q, q = uF F5 (ou) (0 : Int) ((y47 : Int64).toInt) := ⟨_, rfl⟩
  rw [← eF49]
  have hC50 : HC 0 m4 tg4 ln4 F49 := by rw [eF49]; exact HC_pl hC8 ho44.2 (by omega)
  have hM51 : Fq 0 [(3, 5), (3, 6), (3, 7), (3, 8), (3, 9), (3, 10), (3, 11), (3, 12), (3, 16), (3, 17), (3, 19), (3, 20), (5, 2), (5, 3), (5, 4), (5, 5), (5, 6), (5, 7), (6, 7), (6, 8), (21, -5), (22, -5)] m tg F F49 := by rw [eF49]; exact Fq_p hM42 ho44.2 (fun w => (hX46.2 _ w).1) (inL_a rfl (by omega) rfl)
  have c52 : NP m4 tg4 F49 := by rw [eF49]; exact NP_u hC8 c13 ho44.2 (by omega)
  have c53 : SB m4 tg4 F49 ((kk)) := by rw [eF49]; exact SB_u c14 ho44.2 (by omega)
  refine jx_go (tg := 18) rfl rfl ?_
  refine jx_ar (pc_q := 19) (st_q := [.int (i32 (0))]) rfl rfl rfl rfl ?_
  refine jx_rt (v := some (.int (i32 (0)))) rfl rfl rfl rfl rfl rfl ?_
  exact ⟨m4, tg4, ln4, F49, (0), rfl, rfl, hX46, hC50, hM51, by omega, by omega, by omega, c52, SB_m c53 (by omega), c15, trivial⟩
set_option maxRecDepth 20000 in
set_option maxHeartbeats 4000000 in
theorem k_LLaw_rounds {X : jX} {dd : Nat} {R : Nat → jC} {m : Nat} {tg ln : Int → Int} {F : Int → Int → Int} {kk : Int} {x p0 ou : Int} (hd : 9 ≤ dd) (hC : HC 0 m tg ln F) (o_x : own m x) (t_x : tg x = 1) (h_p0 : (-2147483648 : Int) ≤ p0 ∧ p0 ≤ 2147483647) (o_ou : own m ou) (t_ou : tg ou = 22) (s_ou : F ou (-1) = 0) (p_0 : ln ou = 1) (p_1 : 0 ≤ kk) (p_2 : kk ≤ 2000000000) (c_NP : NP m tg F) (c_SB : SB m tg F (kk)) (c_T3 : T3 m tg) : wk X dd 11 [rv x, .int (i32 p0), rv ou] (cV R m tg ln F) (fun o V_q => ∃ (m_q : Nat) (tg_q ln_q : Int → Int) (F_q : Int → Int → Int) (r : Int), V_q = cV R m_q tg_q ln_q F_q ∧ o = .inl (some (.int (i32 r))) ∧ Ex m tg ln m_q tg_q ln_q ∧ HC 0 m_q tg_q ln_q F_q ∧ Fq 0 [(3, 5), (3, 6), (3, 7), (3, 8), (3, 9), (3, 10), (3, 11), (3, 12), (3, 13), (3, 14), (3, 16), (3, 17), (3, 18), (3, 19), (3, 20), (5, 2), (5, 3), (5, 4), (5, 5), (5, 6), (5, 7), (6, 4), (6, 6), (6, 7), (6, 8), (21, -5), (22, -5)] m tg F F_q ∧ (-2147483648 ≤ r ∧ r ≤ 2147483647) ∧ (szD m_q tg_q ln_q ≤ szD m tg ln + 25) ∧ ((m_q : Int) ≤ (m : Int) + 1) ∧ (NP m_q tg_q F_q) ∧ (SB m_q tg_q F_q (kk + 30000)) ∧ (T3 m_q tg_q) ∧ True) := by
  obtain ⟨d, rfl⟩ : ∃ d, dd = d + 1 := ⟨dd - 1, by omega⟩
  refine wk_of (e := jm11) rfl (by rw [jS_r, jS_i, jS_r, jS_0]; exact Nat.le_of_ble_eq_true rfl) ?_
  rw [la_r, la_i, la_r, la_0]
  show wj X d jm11 (0, [(0, rv (x)), (1, .int (i32 (p0))), (2, rv (ou))], [], cV R m tg ln F) _
  have hM0 : Fq 0 [(3, 5), (3, 6), (3, 7), (3, 8), (3, 9), (3, 10), (3, 11), (3, 12), (3, 13), (3, 14), (3, 16), (3, 17), (3, 18), (3, 19), (3, 20), (5, 2), (5, 3), (5, 4), (5, 5), (5, 6), (5, 7), (6, 4), (6, 6), (6, 7), (6, 8), (21, -5), (22, -5)] m tg F F := Fq_r
  have hX0 : Ex m tg ln m tg ln := Ex_r
  obtain ⟨L0, eL0⟩ : ∃ q : jL, q = [(0, rv (x)), (1, .int (i32 (p0))), (2, rv (ou))] := ⟨_, rfl⟩
  rw [← eL0]
  have g1 : jGet L0 0 = some (rv (x)) := eL0 ▸ (rfl : jGet [(0, rv (x)), (1, .int (i32 (p0))), (2, rv (ou))] 0 = some (rv (x)))
  have g2 : jGet L0 1 = some (.int (i32 (p0))) := eL0 ▸ (rfl : jGet [(0, rv (x)), (1, .int (i32 (p0))), (2, rv (ou))] 1 = some (.int (i32 (p0))))
  have g3 : jGet L0 2 = some (rv (ou)) := eL0 ▸ (rfl : jGet [(0, rv (x)), (1, .int (i32 (p0))), (2, rv (ou))] 2 = some (rv (ou)))
  clear eL0
  refine jx_ld (pc_q := 1) (l_q := L0) (st_q := [rv (ou)]) rfl (jl_rvn g3) ?_
  refine jx_ar (pc_q := 2) (st_q := [.int (i32 (0)), rv (ou)]) rfl rfl rfl rfl ?_
  refine jx_ld (pc_q := 3) (l_q := L0) (st_q := [rv (x), .int (i32 (0)), rv (ou)]) rfl (jl_rvn g1) ?_
  refine jx_ld (pc_q := 4) (l_q := L0) (st_q := [.int (i32 (p0)), rv (x), .int (i32 (0)), rv (ou)]) rfl (jl_iloadn g2) ?_
  refine cx_vi (c := 0) (a := x) (st := [.int (i32 (0)), rv (ou)]) (as := [.int (i32 (p0))]) rfl rfl rfl o_x t_x (by decide) rfl ⟨rfl, rfl, (by rw [jS_i, jS_r, jS_0]; exact Nat.le_of_ble_eq_true rfl)⟩ rfl (k_LY_rounds (dd := d) (R := R) (m := m) (tg := tg) (ln := ln) (F := F) (me := x) (n := p0) (hd := by omega) (hC := hC) (o_me := o_x) (t_me := t_x) (h_n := by omega) (p_0 := by omega) (p_1 := by omega) (c_NP := c_NP) (kk := kk) (c_SB := c_SB) (c_T3 := c_T3)) (fun o V_q hq => ?_)
  obtain ⟨m4, tg4, ln4, F5, r6, rfl, rfl, hx7, hC8, hM9, b10, p11, p12, c13, c14, c15, -⟩ | ⟨m16, tg16, ln16, F16, x16, rfl, rfl, hx16, hC16, hM16, ho16, ht16, p17, p18, c19, c20, c21, -⟩ := hq
  rotate_left
  · rcases ht16 with ht16 | ht16
    ·
      refine Or.inr (Or.inr (Or.inl ⟨_, _, 12, rfl, cx_exc (c := 15) ho16 ht16 (by decide), rfl, ?_⟩))
      rw [← rv_x ho16]
      have hM22 := Fq_t (ln := ln) (ln1 := ln) hM0 hX0 hM16 (by decide) (Or.inl rfl)
      have ho23 : own m16 (x) ∧ tg16 (x) = 1 := Ex_o hx16 ⟨o_x, t_x⟩
      have ho24 : own m16 (ou) ∧ tg16 (ou) = 22 := Ex_o hx16 ⟨o_ou, t_ou⟩
      have ln25 : ln16 (ou) = 1 := (hx16.2 _ o_ou).2.trans p_0
      have hX26 := Ex_t hX0 hx16
      refine jx_ld (pc_q := 13) (l_q := jSto1 L0 3 (rv (((x16 : Nat) : Int)))) (st_q := []) rfl (js_rvn (by decide)) ?_
      obtain ⟨L27, eL27⟩ : ∃ q : jL, q = jSto1 L0 3 (rv (((x16 : Nat) : Int))) := ⟨_, rfl⟩
      rw [← eL27]
      have g28 : jGet L27 0 = some (rv (x)) := eL27 ▸ jg_nr (by decide) g1
      have g29 : jGet L27 1 = some (.int (i32 (p0))) := eL27 ▸ jg_ne (by decide) g2 rfl
      have g30 : jGet L27 2 = some (rv (ou)) := eL27 ▸ jg_nr (by decide) g3
      have g31 : jGet L27 3 = some (rv (((x16 : Nat) : Int))) := eL27 ▸ jg_eq
      clear eL27
      refine jx_ar (pc_q := 14) (st_q := [.int (i32 (1))]) rfl rfl rfl rfl ?_
      refine jx_rt (v := some (.int (i32 (1)))) rfl rfl rfl rfl rfl rfl ?_
      exact ⟨m16, tg16, ln16, F16, (1), rfl, rfl, hX26, hC16, hM22, by omega, by omega, by omega, c19, SB_m c20 (by omega), c21, trivial⟩
    ·
      refine Or.inr (Or.inr (Or.inl ⟨_, _, 15, rfl, cx_exc (c := 13) ho16 ht16 (by decide), rfl, ?_⟩))
      rw [← rv_x ho16]
      have hM32 := Fq_t (ln := ln) (ln1 := ln) hM0 hX0 hM16 (by decide) (Or.inl rfl)
      have ho33 : own m16 (x) ∧ tg16 (x) = 1 := Ex_o hx16 ⟨o_x, t_x⟩
      have ho34 : own m16 (ou) ∧ tg16 (ou) = 22 := Ex_o hx16 ⟨o_ou, t_ou⟩
      have ln35 : ln16 (ou) = 1 := (hx16.2 _ o_ou).2.trans p_0
      have hX36 := Ex_t hX0 hx16
      refine jx_ld (pc_q := 16) (l_q := jSto1 L0 3 (rv (((x16 : Nat) : Int)))) (st_q := []) rfl (js_rvn (by decide)) ?_
      obtain ⟨L37, eL37⟩ : ∃ q : jL, q = jSto1 L0 3 (rv (((x16 : Nat) : Int))) := ⟨_, rfl⟩
      rw [← eL37]
      have g38 : jGet L37 0 = some (rv (x)) := eL37 ▸ jg_nr (by decide) g1
      have g39 : jGet L37 1 = some (.int (i32 (p0))) := eL37 ▸ jg_ne (by decide) g2 rfl
      have g40 : jGet L37 2 = some (rv (ou)) := eL37 ▸ jg_nr (by decide) g3
      have g41 : jGet L37 3 = some (rv (((x16 : Nat) : Int))) := eL37 ▸ jg_eq
      clear eL37
      refine jx_ar (pc_q := 17) (st_q := [.int (i32 (2))]) rfl rfl rfl rfl ?_
      refine jx_rt (v := some (.int (i32 (2)))) rfl rfl rfl rfl rfl rfl ?_
      exact ⟨m16, tg16, ln16, F16, (2), rfl, rfl, hX36, hC16, hM32, by omega, by omega, by omega, c19, SB_m c20 (by omega), c21, trivial⟩
  have hM42 : Fq 0 [(3, 5), (3, 6), (3, 7), (3, 8), (3, 9), (3, 10), (3, 11), (3, 12), (3, 13), (3, 14), (3, 16), (3, 17), (3, 18), (3, 19), (3, 20), (5, 2), (5, 3), (5, 4), (5, 5), (5, 6), (5, 7), (6, 4), (6, 6), (6, 7), (6, 8), (21, -5), (22, -5)] m tg F F5 := Fq_t (ln := ln) (ln1 := ln) hM0 hX0 hM9 (by decide) (Or.inl rfl)
  have ho43 : own m4 (x) ∧ tg4 (x) = 1 := Ex_o hx7 ⟨o_x, t_x⟩
  have ho44 : own m4 (ou) ∧ tg4 (ou) = 22 := Ex_o hx7 ⟨o_ou, t_ou⟩
  have ln45 : ln4 (ou) = 1 := (hx7.2 _ o_ou).2.trans p_0
  have hX46 := Ex_t hX0 hx7
  refine Or.inr (Or.inl ⟨_, rfl, ?_⟩)
  refine jx_ar (pc_q := 8) (st_q := .long ((i32 (r6)).toInt64) :: [.int (i32 (0)), rv (ou)]) rfl rfl rfl rfl ?_
  obtain ⟨y47, ey47⟩ : ∃ q : Int64, q = (i32 (r6)).toInt64 := ⟨_, rfl⟩
  rw [← ey47]
  have b48 := HC_l hC8 ho44.1 ho44.2 (by decide)
  refine cx_las (pc_q := 9) (z := 0) (y := y47) rfl rfl ho44.1 ho44.2 (by omega) (by omega) (by omega) ?_
  obtain ⟨F49, eF49⟩ : ∃ q, q = uF F5 (ou) (0 : Int) ((y47 : Int64).toInt) := ⟨_, rfl⟩
  rw [← eF49]
  have hC50 : HC 0 m4 tg4 ln4 F49 := by rw [eF49]; exact HC_pl hC8 ho44.2 (by omega)
  have hM51 : Fq 0 [(3, 5), (3, 6), (3, 7), (3, 8), (3, 9), (3, 10), (3, 11), (3, 12), (3, 13), (3, 14), (3, 16), (3, 17), (3, 18), (3, 19), (3, 20), (5, 2), (5, 3), (5, 4), (5, 5), (5, 6), (5, 7), (6, 4), (6, 6), (6, 7), (6, 8), (21, -5), (22, -5)] m tg F F49 := by rw [eF49]; exact Fq_p hM42 ho44.2 (fun w => (hX46.2 _ w).1) (inL_a rfl (by omega) rfl)
  have c52 : NP m4 tg4 F49 := by rw [eF49]; exact NP_u hC8 c13 ho44.2 (by omega)
  have c53 : SB m4 tg4 F49 ((kk) + 30000) := by rw [eF49]; exact SB_u c14 ho44.2 (by omega)
  refine jx_go (tg := 18) rfl rfl ?_
  refine jx_ar (pc_q := 19) (st_q := [.int (i32 (0))]) rfl rfl rfl rfl ?_
  refine jx_rt (v := some (.int (i32 (0)))) rfl rfl rfl rfl rfl rfl ?_
  exact ⟨m4, tg4, ln4, F49, (0), rfl, rfl, hX46, hC50, hM51, by omega, by omega, by omega, c52, SB_m c53 (by omega), c15, trivial⟩
