set_option maxRecDepth 20000 in
set_option maxHeartbeats 4000000 in
theorem k_LUses_init {X : jX} {dd : Nat} {R : Nat → jC} {m : Nat} {tg ln : Int → Int} {F : Int → Int → Int} {pk : Int} {me pr : Int} (hd : 2 ≤ dd) (hC : HC me m tg ln F) (o_me : own m me) (t_me : tg me = 12) (o_pr : own m pr) (t_pr : tg pr = 10) (z_me : ∀ i, F me i = 0) (p_0 : F pr (9 : Int) ≤ pk) (p_1 : 0 ≤ pk) (p_2 : pk ≤ 1000000) : wk X dd 225 [rv me, rv pr] (cV R m tg ln F) (fun o V_q => ∃ (m_q : Nat) (tg_q ln_q : Int → Int) (F_q : Int → Int → Int), V_q = cV R m_q tg_q ln_q F_q ∧ o = .inl none ∧ Ex m tg ln m_q tg_q ln_q ∧ HC 0 m_q tg_q ln_q F_q ∧ Fq me [] m tg F F_q ∧ (szD m_q tg_q ln_q ≤ szD m tg ln + 1 + pk) ∧ ((m_q : Int) = (m : Int) + 1) ∧ (F_q me (2 : Int) = 0) ∧ (NW m m_q tg_q F_q) ∧ True) := by
  obtain ⟨d, rfl⟩ : ∃ d, dd = d + 1 := ⟨dd - 1, by omega⟩
  refine wk_of (e := jm225) rfl (by rw [jS_r, jS_r, jS_0]; exact Nat.le_of_ble_eq_true rfl) ?_
  rw [la_r, la_r, la_0]
  show wj X d jm225 (0, [(0, rv (me)), (1, rv (pr))], [], cV R m tg ln F) _
  have hM0 : Fq me [] m tg F F := Fq_r
  have hX0 : Ex m tg ln m tg ln := Ex_r
  obtain ⟨L0, eL0⟩ : ∃ q : jL, q = [(0, rv (me)), (1, rv (pr))] := ⟨_, rfl⟩
  rw [← eL0]
  have g1 : jGet L0 0 = some (rv (me)) := eL0 ▸ (rfl : jGet [(0, rv (me)), (1, rv (pr))] 0 = some (rv (me)))
  have g2 : jGet L0 1 = some (rv (pr)) := eL0 ▸ (rfl : jGet [(0, rv (me)), (1, rv (pr))] 1 = some (rv (pr)))
  clear eL0
  refine jx_ld (pc_q := 1) (l_q := L0) (st_q := [rv (me)]) rfl (jl_rvn g1) ?_
  refine cx_ob (pc_q := 4) rfl rfl o_me.1 (Nat.le_of_ble_eq_true rfl) rfl ?_
  refine jx_ld (pc_q := 5) (l_q := L0) (st_q := [rv (me)]) rfl (jl_rvn g1) ?_
  refine jx_ar (pc_q := 6) (st_q := [.int (i32 (-1)), rv (me)]) rfl rfl rfl rfl ?_
  refine cx_pi (pc_q := 9) (c := 11) (q := 4) (qi := (4 : Int)) (z := -1) rfl rfl (by decide) (by decide) rfl rfl rfl (by decide) rfl o_me t_me rfl ?_
  obtain ⟨F3, eF3⟩ : ∃ q, q = uF F (me) (4 : Int) (-1) := ⟨_, rfl⟩
  rw [← eF3]
  have hC4 : HC me m tg ln F3 := by rw [eF3]; exact HC_fi (c := 11) (q := 4) hC t_me (by decide) rfl (by omega) (by omega) ⟨fun w => absurd w (by decide), fun w => absurd w (by decide)⟩
  have hM5 : Fq me [] m tg F F3 := by rw [eF3]; exact Fq_x hM0 (Or.inl rfl)
  have c6 : NW m m tg F3 := by rw [eF3]; exact NW_u NW_0 t_me (by decide)
  refine jx_ld (pc_q := 10) (l_q := L0) (st_q := [rv (me)]) rfl (jl_rvn g1) ?_
  refine jx_ld (pc_q := 11) (l_q := L0) (st_q := [rv (pr), rv (me)]) rfl (jl_rvn g2) ?_
  refine cx_po (pc_q := 14) (c := 11) (q := 0) (qi := (0 : Int)) (z := pr) rfl rfl (by decide) (by decide) rfl rfl rfl (by decide) rfl o_me t_me rfl ?_
  obtain ⟨F7, eF7⟩ : ∃ q, q = uF F3 (me) (0 : Int) (pr) := ⟨_, rfl⟩
  rw [← eF7]
  have hC8 : HC me m tg ln F7 := by rw [eF7]; exact HC_fn (c := 11) (q := 0) hC4 t_me (by decide) rfl ⟨o_pr, t_pr⟩ (fun _ => by omega) (fun _ => by omega) ⟨fun w => absurd w (by decide), fun w => absurd w (by decide)⟩
  have hM9 : Fq me [] m tg F F7 := by rw [eF7]; exact Fq_x hM5 (Or.inl rfl)
  have c10 : NW m m tg F7 := by rw [eF7]; exact NW_u c6 t_me (by decide)
  refine jx_ld (pc_q := 15) (l_q := L0) (st_q := [rv (me)]) rfl (jl_rvn g1) ?_
  refine jx_ld (pc_q := 16) (l_q := L0) (st_q := [rv (pr), rv (me)]) rfl (jl_rvn g2) ?_
  refine cx_gi (pc_q := 19) (c := 9) (q := 9) (v := F (pr) (9 : Int)) rfl rfl (by decide) (by decide) (Or.inl rfl) rfl o_pr t_pr ((show F7 (pr) (9 : Int) = F3 (pr) (9 : Int) from by rw [eF7]; exact uF_j (by decide)).trans (show F3 (pr) (9 : Int) = F (pr) (9 : Int) from by rw [eF3]; exact uF_j (by decide))) ?_
  have b11 : (-2147483648 : Int) ≤ F (pr) (9 : Int) ∧ F (pr) (9 : Int) ≤ 2147483647 := by have z := HC_i (c := 9) (q := 9) hC8 o_pr t_pr (by decide) rfl; rw [show F7 (pr) ((9 : Nat) : Int) = F (pr) (9 : Int) from ((show F7 (pr) (9 : Int) = F3 (pr) (9 : Int) from by rw [eF7]; exact uF_j (by decide)).trans (show F3 (pr) (9 : Int) = F (pr) (9 : Int) from by rw [eF3]; exact uF_j (by decide)))] at z; exact z
  refine jx_ar (pc_q := 20) (st_q := [.int (i32 (0)), .int (i32 (F (pr) (9 : Int))), rv (me)]) rfl rfl rfl rfl ?_
  refine cx_st (st := [rv (me)]) (as := [.int (i32 (F (pr) (9 : Int))), .int (i32 (0))]) rfl rfl rfl ⟨rfl, (by rw [jS_r, jS_0]; exact Nat.le_of_ble_eq_true rfl)⟩ rfl (k_java_lang_Math_max (dd := d) (R := R) (u := me) (m := m) (tg := tg) (ln := ln) (F := F7) (a := F (pr) (9 : Int)) (b := 0) (hd := by omega) (hC := hC8) (h_a := by omega) (h_b := by omega)) (fun o V_q hq => ?_)
  obtain ⟨r12, rfl, rfl, b13, p14, p15, p16, -⟩ := hq
  refine Or.inr (Or.inl ⟨_, rfl, ?_⟩)
  have em : 0 ≤ r12 ∧ r12 ≤ pk := (by omega)
  clear p14 p15 p16
  refine cx_naa (pc_q := 26) (c := 7) (kd := 4) (z := r12) rfl rfl rfl (by decide) rfl hC8.1 (by omega) (by omega) ?_
  refine HC_row (g := 5) (z := r12) (t := 24) hC8 (by decide) (by decide) (by omega) (by omega) (fun n17 m17 tg17 ln17 F17 en17 em17 ho17 hl17 hx17 hC17 hf17 h017 hg17 hs17 => ?_)
  have ex17 : 64 + (m : Int) ≤ n17 := by have := hX0.1; omega
  have ho18 : own m17 (me) ∧ tg17 (me) = 12 := Ex_o hx17 ⟨o_me, t_me⟩
  have ho19 : own m17 (pr) ∧ tg17 (pr) = 10 := Ex_o hx17 ⟨o_pr, t_pr⟩
  have hX20 := Ex_t hX0 hx17
  have hM21 : Fq me [] m tg F F17 := Fq_n hM9 hf17 ex17
  have c22 : NW m m17 tg17 F17 := NW_n c10 hC8.1 hx17 en17 em17 hf17 ho17.2 (by decide) h017
  refine cx_pa (pc_q := 29) (c := 11) (q := 1) (qi := (1 : Int)) (z := n17) rfl rfl (by decide) (by decide) rfl rfl rfl (by decide) rfl ho18.1 ho18.2 rfl ?_
  obtain ⟨F23, eF23⟩ : ∃ q, q = uF F17 (me) (1 : Int) (n17) := ⟨_, rfl⟩
  rw [← eF23]
  have hC24 : HC me m17 tg17 ln17 F23 := by rw [eF23]; exact HC_fn (c := 11) (q := 1) hC17 ho18.2 (by decide) rfl ⟨ho17.1, ho17.2⟩ (fun _ => by omega) (fun _ => hg17) ⟨fun w => absurd w (by decide), fun w => absurd w (by decide)⟩
  have hM25 : Fq me [] m tg F F23 := by rw [eF23]; exact Fq_x hM21 (Or.inl rfl)
  have c26 : NW m m17 tg17 F23 := by rw [eF23]; exact NW_u c22 ho18.2 (by decide)
  refine jx_rt (v := none) rfl rfl rfl rfl rfl rfl ?_
  have hC27 : HC 0 m17 tg17 ln17 F23 := by
    refine HC_fin hC24 (fun c_q q e hq h3 => ?_) ⟨fun w => ?_, fun w => ?_⟩
    · have ec : c_q = 11 := by rw [ho18.2] at e; omega
      subst ec
      have hq2 : q < 5 := hq
      have hq3 : q = 0 ∨ q = 1 ∨ q = 2 ∨ q = 3 ∨ q = 4 := (by decide : ∀ k : Fin 5, k.1 = 0 ∨ k.1 = 1 ∨ k.1 = 2 ∨ k.1 = 3 ∨ k.1 = 4) ⟨q, hq2⟩
      rcases hq3 with rfl | rfl | rfl | rfl | rfl
      · rw [show F23 (me) ((0 : Nat) : Int) = pr from ((show F23 (me) (0 : Int) = F17 (me) (0 : Int) from by rw [eF23]; exact uF_j (by decide)).trans ((show F17 (me) (0 : Int) = F7 (me) (0 : Int) from hf17 _ _ (ne_n o_me en17)).trans (show F7 (me) (0 : Int) = pr from by rw [eF7]; exact uF_e)))]; exact own_z ho19.1
      · rw [show F23 (me) ((1 : Nat) : Int) = n17 from (show F23 (me) (1 : Int) = n17 from by rw [eF23]; exact uF_e)]; exact own_z ho17.1
      · exact absurd h3 (by decide)
      · exact absurd h3 (by decide)
      · exact absurd h3 (by decide)
    · exact absurd (ho18.2.symm.trans w) (by decide)
    · exact absurd (ho18.2.symm.trans w) (by decide)
  have q28 : F23 (me) (2 : Int) = 0 := (show F23 (me) (2 : Int) = 0 from by rw [(show F23 (me) (2 : Int) = F17 (me) (2 : Int) from by rw [eF23]; exact uF_j (by decide)), (show F17 (me) (2 : Int) = F7 (me) (2 : Int) from hf17 _ _ (ne_n o_me en17)), (show F7 (me) (2 : Int) = F3 (me) (2 : Int) from by rw [eF7]; exact uF_j (by decide)), (show F3 (me) (2 : Int) = F (me) (2 : Int) from by rw [eF3]; exact uF_j (by decide)), (show F (me) (2 : Int) = 0 from z_me _)])
  exact ⟨m17, tg17, ln17, F23, rfl, rfl, hX20, hC27, hM25, by omega, by omega, by omega, c26, trivial⟩
set_option maxRecDepth 20000 in
set_option maxHeartbeats 4000000 in
theorem k_LCoder_init {X : jX} {dd : Nat} {R : Nat → jC} {m : Nat} {tg ln : Int → Int} {F : Int → Int → Int} {me : Int} (hd : 1 ≤ dd) (hC : HC me m tg ln F) (o_me : own m me) (t_me : tg me = 2) (z_me : ∀ i, F me i = 0) : wk X dd 42 [rv me] (cV R m tg ln F) (fun o V_q => ∃ (m_q : Nat) (tg_q ln_q : Int → Int) (F_q : Int → Int → Int), V_q = cV R m_q tg_q ln_q F_q ∧ o = .inl none ∧ Ex m tg ln m_q tg_q ln_q ∧ HC 0 m_q tg_q ln_q F_q ∧ Fq me [] m tg F F_q ∧ (szD m_q tg_q ln_q = szD m tg ln + 42008) ∧ ((m_q : Int) = (m : Int) + 7) ∧ (NW m m_q tg_q F_q) ∧ True) := by
  obtain ⟨d, rfl⟩ : ∃ d, dd = d + 1 := ⟨dd - 1, by omega⟩
  refine wk_of (e := jm42) rfl (by rw [jS_r, jS_0]; exact Nat.le_of_ble_eq_true rfl) ?_
  rw [la_r, la_0]
  show wj X d jm42 (0, [(0, rv (me))], [], cV R m tg ln F) _
  have hM0 : Fq me [] m tg F F := Fq_r
  have hX0 : Ex m tg ln m tg ln := Ex_r
  obtain ⟨L0, eL0⟩ : ∃ q : jL, q = [(0, rv (me))] := ⟨_, rfl⟩
  rw [← eL0]
  have g1 : jGet L0 0 = some (rv (me)) := eL0 ▸ (rfl : jGet [(0, rv (me))] 0 = some (rv (me)))
  clear eL0
  refine jx_ld (pc_q := 1) (l_q := L0) (st_q := [rv (me)]) rfl (jl_rvn g1) ?_
  refine cx_ob (pc_q := 4) rfl rfl o_me.1 (Nat.le_of_ble_eq_true rfl) rfl ?_
  refine jx_ld (pc_q := 5) (l_q := L0) (st_q := [rv (me)]) rfl (jl_rvn g1) ?_
  refine jx_ar (pc_q := 8) (st_q := [.int (i32 (6000)), rv (me)]) rfl rfl rfl rfl ?_
  refine cx_nai (pc_q := 10) (kd := 0) (z := 6000) rfl (by decide) rfl hC.1 (by omega) (by omega) ?_
  refine HC_row (g := 0) (z := 6000) (t := 20) hC (by decide) (by decide) (by omega) (by omega) (fun n2 m2 tg2 ln2 F2 en2 em2 ho2 hl2 hx2 hC2 hf2 h02 hg2 hs2 => ?_)
  have ex2 : 64 + (m : Int) ≤ n2 := by have := hX0.1; omega
  have ho3 : own m2 (me) ∧ tg2 (me) = 2 := Ex_o hx2 ⟨o_me, t_me⟩
  have hX4 := Ex_t hX0 hx2
  have hM5 : Fq me [] m tg F F2 := Fq_n hM0 hf2 ex2
  have c6 : NW m m2 tg2 F2 := NW_n NW_0 hC.1 hx2 en2 em2 hf2 ho2.2 (by decide) h02
  refine cx_pa (pc_q := 13) (c := 1) (q := 0) (qi := (0 : Int)) (z := n2) rfl rfl (by decide) (by decide) rfl rfl rfl (by decide) rfl ho3.1 ho3.2 rfl ?_
  obtain ⟨F7, eF7⟩ : ∃ q, q = uF F2 (me) (0 : Int) (n2) := ⟨_, rfl⟩
  rw [← eF7]
  have hC8 : HC me m2 tg2 ln2 F7 := by rw [eF7]; exact HC_fn (c := 1) (q := 0) hC2 ho3.2 (by decide) rfl ⟨ho2.1, ho2.2⟩ (fun _ => by omega) (fun _ => hg2) ⟨fun w => absurd w (by decide), fun w => absurd w (by decide)⟩
  have hM9 : Fq me [] m tg F F7 := by rw [eF7]; exact Fq_x hM5 (Or.inl rfl)
  have c10 : NW m m2 tg2 F7 := by rw [eF7]; exact NW_u c6 ho3.2 (by decide)
  refine jx_ld (pc_q := 14) (l_q := L0) (st_q := [rv (me)]) rfl (jl_rvn g1) ?_
  refine jx_ar (pc_q := 17) (st_q := [.int (i32 (6000)), rv (me)]) rfl rfl rfl rfl ?_
  refine cx_nai (pc_q := 19) (kd := 1) (z := 6000) rfl (by decide) rfl hC8.1 (by omega) (by omega) ?_
  refine HC_row (g := 0) (z := 6000) (t := 21) hC8 (by decide) (by decide) (by omega) (by omega) (fun n11 m11 tg11 ln11 F11 en11 em11 ho11 hl11 hx11 hC11 hf11 h011 hg11 hs11 => ?_)
  have ex11 : 64 + (m : Int) ≤ n11 := by have := hX4.1; omega
  have ho12 : own m11 (me) ∧ tg11 (me) = 2 := Ex_o hx11 ⟨ho3.1, ho3.2⟩
  have ho13 : own m11 (n2) ∧ tg11 (n2) = 20 := Ex_o hx11 ⟨ho2.1, ho2.2⟩
  have ln14 : ln11 (n2) = 6000 := (hx11.2 _ ho2.1).2.trans hl2
  clear hl2
  have hX15 := Ex_t hX4 hx11
  have hM16 : Fq me [] m tg F F11 := Fq_n hM9 hf11 ex11
  have c17 : NW m m11 tg11 F11 := NW_n c10 hC8.1 hx11 en11 em11 hf11 ho11.2 (by decide) h011
  refine cx_pa (pc_q := 22) (c := 1) (q := 1) (qi := (1 : Int)) (z := n11) rfl rfl (by decide) (by decide) rfl rfl rfl (by decide) rfl ho12.1 ho12.2 rfl ?_
  obtain ⟨F18, eF18⟩ : ∃ q, q = uF F11 (me) (1 : Int) (n11) := ⟨_, rfl⟩
  rw [← eF18]
  have hC19 : HC me m11 tg11 ln11 F18 := by rw [eF18]; exact HC_fn (c := 1) (q := 1) hC11 ho12.2 (by decide) rfl ⟨ho11.1, ho11.2⟩ (fun _ => by omega) (fun _ => hg11) ⟨fun w => absurd w (by decide), fun w => absurd w (by decide)⟩
  have hM20 : Fq me [] m tg F F18 := by rw [eF18]; exact Fq_x hM16 (Or.inl rfl)
  have c21 : NW m m11 tg11 F18 := by rw [eF18]; exact NW_u c17 ho12.2 (by decide)
  refine jx_ld (pc_q := 23) (l_q := L0) (st_q := [rv (me)]) rfl (jl_rvn g1) ?_
  refine jx_ar (pc_q := 26) (st_q := [.int (i32 (6000)), rv (me)]) rfl rfl rfl rfl ?_
  refine cx_nai (pc_q := 28) (kd := 1) (z := 6000) rfl (by decide) rfl hC19.1 (by omega) (by omega) ?_
  refine HC_row (g := 0) (z := 6000) (t := 21) hC19 (by decide) (by decide) (by omega) (by omega) (fun n22 m22 tg22 ln22 F22 en22 em22 ho22 hl22 hx22 hC22 hf22 h022 hg22 hs22 => ?_)
  have ex22 : 64 + (m : Int) ≤ n22 := by have := hX15.1; omega
  have ho23 : own m22 (me) ∧ tg22 (me) = 2 := Ex_o hx22 ⟨ho12.1, ho12.2⟩
  have ho24 : own m22 (n2) ∧ tg22 (n2) = 20 := Ex_o hx22 ⟨ho13.1, ho13.2⟩
  have ho25 : own m22 (n11) ∧ tg22 (n11) = 21 := Ex_o hx22 ⟨ho11.1, ho11.2⟩
  have ln26 : ln22 (n2) = 6000 := (hx22.2 _ ho13.1).2.trans ln14
  clear ln14
  have ln27 : ln22 (n11) = 6000 := (hx22.2 _ ho11.1).2.trans hl11
  clear hl11
  have hX28 := Ex_t hX15 hx22
  have hM29 : Fq me [] m tg F F22 := Fq_n hM20 hf22 ex22
  have c30 : NW m m22 tg22 F22 := NW_n c21 hC19.1 hx22 en22 em22 hf22 ho22.2 (by decide) h022
  refine cx_pa (pc_q := 31) (c := 1) (q := 2) (qi := (2 : Int)) (z := n22) rfl rfl (by decide) (by decide) rfl rfl rfl (by decide) rfl ho23.1 ho23.2 rfl ?_
  obtain ⟨F31, eF31⟩ : ∃ q, q = uF F22 (me) (2 : Int) (n22) := ⟨_, rfl⟩
  rw [← eF31]
  have hC32 : HC me m22 tg22 ln22 F31 := by rw [eF31]; exact HC_fn (c := 1) (q := 2) hC22 ho23.2 (by decide) rfl ⟨ho22.1, ho22.2⟩ (fun _ => by omega) (fun _ => hg22) ⟨fun w => absurd w (by decide), fun w => absurd w (by decide)⟩
  have hM33 : Fq me [] m tg F F31 := by rw [eF31]; exact Fq_x hM29 (Or.inl rfl)
  have c34 : NW m m22 tg22 F31 := by rw [eF31]; exact NW_u c30 ho23.2 (by decide)
  refine jx_ld (pc_q := 32) (l_q := L0) (st_q := [rv (me)]) rfl (jl_rvn g1) ?_
  refine jx_ar (pc_q := 35) (st_q := [.int (i32 (6000)), rv (me)]) rfl rfl rfl rfl ?_
  refine cx_nai (pc_q := 37) (kd := 1) (z := 6000) rfl (by decide) rfl hC32.1 (by omega) (by omega) ?_
  refine HC_row (g := 0) (z := 6000) (t := 21) hC32 (by decide) (by decide) (by omega) (by omega) (fun n35 m35 tg35 ln35 F35 en35 em35 ho35 hl35 hx35 hC35 hf35 h035 hg35 hs35 => ?_)
  have ex35 : 64 + (m : Int) ≤ n35 := by have := hX28.1; omega
  have ho36 : own m35 (me) ∧ tg35 (me) = 2 := Ex_o hx35 ⟨ho23.1, ho23.2⟩
  have ho37 : own m35 (n2) ∧ tg35 (n2) = 20 := Ex_o hx35 ⟨ho24.1, ho24.2⟩
  have ho38 : own m35 (n11) ∧ tg35 (n11) = 21 := Ex_o hx35 ⟨ho25.1, ho25.2⟩
  have ho39 : own m35 (n22) ∧ tg35 (n22) = 21 := Ex_o hx35 ⟨ho22.1, ho22.2⟩
  have ln40 : ln35 (n2) = 6000 := (hx35.2 _ ho24.1).2.trans ln26
  clear ln26
  have ln41 : ln35 (n11) = 6000 := (hx35.2 _ ho25.1).2.trans ln27
  clear ln27
  have ln42 : ln35 (n22) = 6000 := (hx35.2 _ ho22.1).2.trans hl22
  clear hl22
  have hX43 := Ex_t hX28 hx35
  have hM44 : Fq me [] m tg F F35 := Fq_n hM33 hf35 ex35
  have c45 : NW m m35 tg35 F35 := NW_n c34 hC32.1 hx35 en35 em35 hf35 ho35.2 (by decide) h035
  refine cx_pa (pc_q := 40) (c := 1) (q := 3) (qi := (3 : Int)) (z := n35) rfl rfl (by decide) (by decide) rfl rfl rfl (by decide) rfl ho36.1 ho36.2 rfl ?_
  obtain ⟨F46, eF46⟩ : ∃ q, q = uF F35 (me) (3 : Int) (n35) := ⟨_, rfl⟩
  rw [← eF46]
  have hC47 : HC me m35 tg35 ln35 F46 := by rw [eF46]; exact HC_fn (c := 1) (q := 3) hC35 ho36.2 (by decide) rfl ⟨ho35.1, ho35.2⟩ (fun _ => by omega) (fun _ => hg35) ⟨fun w => absurd w (by decide), fun w => absurd w (by decide)⟩
  have hM48 : Fq me [] m tg F F46 := by rw [eF46]; exact Fq_x hM44 (Or.inl rfl)
  have c49 : NW m m35 tg35 F46 := by rw [eF46]; exact NW_u c45 ho36.2 (by decide)
  refine jx_ld (pc_q := 41) (l_q := L0) (st_q := [rv (me)]) rfl (jl_rvn g1) ?_
  refine jx_ar (pc_q := 44) (st_q := [.int (i32 (6000)), rv (me)]) rfl rfl rfl rfl ?_
  refine cx_nai (pc_q := 46) (kd := 0) (z := 6000) rfl (by decide) rfl hC47.1 (by omega) (by omega) ?_
  refine HC_row (g := 3) (z := 6000) (t := 20) hC47 (by decide) (by decide) (by omega) (by omega) (fun n50 m50 tg50 ln50 F50 en50 em50 ho50 hl50 hx50 hC50 hf50 h050 hg50 hs50 => ?_)
  have ex50 : 64 + (m : Int) ≤ n50 := by have := hX43.1; omega
  have ho51 : own m50 (me) ∧ tg50 (me) = 2 := Ex_o hx50 ⟨ho36.1, ho36.2⟩
  have ho52 : own m50 (n2) ∧ tg50 (n2) = 20 := Ex_o hx50 ⟨ho37.1, ho37.2⟩
  have ho53 : own m50 (n11) ∧ tg50 (n11) = 21 := Ex_o hx50 ⟨ho38.1, ho38.2⟩
  have ho54 : own m50 (n22) ∧ tg50 (n22) = 21 := Ex_o hx50 ⟨ho39.1, ho39.2⟩
  have ho55 : own m50 (n35) ∧ tg50 (n35) = 21 := Ex_o hx50 ⟨ho35.1, ho35.2⟩
  have ln56 : ln50 (n2) = 6000 := (hx50.2 _ ho37.1).2.trans ln40
  clear ln40
  have ln57 : ln50 (n11) = 6000 := (hx50.2 _ ho38.1).2.trans ln41
  clear ln41
  have ln58 : ln50 (n22) = 6000 := (hx50.2 _ ho39.1).2.trans ln42
  clear ln42
  have ln59 : ln50 (n35) = 6000 := (hx50.2 _ ho35.1).2.trans hl35
  clear hl35
  have hX60 := Ex_t hX43 hx50
  have hM61 : Fq me [] m tg F F50 := Fq_n hM48 hf50 ex50
  have c62 : NW m m50 tg50 F50 := NW_n c49 hC47.1 hx50 en50 em50 hf50 ho50.2 (by decide) h050
  refine cx_pa (pc_q := 49) (c := 1) (q := 4) (qi := (4 : Int)) (z := n50) rfl rfl (by decide) (by decide) rfl rfl rfl (by decide) rfl ho51.1 ho51.2 rfl ?_
  obtain ⟨F63, eF63⟩ : ∃ q, q = uF F50 (me) (4 : Int) (n50) := ⟨_, rfl⟩
  rw [← eF63]
  have hC64 : HC me m50 tg50 ln50 F63 := by rw [eF63]; exact HC_fn (c := 1) (q := 4) hC50 ho51.2 (by decide) rfl ⟨ho50.1, ho50.2⟩ (fun _ => by omega) (fun _ => hg50) ⟨fun w => absurd w (by decide), fun w => absurd w (by decide)⟩
  have hM65 : Fq me [] m tg F F63 := by rw [eF63]; exact Fq_x hM61 (Or.inl rfl)
  have c66 : NW m m50 tg50 F63 := by rw [eF63]; exact NW_u c62 ho51.2 (by decide)
  refine jx_ld (pc_q := 50) (l_q := L0) (st_q := [rv (me)]) rfl (jl_rvn g1) ?_
  refine jx_ar (pc_q := 53) (st_q := [.int (i32 (6001)), rv (me)]) rfl rfl rfl rfl ?_
  refine cx_nai (pc_q := 55) (kd := 1) (z := 6001) rfl (by decide) rfl hC64.1 (by omega) (by omega) ?_
  refine HC_row (g := 2) (z := 6001) (t := 21) hC64 (by decide) (by decide) (by omega) (by omega) (fun n67 m67 tg67 ln67 F67 en67 em67 ho67 hl67 hx67 hC67 hf67 h067 hg67 hs67 => ?_)
  have ex67 : 64 + (m : Int) ≤ n67 := by have := hX60.1; omega
  have ho68 : own m67 (me) ∧ tg67 (me) = 2 := Ex_o hx67 ⟨ho51.1, ho51.2⟩
  have ho69 : own m67 (n2) ∧ tg67 (n2) = 20 := Ex_o hx67 ⟨ho52.1, ho52.2⟩
  have ho70 : own m67 (n11) ∧ tg67 (n11) = 21 := Ex_o hx67 ⟨ho53.1, ho53.2⟩
  have ho71 : own m67 (n22) ∧ tg67 (n22) = 21 := Ex_o hx67 ⟨ho54.1, ho54.2⟩
  have ho72 : own m67 (n35) ∧ tg67 (n35) = 21 := Ex_o hx67 ⟨ho55.1, ho55.2⟩
  have ho73 : own m67 (n50) ∧ tg67 (n50) = 20 := Ex_o hx67 ⟨ho50.1, ho50.2⟩
  have ln74 : ln67 (n2) = 6000 := (hx67.2 _ ho52.1).2.trans ln56
  clear ln56
  have ln75 : ln67 (n11) = 6000 := (hx67.2 _ ho53.1).2.trans ln57
  clear ln57
  have ln76 : ln67 (n22) = 6000 := (hx67.2 _ ho54.1).2.trans ln58
  clear ln58
  have ln77 : ln67 (n35) = 6000 := (hx67.2 _ ho55.1).2.trans ln59
  clear ln59
  have ln78 : ln67 (n50) = 6000 := (hx67.2 _ ho50.1).2.trans hl50
  clear hl50
  have hX79 := Ex_t hX60 hx67
  have hM80 : Fq me [] m tg F F67 := Fq_n hM65 hf67 ex67
  have c81 : NW m m67 tg67 F67 := NW_n c66 hC64.1 hx67 en67 em67 hf67 ho67.2 (by decide) h067
  refine cx_pa (pc_q := 58) (c := 1) (q := 5) (qi := (5 : Int)) (z := n67) rfl rfl (by decide) (by decide) rfl rfl rfl (by decide) rfl ho68.1 ho68.2 rfl ?_
  obtain ⟨F82, eF82⟩ : ∃ q, q = uF F67 (me) (5 : Int) (n67) := ⟨_, rfl⟩
  rw [← eF82]
  have hC83 : HC me m67 tg67 ln67 F82 := by rw [eF82]; exact HC_fn (c := 1) (q := 5) hC67 ho68.2 (by decide) rfl ⟨ho67.1, ho67.2⟩ (fun _ => by omega) (fun _ => hg67) ⟨fun w => absurd w (by decide), fun w => absurd w (by decide)⟩
  have hM84 : Fq me [] m tg F F82 := by rw [eF82]; exact Fq_x hM80 (Or.inl rfl)
  have c85 : NW m m67 tg67 F82 := by rw [eF82]; exact NW_u c81 ho68.2 (by decide)
  refine jx_ld (pc_q := 59) (l_q := L0) (st_q := [rv (me)]) rfl (jl_rvn g1) ?_
  refine jx_ar (pc_q := 62) (st_q := [.int (i32 (6000)), rv (me)]) rfl rfl rfl rfl ?_
  refine cx_nai (pc_q := 64) (kd := 1) (z := 6000) rfl (by decide) rfl hC83.1 (by omega) (by omega) ?_
  refine HC_row (g := 0) (z := 6000) (t := 21) hC83 (by decide) (by decide) (by omega) (by omega) (fun n86 m86 tg86 ln86 F86 en86 em86 ho86 hl86 hx86 hC86 hf86 h086 hg86 hs86 => ?_)
  have ex86 : 64 + (m : Int) ≤ n86 := by have := hX79.1; omega
  have ho87 : own m86 (me) ∧ tg86 (me) = 2 := Ex_o hx86 ⟨ho68.1, ho68.2⟩
  have ho88 : own m86 (n2) ∧ tg86 (n2) = 20 := Ex_o hx86 ⟨ho69.1, ho69.2⟩
  have ho89 : own m86 (n11) ∧ tg86 (n11) = 21 := Ex_o hx86 ⟨ho70.1, ho70.2⟩
  have ho90 : own m86 (n22) ∧ tg86 (n22) = 21 := Ex_o hx86 ⟨ho71.1, ho71.2⟩
  have ho91 : own m86 (n35) ∧ tg86 (n35) = 21 := Ex_o hx86 ⟨ho72.1, ho72.2⟩
  have ho92 : own m86 (n50) ∧ tg86 (n50) = 20 := Ex_o hx86 ⟨ho73.1, ho73.2⟩
  have ho93 : own m86 (n67) ∧ tg86 (n67) = 21 := Ex_o hx86 ⟨ho67.1, ho67.2⟩
  have ln94 : ln86 (n2) = 6000 := (hx86.2 _ ho69.1).2.trans ln74
  clear ln74
  have ln95 : ln86 (n11) = 6000 := (hx86.2 _ ho70.1).2.trans ln75
  clear ln75
  have ln96 : ln86 (n22) = 6000 := (hx86.2 _ ho71.1).2.trans ln76
  clear ln76
  have ln97 : ln86 (n35) = 6000 := (hx86.2 _ ho72.1).2.trans ln77
  clear ln77
  have ln98 : ln86 (n50) = 6000 := (hx86.2 _ ho73.1).2.trans ln78
  clear ln78
  have ln99 : ln86 (n67) = 6001 := (hx86.2 _ ho67.1).2.trans hl67
  clear hl67
  have hX100 := Ex_t hX79 hx86
  have hM101 : Fq me [] m tg F F86 := Fq_n hM84 hf86 ex86
  have c102 : NW m m86 tg86 F86 := NW_n c85 hC83.1 hx86 en86 em86 hf86 ho86.2 (by decide) h086
  refine cx_pa (pc_q := 67) (c := 1) (q := 6) (qi := (6 : Int)) (z := n86) rfl rfl (by decide) (by decide) rfl rfl rfl (by decide) rfl ho87.1 ho87.2 rfl ?_
  obtain ⟨F103, eF103⟩ : ∃ q, q = uF F86 (me) (6 : Int) (n86) := ⟨_, rfl⟩
  rw [← eF103]
  have hC104 : HC me m86 tg86 ln86 F103 := by rw [eF103]; exact HC_fn (c := 1) (q := 6) hC86 ho87.2 (by decide) rfl ⟨ho86.1, ho86.2⟩ (fun _ => by omega) (fun _ => hg86) ⟨fun w => absurd w (by decide), fun w => absurd w (by decide)⟩
  have hM105 : Fq me [] m tg F F103 := by rw [eF103]; exact Fq_x hM101 (Or.inl rfl)
  have c106 : NW m m86 tg86 F103 := by rw [eF103]; exact NW_u c102 ho87.2 (by decide)
  refine jx_rt (v := none) rfl rfl rfl rfl rfl rfl ?_
  have hC107 : HC 0 m86 tg86 ln86 F103 := by
    refine HC_fin hC104 (fun c_q q e hq h3 => ?_) ⟨fun w => ?_, fun w => ?_⟩
    · have ec : c_q = 1 := by rw [ho87.2] at e; omega
      subst ec
      have hq2 : q < 12 := hq
      have hq3 : q = 0 ∨ q = 1 ∨ q = 2 ∨ q = 3 ∨ q = 4 ∨ q = 5 ∨ q = 6 ∨ q = 7 ∨ q = 8 ∨ q = 9 ∨ q = 10 ∨ q = 11 := (by decide : ∀ k : Fin 12, k.1 = 0 ∨ k.1 = 1 ∨ k.1 = 2 ∨ k.1 = 3 ∨ k.1 = 4 ∨ k.1 = 5 ∨ k.1 = 6 ∨ k.1 = 7 ∨ k.1 = 8 ∨ k.1 = 9 ∨ k.1 = 10 ∨ k.1 = 11) ⟨q, hq2⟩
      rcases hq3 with rfl | rfl | rfl | rfl | rfl | rfl | rfl | rfl | rfl | rfl | rfl | rfl
      · rw [show F103 (me) ((0 : Nat) : Int) = n2 from (show F103 (me) (0 : Int) = n2 from by rw [(show F103 (me) (0 : Int) = F86 (me) (0 : Int) from by rw [eF103]; exact uF_j (by decide)), (show F86 (me) (0 : Int) = F82 (me) (0 : Int) from hf86 _ _ (ne_n ho68.1 en86)), (show F82 (me) (0 : Int) = F67 (me) (0 : Int) from by rw [eF82]; exact uF_j (by decide)), (show F67 (me) (0 : Int) = F63 (me) (0 : Int) from hf67 _ _ (ne_n ho51.1 en67)), (show F63 (me) (0 : Int) = F50 (me) (0 : Int) from by rw [eF63]; exact uF_j (by decide)), (show F50 (me) (0 : Int) = F46 (me) (0 : Int) from hf50 _ _ (ne_n ho36.1 en50)), (show F46 (me) (0 : Int) = F35 (me) (0 : Int) from by rw [eF46]; exact uF_j (by decide)), (show F35 (me) (0 : Int) = F31 (me) (0 : Int) from hf35 _ _ (ne_n ho23.1 en35)), (show F31 (me) (0 : Int) = F22 (me) (0 : Int) from by rw [eF31]; exact uF_j (by decide)), (show F22 (me) (0 : Int) = F18 (me) (0 : Int) from hf22 _ _ (ne_n ho12.1 en22)), (show F18 (me) (0 : Int) = F11 (me) (0 : Int) from by rw [eF18]; exact uF_j (by decide)), (show F11 (me) (0 : Int) = F7 (me) (0 : Int) from hf11 _ _ (ne_n ho3.1 en11)), (show F7 (me) (0 : Int) = n2 from by rw [eF7]; exact uF_e)])]; exact own_z ho88.1
      · rw [show F103 (me) ((1 : Nat) : Int) = n11 from (show F103 (me) (1 : Int) = n11 from by rw [(show F103 (me) (1 : Int) = F86 (me) (1 : Int) from by rw [eF103]; exact uF_j (by decide)), (show F86 (me) (1 : Int) = F82 (me) (1 : Int) from hf86 _ _ (ne_n ho68.1 en86)), (show F82 (me) (1 : Int) = F67 (me) (1 : Int) from by rw [eF82]; exact uF_j (by decide)), (show F67 (me) (1 : Int) = F63 (me) (1 : Int) from hf67 _ _ (ne_n ho51.1 en67)), (show F63 (me) (1 : Int) = F50 (me) (1 : Int) from by rw [eF63]; exact uF_j (by decide)), (show F50 (me) (1 : Int) = F46 (me) (1 : Int) from hf50 _ _ (ne_n ho36.1 en50)), (show F46 (me) (1 : Int) = F35 (me) (1 : Int) from by rw [eF46]; exact uF_j (by decide)), (show F35 (me) (1 : Int) = F31 (me) (1 : Int) from hf35 _ _ (ne_n ho23.1 en35)), (show F31 (me) (1 : Int) = F22 (me) (1 : Int) from by rw [eF31]; exact uF_j (by decide)), (show F22 (me) (1 : Int) = F18 (me) (1 : Int) from hf22 _ _ (ne_n ho12.1 en22)), (show F18 (me) (1 : Int) = n11 from by rw [eF18]; exact uF_e)])]; exact own_z ho89.1
      · rw [show F103 (me) ((2 : Nat) : Int) = n22 from (show F103 (me) (2 : Int) = n22 from by rw [(show F103 (me) (2 : Int) = F86 (me) (2 : Int) from by rw [eF103]; exact uF_j (by decide)), (show F86 (me) (2 : Int) = F82 (me) (2 : Int) from hf86 _ _ (ne_n ho68.1 en86)), (show F82 (me) (2 : Int) = F67 (me) (2 : Int) from by rw [eF82]; exact uF_j (by decide)), (show F67 (me) (2 : Int) = F63 (me) (2 : Int) from hf67 _ _ (ne_n ho51.1 en67)), (show F63 (me) (2 : Int) = F50 (me) (2 : Int) from by rw [eF63]; exact uF_j (by decide)), (show F50 (me) (2 : Int) = F46 (me) (2 : Int) from hf50 _ _ (ne_n ho36.1 en50)), (show F46 (me) (2 : Int) = F35 (me) (2 : Int) from by rw [eF46]; exact uF_j (by decide)), (show F35 (me) (2 : Int) = F31 (me) (2 : Int) from hf35 _ _ (ne_n ho23.1 en35)), (show F31 (me) (2 : Int) = n22 from by rw [eF31]; exact uF_e)])]; exact own_z ho90.1
      · rw [show F103 (me) ((3 : Nat) : Int) = n35 from (show F103 (me) (3 : Int) = n35 from by rw [(show F103 (me) (3 : Int) = F86 (me) (3 : Int) from by rw [eF103]; exact uF_j (by decide)), (show F86 (me) (3 : Int) = F82 (me) (3 : Int) from hf86 _ _ (ne_n ho68.1 en86)), (show F82 (me) (3 : Int) = F67 (me) (3 : Int) from by rw [eF82]; exact uF_j (by decide)), (show F67 (me) (3 : Int) = F63 (me) (3 : Int) from hf67 _ _ (ne_n ho51.1 en67)), (show F63 (me) (3 : Int) = F50 (me) (3 : Int) from by rw [eF63]; exact uF_j (by decide)), (show F50 (me) (3 : Int) = F46 (me) (3 : Int) from hf50 _ _ (ne_n ho36.1 en50)), (show F46 (me) (3 : Int) = n35 from by rw [eF46]; exact uF_e)])]; exact own_z ho91.1
      · rw [show F103 (me) ((4 : Nat) : Int) = n50 from (show F103 (me) (4 : Int) = n50 from by rw [(show F103 (me) (4 : Int) = F86 (me) (4 : Int) from by rw [eF103]; exact uF_j (by decide)), (show F86 (me) (4 : Int) = F82 (me) (4 : Int) from hf86 _ _ (ne_n ho68.1 en86)), (show F82 (me) (4 : Int) = F67 (me) (4 : Int) from by rw [eF82]; exact uF_j (by decide)), (show F67 (me) (4 : Int) = F63 (me) (4 : Int) from hf67 _ _ (ne_n ho51.1 en67)), (show F63 (me) (4 : Int) = n50 from by rw [eF63]; exact uF_e)])]; exact own_z ho92.1
      · rw [show F103 (me) ((5 : Nat) : Int) = n67 from ((show F103 (me) (5 : Int) = F86 (me) (5 : Int) from by rw [eF103]; exact uF_j (by decide)).trans ((show F86 (me) (5 : Int) = F82 (me) (5 : Int) from hf86 _ _ (ne_n ho68.1 en86)).trans (show F82 (me) (5 : Int) = n67 from by rw [eF82]; exact uF_e)))]; exact own_z ho93.1
      · rw [show F103 (me) ((6 : Nat) : Int) = n86 from (show F103 (me) (6 : Int) = n86 from by rw [eF103]; exact uF_e)]; exact own_z ho86.1
      · exact absurd h3 (by decide)
      · exact absurd h3 (by decide)
      · exact absurd h3 (by decide)
      · exact absurd h3 (by decide)
      · exact absurd h3 (by decide)
    · exact absurd (ho87.2.symm.trans w) (by decide)
    · exact absurd (ho87.2.symm.trans w) (by decide)
  exact ⟨m86, tg86, ln86, F103, rfl, rfl, hX100, hC107, hM105, by omega, by omega, c106, trivial⟩
set_option maxRecDepth 20000 in
set_option maxHeartbeats 4000000 in
theorem k_LMachine_init {X : jX} {dd : Nat} {R : Nat → jC} {m : Nat} {tg ln : Int → Int} {F : Int → Int → Int} {me pr : Int} (hd : 1 ≤ dd) (hC : HC me m tg ln F) (o_me : own m me) (t_me : tg me = 6) (o_pr : own m pr) (t_pr : tg pr = 10) (z_me : ∀ i, F me i = 0) : wk X dd 140 [rv me, rv pr] (cV R m tg ln F) (fun o V_q => ∃ (m_q : Nat) (tg_q ln_q : Int → Int) (F_q : Int → Int → Int), V_q = cV R m_q tg_q ln_q F_q ∧ o = .inl none ∧ Ex m tg ln m_q tg_q ln_q ∧ HC 0 m_q tg_q ln_q F_q ∧ Fq me [] m tg F F_q ∧ (szD m_q tg_q ln_q = szD m tg ln + 1209) ∧ ((m_q : Int) = (m : Int) + 3) ∧ (F_q me (6 : Int) = 0) ∧ (NW m m_q tg_q F_q) ∧ True) := by
  obtain ⟨d, rfl⟩ : ∃ d, dd = d + 1 := ⟨dd - 1, by omega⟩
  refine wk_of (e := jm140) rfl (by rw [jS_r, jS_r, jS_0]; exact Nat.le_of_ble_eq_true rfl) ?_
  rw [la_r, la_r, la_0]
  show wj X d jm140 (0, [(0, rv (me)), (1, rv (pr))], [], cV R m tg ln F) _
  have hM0 : Fq me [] m tg F F := Fq_r
  have hX0 : Ex m tg ln m tg ln := Ex_r
  obtain ⟨L0, eL0⟩ : ∃ q : jL, q = [(0, rv (me)), (1, rv (pr))] := ⟨_, rfl⟩
  rw [← eL0]
  have g1 : jGet L0 0 = some (rv (me)) := eL0 ▸ (rfl : jGet [(0, rv (me)), (1, rv (pr))] 0 = some (rv (me)))
  have g2 : jGet L0 1 = some (rv (pr)) := eL0 ▸ (rfl : jGet [(0, rv (me)), (1, rv (pr))] 1 = some (rv (pr)))
  clear eL0
  refine jx_ld (pc_q := 1) (l_q := L0) (st_q := [rv (me)]) rfl (jl_rvn g1) ?_
  refine cx_ob (pc_q := 4) rfl rfl o_me.1 (Nat.le_of_ble_eq_true rfl) rfl ?_
  refine jx_ld (pc_q := 5) (l_q := L0) (st_q := [rv (me)]) rfl (jl_rvn g1) ?_
  refine jx_ar (pc_q := 7) (st_q := [.int (i32 (6)), rv (me)]) rfl rfl rfl rfl ?_
  refine cx_naa (pc_q := 10) (c := 2) (kd := 7) (z := 6) rfl rfl rfl (by decide) rfl hC.1 (by omega) (by omega) ?_
  refine HC_row (g := 0) (z := 6) (t := 27) hC (by decide) (by decide) (by omega) (by omega) (fun n3 m3 tg3 ln3 F3 en3 em3 ho3 hl3 hx3 hC3 hf3 h03 hg3 hs3 => ?_)
  have ex3 : 64 + (m : Int) ≤ n3 := by have := hX0.1; omega
  have ho4 : own m3 (me) ∧ tg3 (me) = 6 := Ex_o hx3 ⟨o_me, t_me⟩
  have ho5 : own m3 (pr) ∧ tg3 (pr) = 10 := Ex_o hx3 ⟨o_pr, t_pr⟩
  have hX6 := Ex_t hX0 hx3
  have hM7 : Fq me [] m tg F F3 := Fq_n hM0 hf3 ex3
  have c8 : NW m m3 tg3 F3 := NW_n NW_0 hC.1 hx3 en3 em3 hf3 ho3.2 (by decide) h03
  refine cx_pa (pc_q := 13) (c := 5) (q := 1) (qi := (1 : Int)) (z := n3) rfl rfl (by decide) (by decide) rfl rfl rfl (by decide) rfl ho4.1 ho4.2 rfl ?_
  obtain ⟨F9, eF9⟩ : ∃ q, q = uF F3 (me) (1 : Int) (n3) := ⟨_, rfl⟩
  rw [← eF9]
  have hC10 : HC me m3 tg3 ln3 F9 := by rw [eF9]; exact HC_fn (c := 5) (q := 1) hC3 ho4.2 (by decide) rfl ⟨ho3.1, ho3.2⟩ (fun _ => by omega) (fun _ => hg3) ⟨fun w => absurd w (by decide), fun w => absurd w (by decide)⟩
  have hM11 : Fq me [] m tg F F9 := by rw [eF9]; exact Fq_x hM7 (Or.inl rfl)
  have c12 : NW m m3 tg3 F9 := by rw [eF9]; exact NW_u c8 ho4.2 (by decide)
  refine jx_ld (pc_q := 14) (l_q := L0) (st_q := [rv (me)]) rfl (jl_rvn g1) ?_
  refine jx_ar (pc_q := 17) (st_q := [.int (i32 (200)), rv (me)]) rfl rfl rfl rfl ?_
  refine cx_nai (pc_q := 19) (kd := 1) (z := 200) rfl (by decide) rfl hC10.1 (by omega) (by omega) ?_
  refine HC_row (g := 0) (z := 200) (t := 21) hC10 (by decide) (by decide) (by omega) (by omega) (fun n13 m13 tg13 ln13 F13 en13 em13 ho13 hl13 hx13 hC13 hf13 h013 hg13 hs13 => ?_)
  have ex13 : 64 + (m : Int) ≤ n13 := by have := hX6.1; omega
  have ho14 : own m13 (me) ∧ tg13 (me) = 6 := Ex_o hx13 ⟨ho4.1, ho4.2⟩
  have ho15 : own m13 (pr) ∧ tg13 (pr) = 10 := Ex_o hx13 ⟨ho5.1, ho5.2⟩
  have ho16 : own m13 (n3) ∧ tg13 (n3) = 27 := Ex_o hx13 ⟨ho3.1, ho3.2⟩
  have ln17 : ln13 (n3) = 6 := (hx13.2 _ ho3.1).2.trans hl3
  clear hl3
  have hX18 := Ex_t hX6 hx13
  have hM19 : Fq me [] m tg F F13 := Fq_n hM11 hf13 ex13
  have c20 : NW m m13 tg13 F13 := NW_n c12 hC10.1 hx13 en13 em13 hf13 ho13.2 (by decide) h013
  refine cx_pa (pc_q := 22) (c := 5) (q := 2) (qi := (2 : Int)) (z := n13) rfl rfl (by decide) (by decide) rfl rfl rfl (by decide) rfl ho14.1 ho14.2 rfl ?_
  obtain ⟨F21, eF21⟩ : ∃ q, q = uF F13 (me) (2 : Int) (n13) := ⟨_, rfl⟩
  rw [← eF21]
  have hC22 : HC me m13 tg13 ln13 F21 := by rw [eF21]; exact HC_fn (c := 5) (q := 2) hC13 ho14.2 (by decide) rfl ⟨ho13.1, ho13.2⟩ (fun _ => by omega) (fun _ => hg13) ⟨fun w => absurd w (by decide), fun w => absurd w (by decide)⟩
  have hM23 : Fq me [] m tg F F21 := by rw [eF21]; exact Fq_x hM19 (Or.inl rfl)
  have c24 : NW m m13 tg13 F21 := by rw [eF21]; exact NW_u c20 ho14.2 (by decide)
  refine jx_ld (pc_q := 23) (l_q := L0) (st_q := [rv (me)]) rfl (jl_rvn g1) ?_
  refine jx_ar (pc_q := 26) (st_q := [.int (i32 (1000)), rv (me)]) rfl rfl rfl rfl ?_
  refine cx_nai (pc_q := 28) (kd := 1) (z := 1000) rfl (by decide) rfl hC22.1 (by omega) (by omega) ?_
  refine HC_row (g := 0) (z := 1000) (t := 21) hC22 (by decide) (by decide) (by omega) (by omega) (fun n25 m25 tg25 ln25 F25 en25 em25 ho25 hl25 hx25 hC25 hf25 h025 hg25 hs25 => ?_)
  have ex25 : 64 + (m : Int) ≤ n25 := by have := hX18.1; omega
  have ho26 : own m25 (me) ∧ tg25 (me) = 6 := Ex_o hx25 ⟨ho14.1, ho14.2⟩
  have ho27 : own m25 (pr) ∧ tg25 (pr) = 10 := Ex_o hx25 ⟨ho15.1, ho15.2⟩
  have ho28 : own m25 (n3) ∧ tg25 (n3) = 27 := Ex_o hx25 ⟨ho16.1, ho16.2⟩
  have ho29 : own m25 (n13) ∧ tg25 (n13) = 21 := Ex_o hx25 ⟨ho13.1, ho13.2⟩
  have ln30 : ln25 (n3) = 6 := (hx25.2 _ ho16.1).2.trans ln17
  clear ln17
  have ln31 : ln25 (n13) = 200 := (hx25.2 _ ho13.1).2.trans hl13
  clear hl13
  have hX32 := Ex_t hX18 hx25
  have hM33 : Fq me [] m tg F F25 := Fq_n hM23 hf25 ex25
  have c34 : NW m m25 tg25 F25 := NW_n c24 hC22.1 hx25 en25 em25 hf25 ho25.2 (by decide) h025
  refine cx_pa (pc_q := 31) (c := 5) (q := 5) (qi := (5 : Int)) (z := n25) rfl rfl (by decide) (by decide) rfl rfl rfl (by decide) rfl ho26.1 ho26.2 rfl ?_
  obtain ⟨F35, eF35⟩ : ∃ q, q = uF F25 (me) (5 : Int) (n25) := ⟨_, rfl⟩
  rw [← eF35]
  have hC36 : HC me m25 tg25 ln25 F35 := by rw [eF35]; exact HC_fn (c := 5) (q := 5) hC25 ho26.2 (by decide) rfl ⟨ho25.1, ho25.2⟩ (fun _ => by omega) (fun _ => hg25) ⟨fun w => absurd w (by decide), fun w => absurd w (by decide)⟩
  have hM37 : Fq me [] m tg F F35 := by rw [eF35]; exact Fq_x hM33 (Or.inl rfl)
  have c38 : NW m m25 tg25 F35 := by rw [eF35]; exact NW_u c34 ho26.2 (by decide)
  refine jx_ld (pc_q := 32) (l_q := L0) (st_q := [rv (me)]) rfl (jl_rvn g1) ?_
  refine jx_ld (pc_q := 33) (l_q := L0) (st_q := [rv (pr), rv (me)]) rfl (jl_rvn g2) ?_
  refine cx_po (pc_q := 36) (c := 5) (q := 0) (qi := (0 : Int)) (z := pr) rfl rfl (by decide) (by decide) rfl rfl rfl (by decide) rfl ho26.1 ho26.2 rfl ?_
  obtain ⟨F39, eF39⟩ : ∃ q, q = uF F35 (me) (0 : Int) (pr) := ⟨_, rfl⟩
  rw [← eF39]
  have hC40 : HC me m25 tg25 ln25 F39 := by rw [eF39]; exact HC_fn (c := 5) (q := 0) hC36 ho26.2 (by decide) rfl ⟨ho27.1, ho27.2⟩ (fun _ => by omega) (fun _ => by omega) ⟨fun w => absurd w (by decide), fun w => absurd w (by decide)⟩
  have hM41 : Fq me [] m tg F F39 := by rw [eF39]; exact Fq_x hM37 (Or.inl rfl)
  have c42 : NW m m25 tg25 F39 := by rw [eF39]; exact NW_u c38 ho26.2 (by decide)
  refine jx_rt (v := none) rfl rfl rfl rfl rfl rfl ?_
  have hC43 : HC 0 m25 tg25 ln25 F39 := by
    refine HC_fin hC40 (fun c_q q e hq h3 => ?_) ⟨fun w => ?_, fun w => ?_⟩
    · have ec : c_q = 5 := by rw [ho26.2] at e; omega
      subst ec
      have hq2 : q < 9 := hq
      have hq3 : q = 0 ∨ q = 1 ∨ q = 2 ∨ q = 3 ∨ q = 4 ∨ q = 5 ∨ q = 6 ∨ q = 7 ∨ q = 8 := (by decide : ∀ k : Fin 9, k.1 = 0 ∨ k.1 = 1 ∨ k.1 = 2 ∨ k.1 = 3 ∨ k.1 = 4 ∨ k.1 = 5 ∨ k.1 = 6 ∨ k.1 = 7 ∨ k.1 = 8) ⟨q, hq2⟩
      rcases hq3 with rfl | rfl | rfl | rfl | rfl | rfl | rfl | rfl | rfl
      · rw [show F39 (me) ((0 : Nat) : Int) = pr from (show F39 (me) (0 : Int) = pr from by rw [eF39]; exact uF_e)]; exact own_z ho27.1
      · rw [show F39 (me) ((1 : Nat) : Int) = n3 from (show F39 (me) (1 : Int) = n3 from by rw [(show F39 (me) (1 : Int) = F35 (me) (1 : Int) from by rw [eF39]; exact uF_j (by decide)), (show F35 (me) (1 : Int) = F25 (me) (1 : Int) from by rw [eF35]; exact uF_j (by decide)), (show F25 (me) (1 : Int) = F21 (me) (1 : Int) from hf25 _ _ (ne_n ho14.1 en25)), (show F21 (me) (1 : Int) = F13 (me) (1 : Int) from by rw [eF21]; exact uF_j (by decide)), (show F13 (me) (1 : Int) = F9 (me) (1 : Int) from hf13 _ _ (ne_n ho4.1 en13)), (show F9 (me) (1 : Int) = n3 from by rw [eF9]; exact uF_e)])]; exact own_z ho28.1
      · rw [show F39 (me) ((2 : Nat) : Int) = n13 from (show F39 (me) (2 : Int) = n13 from by rw [(show F39 (me) (2 : Int) = F35 (me) (2 : Int) from by rw [eF39]; exact uF_j (by decide)), (show F35 (me) (2 : Int) = F25 (me) (2 : Int) from by rw [eF35]; exact uF_j (by decide)), (show F25 (me) (2 : Int) = F21 (me) (2 : Int) from hf25 _ _ (ne_n ho14.1 en25)), (show F21 (me) (2 : Int) = n13 from by rw [eF21]; exact uF_e)])]; exact own_z ho29.1
      · exact absurd h3 (by decide)
      · exact absurd h3 (by decide)
      · rw [show F39 (me) ((5 : Nat) : Int) = n25 from ((show F39 (me) (5 : Int) = F35 (me) (5 : Int) from by rw [eF39]; exact uF_j (by decide)).trans (show F35 (me) (5 : Int) = n25 from by rw [eF35]; exact uF_e))]; exact own_z ho25.1
      · exact absurd h3 (by decide)
      · exact absurd h3 (by decide)
      · exact absurd h3 (by decide)
    · exact absurd (ho26.2.symm.trans w) (by decide)
    · exact absurd (ho26.2.symm.trans w) (by decide)
  have q44 : F39 (me) (6 : Int) = 0 := (show F39 (me) (6 : Int) = 0 from by rw [(show F39 (me) (6 : Int) = F35 (me) (6 : Int) from by rw [eF39]; exact uF_j (by decide)), (show F35 (me) (6 : Int) = F25 (me) (6 : Int) from by rw [eF35]; exact uF_j (by decide)), (show F25 (me) (6 : Int) = F21 (me) (6 : Int) from hf25 _ _ (ne_n ho14.1 en25)), (show F21 (me) (6 : Int) = F13 (me) (6 : Int) from by rw [eF21]; exact uF_j (by decide)), (show F13 (me) (6 : Int) = F9 (me) (6 : Int) from hf13 _ _ (ne_n ho4.1 en13)), (show F9 (me) (6 : Int) = F3 (me) (6 : Int) from by rw [eF9]; exact uF_j (by decide)), (show F3 (me) (6 : Int) = F (me) (6 : Int) from hf3 _ _ (ne_n o_me en3)), (show F (me) (6 : Int) = 0 from z_me _)])
  exact ⟨m25, tg25, ln25, F39, rfl, rfl, hX32, hC43, hM41, by omega, by omega, by omega, c42, trivial⟩
