set_option maxRecDepth 20000 in
set_option maxHeartbeats 4000000 in
theorem k_LProgram_init {X : jX} {dd : Nat} {R : Nat → jC} {m : Nat} {tg ln : Int → Int} {F : Int → Int → Int} {me : Int} (hd : 1 ≤ dd) (hC : HC me m tg ln F) (o_me : own m me) (t_me : tg me = 10) (z_me : ∀ i, F me i = 0) : wk X dd 204 [rv me] (cV R m tg ln F) (fun o V_q => ∃ (m_q : Nat) (tg_q ln_q : Int → Int) (F_q : Int → Int → Int), V_q = cV R m_q tg_q ln_q F_q ∧ o = .inl none ∧ Ex m tg ln m_q tg_q ln_q ∧ HC 0 m_q tg_q ln_q F_q ∧ Fq me [] m tg F F_q ∧ (szD m_q tg_q ln_q = szD m tg ln + 45) ∧ ((m_q : Int) = (m : Int) + 3) ∧ (F_q me (0 : Int) = 0) ∧ (F_q me (5 : Int) = 0) ∧ (F_q me (7 : Int) = 0) ∧ (F_q me (8 : Int) = 0) ∧ (F_q me (9 : Int) = 0) ∧ (∀ i, 0 ≤ i → F_q (F_q me (3 : Int)) i = 0) ∧ (NW m m_q tg_q F_q) ∧ True) := by
  obtain ⟨d, rfl⟩ : ∃ d, dd = d + 1 := ⟨dd - 1, by omega⟩
  refine wk_of (e := jm204) rfl (by rw [jS_r, jS_0]; exact Nat.le_of_ble_eq_true rfl) ?_
  rw [la_r, la_0]
  show wj X d jm204 (0, [(0, rv (me))], [], cV R m tg ln F) _
  have hM0 : Fq me [] m tg F F := Fq_r
  have hX0 : Ex m tg ln m tg ln := Ex_r
  obtain ⟨L0, eL0⟩ : ∃ q : jL, q = [(0, rv (me))] := ⟨_, rfl⟩
  rw [← eL0]
  have g1 : jGet L0 0 = some (rv (me)) := eL0 ▸ (rfl : jGet [(0, rv (me))] 0 = some (rv (me)))
  clear eL0
  refine jx_ld (pc_q := 1) (l_q := L0) (st_q := [rv (me)]) rfl (jl_rvn g1) ?_
  refine cx_ob (pc_q := 4) rfl rfl o_me.1 (Nat.le_of_ble_eq_true rfl) rfl ?_
  refine jx_ld (pc_q := 5) (l_q := L0) (st_q := [rv (me)]) rfl (jl_rvn g1) ?_
  refine jx_ar (pc_q := 6) (st_q := [.int (i32 (-1)), rv (me)]) rfl rfl rfl rfl ?_
  refine cx_pi (pc_q := 9) (c := 9) (q := 1) (qi := (1 : Int)) (z := -1) rfl rfl (by decide) (by decide) rfl rfl rfl (by decide) rfl o_me t_me rfl ?_
  obtain ⟨F2, eF2⟩ : ∃ q, q = uF F (me) (1 : Int) (-1) := ⟨_, rfl⟩
  rw [← eF2]
  have hC3 : HC me m tg ln F2 := by rw [eF2]; exact HC_fi (c := 9) (q := 1) hC t_me (by decide) rfl (by omega) (by omega) ⟨fun w => absurd w (by decide), fun w => absurd w (by decide)⟩
  have hM4 : Fq me [] m tg F F2 := by rw [eF2]; exact Fq_x hM0 (Or.inl rfl)
  have c5 : NW m m tg F2 := by rw [eF2]; exact NW_u NW_0 t_me (by decide)
  refine jx_ld (pc_q := 10) (l_q := L0) (st_q := [rv (me)]) rfl (jl_rvn g1) ?_
  refine jx_ar (pc_q := 11) (st_q := [.int (i32 (-1)), rv (me)]) rfl rfl rfl rfl ?_
  refine cx_pi (pc_q := 14) (c := 9) (q := 2) (qi := (2 : Int)) (z := -1) rfl rfl (by decide) (by decide) rfl rfl rfl (by decide) rfl o_me t_me rfl ?_
  obtain ⟨F6, eF6⟩ : ∃ q, q = uF F2 (me) (2 : Int) (-1) := ⟨_, rfl⟩
  rw [← eF6]
  have hC7 : HC me m tg ln F6 := by rw [eF6]; exact HC_fi (c := 9) (q := 2) hC3 t_me (by decide) rfl (by omega) (by omega) ⟨fun w => absurd w (by decide), fun w => absurd w (by decide)⟩
  have hM8 : Fq me [] m tg F F6 := by rw [eF6]; exact Fq_x hM4 (Or.inl rfl)
  have c9 : NW m m tg F6 := by rw [eF6]; exact NW_u c5 t_me (by decide)
  refine jx_ld (pc_q := 15) (l_q := L0) (st_q := [rv (me)]) rfl (jl_rvn g1) ?_
  refine jx_ar (pc_q := 17) (st_q := [.int (i32 (6)), rv (me)]) rfl rfl rfl rfl ?_
  refine cx_naa (pc_q := 20) (c := 7) (kd := 4) (z := 6) rfl rfl rfl (by decide) rfl hC7.1 (by omega) (by omega) ?_
  refine HC_row (g := 0) (z := 6) (t := 24) hC7 (by decide) (by decide) (by omega) (by omega) (fun n10 m10 tg10 ln10 F10 en10 em10 ho10 hl10 hx10 hC10 hf10 h010 hg10 hs10 => ?_)
  have ex10 : 64 + (m : Int) ≤ n10 := by have := hX0.1; omega
  have ho11 : own m10 (me) ∧ tg10 (me) = 10 := Ex_o hx10 ⟨o_me, t_me⟩
  have hX12 := Ex_t hX0 hx10
  have hM13 : Fq me [] m tg F F10 := Fq_n hM8 hf10 ex10
  have c14 : NW m m10 tg10 F10 := NW_n c9 hC7.1 hx10 en10 em10 hf10 ho10.2 (by decide) h010
  refine cx_pa (pc_q := 23) (c := 9) (q := 3) (qi := (3 : Int)) (z := n10) rfl rfl (by decide) (by decide) rfl rfl rfl (by decide) rfl ho11.1 ho11.2 rfl ?_
  obtain ⟨F15, eF15⟩ : ∃ q, q = uF F10 (me) (3 : Int) (n10) := ⟨_, rfl⟩
  rw [← eF15]
  have hC16 : HC me m10 tg10 ln10 F15 := by rw [eF15]; exact HC_fn (c := 9) (q := 3) hC10 ho11.2 (by decide) rfl ⟨ho10.1, ho10.2⟩ (fun _ => by omega) (fun _ => hg10) ⟨fun w => absurd w (by decide), fun w => absurd w (by decide)⟩
  have hM17 : Fq me [] m tg F F15 := by rw [eF15]; exact Fq_x hM13 (Or.inl rfl)
  have c18 : NW m m10 tg10 F15 := by rw [eF15]; exact NW_u c14 ho11.2 (by decide)
  refine jx_ld (pc_q := 24) (l_q := L0) (st_q := [rv (me)]) rfl (jl_rvn g1) ?_
  refine jx_ar (pc_q := 26) (st_q := [.int (i32 (24)), rv (me)]) rfl rfl rfl rfl ?_
  refine cx_naa (pc_q := 29) (c := 6) (kd := 5) (z := 24) rfl rfl rfl (by decide) rfl hC16.1 (by omega) (by omega) ?_
  refine HC_row (g := 0) (z := 24) (t := 25) hC16 (by decide) (by decide) (by omega) (by omega) (fun n19 m19 tg19 ln19 F19 en19 em19 ho19 hl19 hx19 hC19 hf19 h019 hg19 hs19 => ?_)
  have ex19 : 64 + (m : Int) ≤ n19 := by have := hX12.1; omega
  have ho20 : own m19 (me) ∧ tg19 (me) = 10 := Ex_o hx19 ⟨ho11.1, ho11.2⟩
  have ho21 : own m19 (n10) ∧ tg19 (n10) = 24 := Ex_o hx19 ⟨ho10.1, ho10.2⟩
  have ln22 : ln19 (n10) = 6 := (hx19.2 _ ho10.1).2.trans hl10
  clear hl10
  have hX23 := Ex_t hX12 hx19
  have hM24 : Fq me [] m tg F F19 := Fq_n hM17 hf19 ex19
  have c25 : NW m m19 tg19 F19 := NW_n c18 hC16.1 hx19 en19 em19 hf19 ho19.2 (by decide) h019
  refine cx_pa (pc_q := 32) (c := 9) (q := 4) (qi := (4 : Int)) (z := n19) rfl rfl (by decide) (by decide) rfl rfl rfl (by decide) rfl ho20.1 ho20.2 rfl ?_
  obtain ⟨F26, eF26⟩ : ∃ q, q = uF F19 (me) (4 : Int) (n19) := ⟨_, rfl⟩
  rw [← eF26]
  have hC27 : HC me m19 tg19 ln19 F26 := by rw [eF26]; exact HC_fn (c := 9) (q := 4) hC19 ho20.2 (by decide) rfl ⟨ho19.1, ho19.2⟩ (fun _ => by omega) (fun _ => hg19) ⟨fun w => absurd w (by decide), fun w => absurd w (by decide)⟩
  have hM28 : Fq me [] m tg F F26 := by rw [eF26]; exact Fq_x hM24 (Or.inl rfl)
  have c29 : NW m m19 tg19 F26 := by rw [eF26]; exact NW_u c25 ho20.2 (by decide)
  refine jx_ld (pc_q := 33) (l_q := L0) (st_q := [rv (me)]) rfl (jl_rvn g1) ?_
  refine jx_ar (pc_q := 35) (st_q := [.int (i32 (12)), rv (me)]) rfl rfl rfl rfl ?_
  refine cx_naa (pc_q := 38) (c := 4) (kd := 6) (z := 12) rfl rfl rfl (by decide) rfl hC27.1 (by omega) (by omega) ?_
  refine HC_row (g := 0) (z := 12) (t := 26) hC27 (by decide) (by decide) (by omega) (by omega) (fun n30 m30 tg30 ln30 F30 en30 em30 ho30 hl30 hx30 hC30 hf30 h030 hg30 hs30 => ?_)
  have ex30 : 64 + (m : Int) ≤ n30 := by have := hX23.1; omega
  have ho31 : own m30 (me) ∧ tg30 (me) = 10 := Ex_o hx30 ⟨ho20.1, ho20.2⟩
  have ho32 : own m30 (n10) ∧ tg30 (n10) = 24 := Ex_o hx30 ⟨ho21.1, ho21.2⟩
  have ho33 : own m30 (n19) ∧ tg30 (n19) = 25 := Ex_o hx30 ⟨ho19.1, ho19.2⟩
  have ln34 : ln30 (n10) = 6 := (hx30.2 _ ho21.1).2.trans ln22
  clear ln22
  have ln35 : ln30 (n19) = 24 := (hx30.2 _ ho19.1).2.trans hl19
  clear hl19
  have hX36 := Ex_t hX23 hx30
  have hM37 : Fq me [] m tg F F30 := Fq_n hM28 hf30 ex30
  have c38 : NW m m30 tg30 F30 := NW_n c29 hC27.1 hx30 en30 em30 hf30 ho30.2 (by decide) h030
  refine cx_pa (pc_q := 41) (c := 9) (q := 6) (qi := (6 : Int)) (z := n30) rfl rfl (by decide) (by decide) rfl rfl rfl (by decide) rfl ho31.1 ho31.2 rfl ?_
  obtain ⟨F39, eF39⟩ : ∃ q, q = uF F30 (me) (6 : Int) (n30) := ⟨_, rfl⟩
  rw [← eF39]
  have hC40 : HC me m30 tg30 ln30 F39 := by rw [eF39]; exact HC_fn (c := 9) (q := 6) hC30 ho31.2 (by decide) rfl ⟨ho30.1, ho30.2⟩ (fun _ => by omega) (fun _ => hg30) ⟨fun w => absurd w (by decide), fun w => absurd w (by decide)⟩
  have hM41 : Fq me [] m tg F F39 := by rw [eF39]; exact Fq_x hM37 (Or.inl rfl)
  have c42 : NW m m30 tg30 F39 := by rw [eF39]; exact NW_u c38 ho31.2 (by decide)
  refine jx_rt (v := none) rfl rfl rfl rfl rfl rfl ?_
  have hC43 : HC 0 m30 tg30 ln30 F39 := by
    refine HC_fin hC40 (fun c_q q e hq h3 => ?_) ⟨fun w => ?_, fun w => ?_⟩
    · have ec : c_q = 9 := by rw [ho31.2] at e; omega
      subst ec
      have hq2 : q < 10 := hq
      have hq3 : q = 0 ∨ q = 1 ∨ q = 2 ∨ q = 3 ∨ q = 4 ∨ q = 5 ∨ q = 6 ∨ q = 7 ∨ q = 8 ∨ q = 9 := (by decide : ∀ k : Fin 10, k.1 = 0 ∨ k.1 = 1 ∨ k.1 = 2 ∨ k.1 = 3 ∨ k.1 = 4 ∨ k.1 = 5 ∨ k.1 = 6 ∨ k.1 = 7 ∨ k.1 = 8 ∨ k.1 = 9) ⟨q, hq2⟩
      rcases hq3 with rfl | rfl | rfl | rfl | rfl | rfl | rfl | rfl | rfl | rfl
      · exact absurd h3 (by decide)
      · exact absurd h3 (by decide)
      · exact absurd h3 (by decide)
      · rw [show F39 (me) ((3 : Nat) : Int) = n10 from (show F39 (me) (3 : Int) = n10 from by rw [(show F39 (me) (3 : Int) = F30 (me) (3 : Int) from by rw [eF39]; exact uF_j (by decide)), (show F30 (me) (3 : Int) = F26 (me) (3 : Int) from hf30 _ _ (ne_n ho20.1 en30)), (show F26 (me) (3 : Int) = F19 (me) (3 : Int) from by rw [eF26]; exact uF_j (by decide)), (show F19 (me) (3 : Int) = F15 (me) (3 : Int) from hf19 _ _ (ne_n ho11.1 en19)), (show F15 (me) (3 : Int) = n10 from by rw [eF15]; exact uF_e)])]; exact own_z ho32.1
      · rw [show F39 (me) ((4 : Nat) : Int) = n19 from ((show F39 (me) (4 : Int) = F30 (me) (4 : Int) from by rw [eF39]; exact uF_j (by decide)).trans ((show F30 (me) (4 : Int) = F26 (me) (4 : Int) from hf30 _ _ (ne_n ho20.1 en30)).trans (show F26 (me) (4 : Int) = n19 from by rw [eF26]; exact uF_e)))]; exact own_z ho33.1
      · exact absurd h3 (by decide)
      · rw [show F39 (me) ((6 : Nat) : Int) = n30 from (show F39 (me) (6 : Int) = n30 from by rw [eF39]; exact uF_e)]; exact own_z ho30.1
      · exact absurd h3 (by decide)
      · exact absurd h3 (by decide)
      · exact absurd h3 (by decide)
    · exact absurd (ho31.2.symm.trans w) (by decide)
    · exact absurd (ho31.2.symm.trans w) (by decide)
  have q44 : F39 (me) (0 : Int) = 0 := (show F39 (me) (0 : Int) = 0 from by rw [(show F39 (me) (0 : Int) = F30 (me) (0 : Int) from by rw [eF39]; exact uF_j (by decide)), (show F30 (me) (0 : Int) = F26 (me) (0 : Int) from hf30 _ _ (ne_n ho20.1 en30)), (show F26 (me) (0 : Int) = F19 (me) (0 : Int) from by rw [eF26]; exact uF_j (by decide)), (show F19 (me) (0 : Int) = F15 (me) (0 : Int) from hf19 _ _ (ne_n ho11.1 en19)), (show F15 (me) (0 : Int) = F10 (me) (0 : Int) from by rw [eF15]; exact uF_j (by decide)), (show F10 (me) (0 : Int) = F6 (me) (0 : Int) from hf10 _ _ (ne_n o_me en10)), (show F6 (me) (0 : Int) = F2 (me) (0 : Int) from by rw [eF6]; exact uF_j (by decide)), (show F2 (me) (0 : Int) = F (me) (0 : Int) from by rw [eF2]; exact uF_j (by decide)), (show F (me) (0 : Int) = 0 from z_me _)])
  have q45 : F39 (me) (5 : Int) = 0 := (show F39 (me) (5 : Int) = 0 from by rw [(show F39 (me) (5 : Int) = F30 (me) (5 : Int) from by rw [eF39]; exact uF_j (by decide)), (show F30 (me) (5 : Int) = F26 (me) (5 : Int) from hf30 _ _ (ne_n ho20.1 en30)), (show F26 (me) (5 : Int) = F19 (me) (5 : Int) from by rw [eF26]; exact uF_j (by decide)), (show F19 (me) (5 : Int) = F15 (me) (5 : Int) from hf19 _ _ (ne_n ho11.1 en19)), (show F15 (me) (5 : Int) = F10 (me) (5 : Int) from by rw [eF15]; exact uF_j (by decide)), (show F10 (me) (5 : Int) = F6 (me) (5 : Int) from hf10 _ _ (ne_n o_me en10)), (show F6 (me) (5 : Int) = F2 (me) (5 : Int) from by rw [eF6]; exact uF_j (by decide)), (show F2 (me) (5 : Int) = F (me) (5 : Int) from by rw [eF2]; exact uF_j (by decide)), (show F (me) (5 : Int) = 0 from z_me _)])
  have q46 : F39 (me) (7 : Int) = 0 := (show F39 (me) (7 : Int) = 0 from by rw [(show F39 (me) (7 : Int) = F30 (me) (7 : Int) from by rw [eF39]; exact uF_j (by decide)), (show F30 (me) (7 : Int) = F26 (me) (7 : Int) from hf30 _ _ (ne_n ho20.1 en30)), (show F26 (me) (7 : Int) = F19 (me) (7 : Int) from by rw [eF26]; exact uF_j (by decide)), (show F19 (me) (7 : Int) = F15 (me) (7 : Int) from hf19 _ _ (ne_n ho11.1 en19)), (show F15 (me) (7 : Int) = F10 (me) (7 : Int) from by rw [eF15]; exact uF_j (by decide)), (show F10 (me) (7 : Int) = F6 (me) (7 : Int) from hf10 _ _ (ne_n o_me en10)), (show F6 (me) (7 : Int) = F2 (me) (7 : Int) from by rw [eF6]; exact uF_j (by decide)), (show F2 (me) (7 : Int) = F (me) (7 : Int) from by rw [eF2]; exact uF_j (by decide)), (show F (me) (7 : Int) = 0 from z_me _)])
  have q47 : F39 (me) (8 : Int) = 0 := (show F39 (me) (8 : Int) = 0 from by rw [(show F39 (me) (8 : Int) = F30 (me) (8 : Int) from by rw [eF39]; exact uF_j (by decide)), (show F30 (me) (8 : Int) = F26 (me) (8 : Int) from hf30 _ _ (ne_n ho20.1 en30)), (show F26 (me) (8 : Int) = F19 (me) (8 : Int) from by rw [eF26]; exact uF_j (by decide)), (show F19 (me) (8 : Int) = F15 (me) (8 : Int) from hf19 _ _ (ne_n ho11.1 en19)), (show F15 (me) (8 : Int) = F10 (me) (8 : Int) from by rw [eF15]; exact uF_j (by decide)), (show F10 (me) (8 : Int) = F6 (me) (8 : Int) from hf10 _ _ (ne_n o_me en10)), (show F6 (me) (8 : Int) = F2 (me) (8 : Int) from by rw [eF6]; exact uF_j (by decide)), (show F2 (me) (8 : Int) = F (me) (8 : Int) from by rw [eF2]; exact uF_j (by decide)), (show F (me) (8 : Int) = 0 from z_me _)])
  have q48 : F39 (me) (9 : Int) = 0 := (show F39 (me) (9 : Int) = 0 from by rw [(show F39 (me) (9 : Int) = F30 (me) (9 : Int) from by rw [eF39]; exact uF_j (by decide)), (show F30 (me) (9 : Int) = F26 (me) (9 : Int) from hf30 _ _ (ne_n ho20.1 en30)), (show F26 (me) (9 : Int) = F19 (me) (9 : Int) from by rw [eF26]; exact uF_j (by decide)), (show F19 (me) (9 : Int) = F15 (me) (9 : Int) from hf19 _ _ (ne_n ho11.1 en19)), (show F15 (me) (9 : Int) = F10 (me) (9 : Int) from by rw [eF15]; exact uF_j (by decide)), (show F10 (me) (9 : Int) = F6 (me) (9 : Int) from hf10 _ _ (ne_n o_me en10)), (show F6 (me) (9 : Int) = F2 (me) (9 : Int) from by rw [eF6]; exact uF_j (by decide)), (show F2 (me) (9 : Int) = F (me) (9 : Int) from by rw [eF2]; exact uF_j (by decide)), (show F (me) (9 : Int) = 0 from z_me _)])
  have q49 : F39 (me) (3 : Int) = n10 := (show F39 (me) (3 : Int) = n10 from by rw [(show F39 (me) (3 : Int) = F30 (me) (3 : Int) from by rw [eF39]; exact uF_j (by decide)), (show F30 (me) (3 : Int) = F26 (me) (3 : Int) from hf30 _ _ (ne_n ho20.1 en30)), (show F26 (me) (3 : Int) = F19 (me) (3 : Int) from by rw [eF26]; exact uF_j (by decide)), (show F19 (me) (3 : Int) = F15 (me) (3 : Int) from hf19 _ _ (ne_n ho11.1 en19)), (show F15 (me) (3 : Int) = n10 from by rw [eF15]; exact uF_e)])
  exact ⟨m30, tg30, ln30, F39, rfl, rfl, hX36, hC43, hM41, by omega, by omega, by omega, by omega, by omega, by omega, by omega, fun i i0 => by rw [show F39 (me) (3 : Int) = n10 from q49, show F39 (n10) i = 0 from ((show F39 (n10) i = F30 (n10) i from by rw [eF39]; exact uF_a (ne_t ho32.2 ho31.2 (by decide))).trans ((show F30 (n10) i = F26 (n10) i from hf30 _ _ (ne_n ho21.1 en30)).trans ((show F26 (n10) i = F19 (n10) i from by rw [eF26]; exact uF_a (ne_t ho21.2 ho20.2 (by decide))).trans ((show F19 (n10) i = F15 (n10) i from hf19 _ _ (ne_n ho10.1 en19)).trans ((show F15 (n10) i = F10 (n10) i from by rw [eF15]; exact uF_a (ne_t ho10.2 ho11.2 (by decide))).trans (h010 i i0))))))], c42, trivial⟩
