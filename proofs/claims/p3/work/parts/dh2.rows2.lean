set_option maxRecDepth 20000 in
set_option maxHeartbeats 4000000 in
theorem k_LScanner_init {X : jX} {dd : Nat} {R : Nat → jC} {m : Nat} {tg ln : Int → Int} {F : Int → Int → Int} {me tx le : Int} (hd : 2 ≤ dd) (hC : HC me m tg ln F) (o_me : own m me) (t_me : tg me = 11) (o_tx : own m tx) (t_tx : tg tx = 20) (s_tx : F tx (-1) = 4) (h_le : (-2147483648 : Int) ≤ le ∧ le ≤ 2147483647) (z_me : ∀ i, F me i = 0) (p_0 : ln tx = 3000) (p_1 : 0 ≤ le) (p_2 : le ≤ 3000) : wk X dd 206 [rv me, rv tx, .int (i32 le)] (cV R m tg ln F) (fun o V_q => ∃ (m_q : Nat) (tg_q ln_q : Int → Int) (F_q : Int → Int → Int), V_q = cV R m_q tg_q ln_q F_q ∧ o = .inl none ∧ Ex m tg ln m_q tg_q ln_q ∧ HC 0 m_q tg_q ln_q F_q ∧ Fq me [] m tg F F_q ∧ (szD m_q tg_q ln_q = szD m tg ln + (5 * (le + 2))) ∧ ((m_q : Int) = (m : Int) + 5) ∧ (F_q me (8 : Int) = -1) ∧ (F_q me (7 : Int) = 0) ∧ (ln_q (F_q me (2 : Int)) = le + 1) ∧ (NW m m_q tg_q F_q) ∧ True) := by
  obtain ⟨d, rfl⟩ : ∃ d, dd = d + 1 := ⟨dd - 1, by omega⟩
  refine wk_of (e := jm206) rfl (by rw [jS_r, jS_r, jS_i, jS_0]; exact Nat.le_of_ble_eq_true rfl) ?_
  rw [la_r, la_r, la_i, la_0]
  show wj X d jm206 (0, [(0, rv (me)), (1, rv (tx)), (2, .int (i32 (le)))], [], cV R m tg ln F) _
  have hM0 : Fq me [] m tg F F := Fq_r
  have hX0 : Ex m tg ln m tg ln := Ex_r
  obtain ⟨L0, eL0⟩ : ∃ q : jL, q = [(0, rv (me)), (1, rv (tx)), (2, .int (i32 (le)))] := ⟨_, rfl⟩
  rw [← eL0]
  have g1 : jGet L0 0 = some (rv (me)) := eL0 ▸ (rfl : jGet [(0, rv (me)), (1, rv (tx)), (2, .int (i32 (le)))] 0 = some (rv (me)))
  have g2 : jGet L0 1 = some (rv (tx)) := eL0 ▸ (rfl : jGet [(0, rv (me)), (1, rv (tx)), (2, .int (i32 (le)))] 1 = some (rv (tx)))
  have g3 : jGet L0 2 = some (.int (i32 (le))) := eL0 ▸ (rfl : jGet [(0, rv (me)), (1, rv (tx)), (2, .int (i32 (le)))] 2 = some (.int (i32 (le))))
  clear eL0
  refine jx_ld (pc_q := 1) (l_q := L0) (st_q := [rv (me)]) rfl (jl_rvn g1) ?_
  refine cx_ob (pc_q := 4) rfl rfl o_me.1 (Nat.le_of_ble_eq_true rfl) rfl ?_
  refine jx_ld (pc_q := 5) (l_q := L0) (st_q := [rv (me)]) rfl (jl_rvn g1) ?_
  refine jx_ar (pc_q := 6) (st_q := [.int (i32 (-1)), rv (me)]) rfl rfl rfl rfl ?_
  refine cx_pi (pc_q := 9) (c := 10) (q := 8) (qi := (8 : Int)) (z := -1) rfl rfl (by decide) (by decide) rfl rfl rfl (by decide) rfl o_me t_me rfl ?_
  obtain ⟨F4, eF4⟩ : ∃ q, q = uF F (me) (8 : Int) (-1) := ⟨_, rfl⟩
  rw [← eF4]
  have hC5 : HC me m tg ln F4 := by rw [eF4]; exact HC_fi (c := 10) (q := 8) hC t_me (by decide) rfl (by omega) (by omega) ⟨fun _ => ⟨fun w1 w2 => absurd w2 (by omega), fun w => absurd w (by decide)⟩, fun w => absurd w (by decide)⟩
  have hM6 : Fq me [] m tg F F4 := by rw [eF4]; exact Fq_x hM0 (Or.inl rfl)
  have c7 : NW m m tg F4 := by rw [eF4]; exact NW_u NW_0 t_me (by decide)
  refine jx_ar (pc_q := 10) (st_q := [.int (i32 (0))]) rfl rfl rfl rfl ?_
  refine jx_ld (pc_q := 11) (l_q := L0) (st_q := [.int (i32 (le)), .int (i32 (0))]) rfl (jl_iloadn g3) ?_
  refine cx_st (st := []) (as := [.int (i32 (0)), .int (i32 (le))]) rfl rfl rfl ⟨rfl, (Nat.le_of_ble_eq_true rfl)⟩ rfl (k_java_lang_Math_max (dd := d) (R := R) (u := me) (m := m) (tg := tg) (ln := ln) (F := F4) (a := 0) (b := le) (hd := by omega) (hC := hC5) (h_a := by omega) (h_b := by omega)) (fun o V_q hq => ?_)
  obtain ⟨r8, rfl, rfl, b9, p10, p11, p12, -⟩ := hq
  refine Or.inr (Or.inl ⟨_, rfl, ?_⟩)
  have _k := p10
  have er : r8 = le := (by omega)
  clear _k p10 p11 p12
  refine jx_ar (pc_q := 15) (st_q := [.int (i32 (1)), .int (i32 (r8))]) rfl rfl rfl rfl ?_
  refine jx_add (pc_q := 16) rfl rfl ?_
  refine jx_ld (pc_q := 17) (l_q := jSto1 L0 3 (.int (i32 ((r8 + 1))))) (st_q := []) rfl rfl ?_
  obtain ⟨L13, eL13⟩ : ∃ q : jL, q = jSto1 L0 3 (.int (i32 ((r8 + 1)))) := ⟨_, rfl⟩
  rw [← eL13]
  have g14 : jGet L13 0 = some (rv (me)) := eL13 ▸ jg_nr (by decide) g1
  have g15 : jGet L13 1 = some (rv (tx)) := eL13 ▸ jg_nr (by decide) g2
  have g16 : jGet L13 2 = some (.int (i32 (le))) := eL13 ▸ jg_ne (by decide) g3 rfl
  have g17 : jGet L13 3 = some (.int (i32 ((r8 + 1)))) := eL13 ▸ jg_eq
  clear eL13
  refine jx_ld (pc_q := 18) (l_q := L13) (st_q := [rv (me)]) rfl (jl_rvn g14) ?_
  refine jx_ld (pc_q := 19) (l_q := L13) (st_q := [rv (tx), rv (me)]) rfl (jl_rvn g15) ?_
  refine cx_pa (pc_q := 22) (c := 10) (q := 0) (qi := (0 : Int)) (z := tx) rfl rfl (by decide) (by decide) rfl rfl rfl (by decide) rfl o_me t_me rfl ?_
  obtain ⟨F18, eF18⟩ : ∃ q, q = uF F4 (me) (0 : Int) (tx) := ⟨_, rfl⟩
  rw [← eF18]
  have hC19 : HC me m tg ln F18 := by rw [eF18]; exact HC_fn (c := 10) (q := 0) hC5 t_me (by decide) rfl ⟨o_tx, t_tx⟩ (fun _ => by omega) (fun _ => ((show F4 (tx) ((-1) : Int) = F (tx) ((-1) : Int) from by rw [eF4]; exact uF_j (by decide)).trans s_tx)) ⟨fun _ => ⟨fun w1 w2 => absurd w1 (by omega), fun w => absurd w (by decide)⟩, fun w => absurd w (by decide)⟩
  have hM20 : Fq me [] m tg F F18 := by rw [eF18]; exact Fq_x hM6 (Or.inl rfl)
  have c21 : NW m m tg F18 := by rw [eF18]; exact NW_u c7 t_me (by decide)
  refine jx_ld (pc_q := 23) (l_q := L13) (st_q := [rv (me)]) rfl (jl_rvn g14) ?_
  refine jx_ld (pc_q := 24) (l_q := L13) (st_q := [.int (i32 (le)), rv (me)]) rfl (jl_iloadn g16) ?_
  refine cx_pi (pc_q := 27) (c := 10) (q := 1) (qi := (1 : Int)) (z := le) rfl rfl (by decide) (by decide) rfl rfl rfl (by decide) rfl o_me t_me rfl ?_
  obtain ⟨F22, eF22⟩ : ∃ q, q = uF F18 (me) (1 : Int) (le) := ⟨_, rfl⟩
  rw [← eF22]
  have hC23 : HC me m tg ln F22 := by rw [eF22]; exact HC_fi (c := 10) (q := 1) hC19 t_me (by decide) rfl (by omega) (by omega) ⟨fun _ => ⟨fun w1 w2 => absurd w1 (by omega), fun w => absurd w (by decide)⟩, fun w => absurd w (by decide)⟩
  have hM24 : Fq me [] m tg F F22 := by rw [eF22]; exact Fq_x hM20 (Or.inl rfl)
  have c25 : NW m m tg F22 := by rw [eF22]; exact NW_u c21 t_me (by decide)
  refine jx_ld (pc_q := 28) (l_q := L13) (st_q := [rv (me)]) rfl (jl_rvn g14) ?_
  refine jx_ld (pc_q := 29) (l_q := L13) (st_q := [.int (i32 ((r8 + 1))), rv (me)]) rfl (jl_iloadn g17) ?_
  refine cx_nai (pc_q := 31) (kd := 0) (z := (r8 + 1)) rfl (by decide) rfl hC23.1 (by omega) (by omega) ?_
  refine HC_row (g := 0) (z := (r8 + 1)) (t := 20) hC23 (by decide) (by decide) (by omega) (by omega) (fun n26 m26 tg26 ln26 F26 en26 em26 ho26 hl26 hx26 hC26 hf26 h026 hg26 hs26 => ?_)
  have ex26 : 64 + (m : Int) ≤ n26 := by have := hX0.1; omega
  have ho27 : own m26 (me) ∧ tg26 (me) = 11 := Ex_o hx26 ⟨o_me, t_me⟩
  have ho28 : own m26 (tx) ∧ tg26 (tx) = 20 := Ex_o hx26 ⟨o_tx, t_tx⟩
  have ln29 : ln26 (tx) = 3000 := (hx26.2 _ o_tx).2.trans p_0
  have hX30 := Ex_t hX0 hx26
  have hM31 : Fq me [] m tg F F26 := Fq_n hM24 hf26 ex26
  have c32 : NW m m26 tg26 F26 := NW_n c25 hC23.1 hx26 en26 em26 hf26 ho26.2 (by decide) h026
  refine cx_pa (pc_q := 34) (c := 10) (q := 2) (qi := (2 : Int)) (z := n26) rfl rfl (by decide) (by decide) rfl rfl rfl (by decide) rfl ho27.1 ho27.2 rfl ?_
  obtain ⟨F33, eF33⟩ : ∃ q, q = uF F26 (me) (2 : Int) (n26) := ⟨_, rfl⟩
  rw [← eF33]
  have hC34 : HC me m26 tg26 ln26 F33 := by rw [eF33]; exact HC_fn (c := 10) (q := 2) hC26 ho27.2 (by decide) rfl ⟨ho26.1, ho26.2⟩ (fun _ => by omega) (fun _ => hg26) ⟨fun _ => ⟨fun _ _ => rfl, fun w => absurd w (by decide)⟩, fun w => absurd w (by decide)⟩
  have hM35 : Fq me [] m tg F F33 := by rw [eF33]; exact Fq_x hM31 (Or.inl rfl)
  have c36 : NW m m26 tg26 F33 := by rw [eF33]; exact NW_u c32 ho27.2 (by decide)
  refine jx_ld (pc_q := 35) (l_q := L13) (st_q := [rv (me)]) rfl (jl_rvn g14) ?_
  refine jx_ld (pc_q := 36) (l_q := L13) (st_q := [.int (i32 ((r8 + 1))), rv (me)]) rfl (jl_iloadn g17) ?_
  refine cx_nai (pc_q := 38) (kd := 1) (z := (r8 + 1)) rfl (by decide) rfl hC34.1 (by omega) (by omega) ?_
  refine HC_row (g := 0) (z := (r8 + 1)) (t := 21) hC34 (by decide) (by decide) (by omega) (by omega) (fun n37 m37 tg37 ln37 F37 en37 em37 ho37 hl37 hx37 hC37 hf37 h037 hg37 hs37 => ?_)
  have ex37 : 64 + (m : Int) ≤ n37 := by have := hX30.1; omega
  have ho38 : own m37 (me) ∧ tg37 (me) = 11 := Ex_o hx37 ⟨ho27.1, ho27.2⟩
  have ho39 : own m37 (tx) ∧ tg37 (tx) = 20 := Ex_o hx37 ⟨ho28.1, ho28.2⟩
  have ho40 : own m37 (n26) ∧ tg37 (n26) = 20 := Ex_o hx37 ⟨ho26.1, ho26.2⟩
  have ln41 : ln37 (tx) = 3000 := (hx37.2 _ ho28.1).2.trans ln29
  clear ln29
  have ln42 : ln37 (n26) = (r8 + 1) := (hx37.2 _ ho26.1).2.trans hl26
  clear hl26
  have hX43 := Ex_t hX30 hx37
  have hM44 : Fq me [] m tg F F37 := Fq_n hM35 hf37 ex37
  have c45 : NW m m37 tg37 F37 := NW_n c36 hC34.1 hx37 en37 em37 hf37 ho37.2 (by decide) h037
  refine cx_pa (pc_q := 41) (c := 10) (q := 3) (qi := (3 : Int)) (z := n37) rfl rfl (by decide) (by decide) rfl rfl rfl (by decide) rfl ho38.1 ho38.2 rfl ?_
  obtain ⟨F46, eF46⟩ : ∃ q, q = uF F37 (me) (3 : Int) (n37) := ⟨_, rfl⟩
  rw [← eF46]
  have hC47 : HC me m37 tg37 ln37 F46 := by rw [eF46]; exact HC_fn (c := 10) (q := 3) hC37 ho38.2 (by decide) rfl ⟨ho37.1, ho37.2⟩ (fun _ => by omega) (fun _ => hg37) ⟨fun _ => ⟨fun _ _ => rfl, fun w => absurd w (by decide)⟩, fun w => absurd w (by decide)⟩
  have hM48 : Fq me [] m tg F F46 := by rw [eF46]; exact Fq_x hM44 (Or.inl rfl)
  have c49 : NW m m37 tg37 F46 := by rw [eF46]; exact NW_u c45 ho38.2 (by decide)
  refine jx_ld (pc_q := 42) (l_q := L13) (st_q := [rv (me)]) rfl (jl_rvn g14) ?_
  refine jx_ld (pc_q := 43) (l_q := L13) (st_q := [.int (i32 ((r8 + 1))), rv (me)]) rfl (jl_iloadn g17) ?_
  refine cx_nal (pc_q := 45) (z := (r8 + 1)) rfl rfl hC47.1 (by omega) (by omega) ?_
  refine HC_row (g := 0) (z := (r8 + 1)) (t := 22) hC47 (by decide) (by decide) (by omega) (by omega) (fun n50 m50 tg50 ln50 F50 en50 em50 ho50 hl50 hx50 hC50 hf50 h050 hg50 hs50 => ?_)
  have ex50 : 64 + (m : Int) ≤ n50 := by have := hX43.1; omega
  have ho51 : own m50 (me) ∧ tg50 (me) = 11 := Ex_o hx50 ⟨ho38.1, ho38.2⟩
  have ho52 : own m50 (tx) ∧ tg50 (tx) = 20 := Ex_o hx50 ⟨ho39.1, ho39.2⟩
  have ho53 : own m50 (n26) ∧ tg50 (n26) = 20 := Ex_o hx50 ⟨ho40.1, ho40.2⟩
  have ho54 : own m50 (n37) ∧ tg50 (n37) = 21 := Ex_o hx50 ⟨ho37.1, ho37.2⟩
  have ln55 : ln50 (tx) = 3000 := (hx50.2 _ ho39.1).2.trans ln41
  clear ln41
  have ln56 : ln50 (n26) = (r8 + 1) := (hx50.2 _ ho40.1).2.trans ln42
  clear ln42
  have ln57 : ln50 (n37) = (r8 + 1) := (hx50.2 _ ho37.1).2.trans hl37
  clear hl37
  have hX58 := Ex_t hX43 hx50
  have hM59 : Fq me [] m tg F F50 := Fq_n hM48 hf50 ex50
  have c60 : NW m m50 tg50 F50 := NW_n c49 hC47.1 hx50 en50 em50 hf50 ho50.2 (by decide) h050
  refine cx_pa (pc_q := 48) (c := 10) (q := 4) (qi := (4 : Int)) (z := n50) rfl rfl (by decide) (by decide) rfl rfl rfl (by decide) rfl ho51.1 ho51.2 rfl ?_
  obtain ⟨F61, eF61⟩ : ∃ q, q = uF F50 (me) (4 : Int) (n50) := ⟨_, rfl⟩
  rw [← eF61]
  have hC62 : HC me m50 tg50 ln50 F61 := by rw [eF61]; exact HC_fn (c := 10) (q := 4) hC50 ho51.2 (by decide) rfl ⟨ho50.1, ho50.2⟩ (fun _ => by omega) (fun _ => hg50) ⟨fun _ => ⟨fun _ _ => rfl, fun w => absurd w (by decide)⟩, fun w => absurd w (by decide)⟩
  have hM63 : Fq me [] m tg F F61 := by rw [eF61]; exact Fq_x hM59 (Or.inl rfl)
  have c64 : NW m m50 tg50 F61 := by rw [eF61]; exact NW_u c60 ho51.2 (by decide)
  refine jx_ld (pc_q := 49) (l_q := L13) (st_q := [rv (me)]) rfl (jl_rvn g14) ?_
  refine jx_ld (pc_q := 50) (l_q := L13) (st_q := [.int (i32 ((r8 + 1))), rv (me)]) rfl (jl_iloadn g17) ?_
  refine cx_nai (pc_q := 52) (kd := 1) (z := (r8 + 1)) rfl (by decide) rfl hC62.1 (by omega) (by omega) ?_
  refine HC_row (g := 0) (z := (r8 + 1)) (t := 21) hC62 (by decide) (by decide) (by omega) (by omega) (fun n65 m65 tg65 ln65 F65 en65 em65 ho65 hl65 hx65 hC65 hf65 h065 hg65 hs65 => ?_)
  have ex65 : 64 + (m : Int) ≤ n65 := by have := hX58.1; omega
  have ho66 : own m65 (me) ∧ tg65 (me) = 11 := Ex_o hx65 ⟨ho51.1, ho51.2⟩
  have ho67 : own m65 (tx) ∧ tg65 (tx) = 20 := Ex_o hx65 ⟨ho52.1, ho52.2⟩
  have ho68 : own m65 (n26) ∧ tg65 (n26) = 20 := Ex_o hx65 ⟨ho53.1, ho53.2⟩
  have ho69 : own m65 (n37) ∧ tg65 (n37) = 21 := Ex_o hx65 ⟨ho54.1, ho54.2⟩
  have ho70 : own m65 (n50) ∧ tg65 (n50) = 22 := Ex_o hx65 ⟨ho50.1, ho50.2⟩
  have ln71 : ln65 (tx) = 3000 := (hx65.2 _ ho52.1).2.trans ln55
  clear ln55
  have ln72 : ln65 (n26) = (r8 + 1) := (hx65.2 _ ho53.1).2.trans ln56
  clear ln56
  have ln73 : ln65 (n37) = (r8 + 1) := (hx65.2 _ ho54.1).2.trans ln57
  clear ln57
  have ln74 : ln65 (n50) = (r8 + 1) := (hx65.2 _ ho50.1).2.trans hl50
  clear hl50
  have hX75 := Ex_t hX58 hx65
  have hM76 : Fq me [] m tg F F65 := Fq_n hM63 hf65 ex65
  have c77 : NW m m65 tg65 F65 := NW_n c64 hC62.1 hx65 en65 em65 hf65 ho65.2 (by decide) h065
  refine cx_pa (pc_q := 55) (c := 10) (q := 5) (qi := (5 : Int)) (z := n65) rfl rfl (by decide) (by decide) rfl rfl rfl (by decide) rfl ho66.1 ho66.2 rfl ?_
  obtain ⟨F78, eF78⟩ : ∃ q, q = uF F65 (me) (5 : Int) (n65) := ⟨_, rfl⟩
  rw [← eF78]
  have hC79 : HC me m65 tg65 ln65 F78 := by rw [eF78]; exact HC_fn (c := 10) (q := 5) hC65 ho66.2 (by decide) rfl ⟨ho65.1, ho65.2⟩ (fun _ => by omega) (fun _ => hg65) ⟨fun _ => ⟨fun _ _ => rfl, fun w => absurd w (by decide)⟩, fun w => absurd w (by decide)⟩
  have hM80 : Fq me [] m tg F F78 := by rw [eF78]; exact Fq_x hM76 (Or.inl rfl)
  have c81 : NW m m65 tg65 F78 := by rw [eF78]; exact NW_u c77 ho66.2 (by decide)
  refine jx_ld (pc_q := 56) (l_q := L13) (st_q := [rv (me)]) rfl (jl_rvn g14) ?_
  refine jx_ld (pc_q := 57) (l_q := L13) (st_q := [.int (i32 ((r8 + 1))), rv (me)]) rfl (jl_iloadn g17) ?_
  refine cx_nai (pc_q := 59) (kd := 0) (z := (r8 + 1)) rfl (by decide) rfl hC79.1 (by omega) (by omega) ?_
  refine HC_row (g := 1) (z := (r8 + 1)) (t := 20) hC79 (by decide) (by decide) (by omega) (by omega) (fun n82 m82 tg82 ln82 F82 en82 em82 ho82 hl82 hx82 hC82 hf82 h082 hg82 hs82 => ?_)
  have ex82 : 64 + (m : Int) ≤ n82 := by have := hX75.1; omega
  have ho83 : own m82 (me) ∧ tg82 (me) = 11 := Ex_o hx82 ⟨ho66.1, ho66.2⟩
  have ho84 : own m82 (tx) ∧ tg82 (tx) = 20 := Ex_o hx82 ⟨ho67.1, ho67.2⟩
  have ho85 : own m82 (n26) ∧ tg82 (n26) = 20 := Ex_o hx82 ⟨ho68.1, ho68.2⟩
  have ho86 : own m82 (n37) ∧ tg82 (n37) = 21 := Ex_o hx82 ⟨ho69.1, ho69.2⟩
  have ho87 : own m82 (n50) ∧ tg82 (n50) = 22 := Ex_o hx82 ⟨ho70.1, ho70.2⟩
  have ho88 : own m82 (n65) ∧ tg82 (n65) = 21 := Ex_o hx82 ⟨ho65.1, ho65.2⟩
  have ln89 : ln82 (tx) = 3000 := (hx82.2 _ ho67.1).2.trans ln71
  clear ln71
  have ln90 : ln82 (n26) = (r8 + 1) := (hx82.2 _ ho68.1).2.trans ln72
  clear ln72
  have ln91 : ln82 (n37) = (r8 + 1) := (hx82.2 _ ho69.1).2.trans ln73
  clear ln73
  have ln92 : ln82 (n50) = (r8 + 1) := (hx82.2 _ ho70.1).2.trans ln74
  clear ln74
  have ln93 : ln82 (n65) = (r8 + 1) := (hx82.2 _ ho65.1).2.trans hl65
  clear hl65
  have hX94 := Ex_t hX75 hx82
  have hM95 : Fq me [] m tg F F82 := Fq_n hM80 hf82 ex82
  have c96 : NW m m82 tg82 F82 := NW_n c81 hC79.1 hx82 en82 em82 hf82 ho82.2 (by decide) h082
  refine cx_pa (pc_q := 62) (c := 10) (q := 6) (qi := (6 : Int)) (z := n82) rfl rfl (by decide) (by decide) rfl rfl rfl (by decide) rfl ho83.1 ho83.2 rfl ?_
  obtain ⟨F97, eF97⟩ : ∃ q, q = uF F82 (me) (6 : Int) (n82) := ⟨_, rfl⟩
  rw [← eF97]
  have hC98 : HC me m82 tg82 ln82 F97 := by rw [eF97]; exact HC_fn (c := 10) (q := 6) hC82 ho83.2 (by decide) rfl ⟨ho82.1, ho82.2⟩ (fun _ => by omega) (fun _ => hg82) ⟨fun _ => ⟨fun _ _ => rfl, fun w => absurd w (by decide)⟩, fun w => absurd w (by decide)⟩
  have hM99 : Fq me [] m tg F F97 := by rw [eF97]; exact Fq_x hM95 (Or.inl rfl)
  have c100 : NW m m82 tg82 F97 := by rw [eF97]; exact NW_u c96 ho83.2 (by decide)
  refine jx_rt (v := none) rfl rfl rfl rfl rfl rfl ?_
  have hC101 : HC 0 m82 tg82 ln82 F97 := by
    refine HC_fin hC98 (fun c_q q e hq h3 => ?_) ⟨fun w => ?_, fun w => ?_⟩
    · have ec : c_q = 10 := by rw [ho83.2] at e; omega
      subst ec
      have hq2 : q < 19 := hq
      have hq3 : q = 0 ∨ q = 1 ∨ q = 2 ∨ q = 3 ∨ q = 4 ∨ q = 5 ∨ q = 6 ∨ q = 7 ∨ q = 8 ∨ q = 9 ∨ q = 10 ∨ q = 11 ∨ q = 12 ∨ q = 13 ∨ q = 14 ∨ q = 15 ∨ q = 16 ∨ q = 17 ∨ q = 18 := (by decide : ∀ k : Fin 19, k.1 = 0 ∨ k.1 = 1 ∨ k.1 = 2 ∨ k.1 = 3 ∨ k.1 = 4 ∨ k.1 = 5 ∨ k.1 = 6 ∨ k.1 = 7 ∨ k.1 = 8 ∨ k.1 = 9 ∨ k.1 = 10 ∨ k.1 = 11 ∨ k.1 = 12 ∨ k.1 = 13 ∨ k.1 = 14 ∨ k.1 = 15 ∨ k.1 = 16 ∨ k.1 = 17 ∨ k.1 = 18) ⟨q, hq2⟩
      rcases hq3 with rfl | rfl | rfl | rfl | rfl | rfl | rfl | rfl | rfl | rfl | rfl | rfl | rfl | rfl | rfl | rfl | rfl | rfl | rfl
      · rw [show F97 (me) ((0 : Nat) : Int) = tx from (show F97 (me) (0 : Int) = tx from by rw [(show F97 (me) (0 : Int) = F82 (me) (0 : Int) from by rw [eF97]; exact uF_j (by decide)), (show F82 (me) (0 : Int) = F78 (me) (0 : Int) from hf82 _ _ (ne_n ho66.1 en82)), (show F78 (me) (0 : Int) = F65 (me) (0 : Int) from by rw [eF78]; exact uF_j (by decide)), (show F65 (me) (0 : Int) = F61 (me) (0 : Int) from hf65 _ _ (ne_n ho51.1 en65)), (show F61 (me) (0 : Int) = F50 (me) (0 : Int) from by rw [eF61]; exact uF_j (by decide)), (show F50 (me) (0 : Int) = F46 (me) (0 : Int) from hf50 _ _ (ne_n ho38.1 en50)), (show F46 (me) (0 : Int) = F37 (me) (0 : Int) from by rw [eF46]; exact uF_j (by decide)), (show F37 (me) (0 : Int) = F33 (me) (0 : Int) from hf37 _ _ (ne_n ho27.1 en37)), (show F33 (me) (0 : Int) = F26 (me) (0 : Int) from by rw [eF33]; exact uF_j (by decide)), (show F26 (me) (0 : Int) = F22 (me) (0 : Int) from hf26 _ _ (ne_n o_me en26)), (show F22 (me) (0 : Int) = F18 (me) (0 : Int) from by rw [eF22]; exact uF_j (by decide)), (show F18 (me) (0 : Int) = tx from by rw [eF18]; exact uF_e)])]; exact own_z ho84.1
      · exact absurd h3 (by decide)
      · rw [show F97 (me) ((2 : Nat) : Int) = n26 from (show F97 (me) (2 : Int) = n26 from by rw [(show F97 (me) (2 : Int) = F82 (me) (2 : Int) from by rw [eF97]; exact uF_j (by decide)), (show F82 (me) (2 : Int) = F78 (me) (2 : Int) from hf82 _ _ (ne_n ho66.1 en82)), (show F78 (me) (2 : Int) = F65 (me) (2 : Int) from by rw [eF78]; exact uF_j (by decide)), (show F65 (me) (2 : Int) = F61 (me) (2 : Int) from hf65 _ _ (ne_n ho51.1 en65)), (show F61 (me) (2 : Int) = F50 (me) (2 : Int) from by rw [eF61]; exact uF_j (by decide)), (show F50 (me) (2 : Int) = F46 (me) (2 : Int) from hf50 _ _ (ne_n ho38.1 en50)), (show F46 (me) (2 : Int) = F37 (me) (2 : Int) from by rw [eF46]; exact uF_j (by decide)), (show F37 (me) (2 : Int) = F33 (me) (2 : Int) from hf37 _ _ (ne_n ho27.1 en37)), (show F33 (me) (2 : Int) = n26 from by rw [eF33]; exact uF_e)])]; exact own_z ho85.1
      · rw [show F97 (me) ((3 : Nat) : Int) = n37 from (show F97 (me) (3 : Int) = n37 from by rw [(show F97 (me) (3 : Int) = F82 (me) (3 : Int) from by rw [eF97]; exact uF_j (by decide)), (show F82 (me) (3 : Int) = F78 (me) (3 : Int) from hf82 _ _ (ne_n ho66.1 en82)), (show F78 (me) (3 : Int) = F65 (me) (3 : Int) from by rw [eF78]; exact uF_j (by decide)), (show F65 (me) (3 : Int) = F61 (me) (3 : Int) from hf65 _ _ (ne_n ho51.1 en65)), (show F61 (me) (3 : Int) = F50 (me) (3 : Int) from by rw [eF61]; exact uF_j (by decide)), (show F50 (me) (3 : Int) = F46 (me) (3 : Int) from hf50 _ _ (ne_n ho38.1 en50)), (show F46 (me) (3 : Int) = n37 from by rw [eF46]; exact uF_e)])]; exact own_z ho86.1
      · rw [show F97 (me) ((4 : Nat) : Int) = n50 from (show F97 (me) (4 : Int) = n50 from by rw [(show F97 (me) (4 : Int) = F82 (me) (4 : Int) from by rw [eF97]; exact uF_j (by decide)), (show F82 (me) (4 : Int) = F78 (me) (4 : Int) from hf82 _ _ (ne_n ho66.1 en82)), (show F78 (me) (4 : Int) = F65 (me) (4 : Int) from by rw [eF78]; exact uF_j (by decide)), (show F65 (me) (4 : Int) = F61 (me) (4 : Int) from hf65 _ _ (ne_n ho51.1 en65)), (show F61 (me) (4 : Int) = n50 from by rw [eF61]; exact uF_e)])]; exact own_z ho87.1
      · rw [show F97 (me) ((5 : Nat) : Int) = n65 from ((show F97 (me) (5 : Int) = F82 (me) (5 : Int) from by rw [eF97]; exact uF_j (by decide)).trans ((show F82 (me) (5 : Int) = F78 (me) (5 : Int) from hf82 _ _ (ne_n ho66.1 en82)).trans (show F78 (me) (5 : Int) = n65 from by rw [eF78]; exact uF_e)))]; exact own_z ho88.1
      · rw [show F97 (me) ((6 : Nat) : Int) = n82 from (show F97 (me) (6 : Int) = n82 from by rw [eF97]; exact uF_e)]; exact own_z ho82.1
      · exact absurd h3 (by decide)
      · exact absurd h3 (by decide)
      · exact absurd h3 (by decide)
      · exact absurd h3 (by decide)
      · exact absurd h3 (by decide)
      · exact absurd h3 (by decide)
      · exact absurd h3 (by decide)
      · exact absurd h3 (by decide)
      · exact absurd h3 (by decide)
      · exact absurd h3 (by decide)
      · exact absurd h3 (by decide)
      · exact absurd h3 (by decide)
    · rw [show F97 (me) (2 : Int) = n26 from (show F97 (me) (2 : Int) = n26 from by rw [(show F97 (me) (2 : Int) = F82 (me) (2 : Int) from by rw [eF97]; exact uF_j (by decide)), (show F82 (me) (2 : Int) = F78 (me) (2 : Int) from hf82 _ _ (ne_n ho66.1 en82)), (show F78 (me) (2 : Int) = F65 (me) (2 : Int) from by rw [eF78]; exact uF_j (by decide)), (show F65 (me) (2 : Int) = F61 (me) (2 : Int) from hf65 _ _ (ne_n ho51.1 en65)), (show F61 (me) (2 : Int) = F50 (me) (2 : Int) from by rw [eF61]; exact uF_j (by decide)), (show F50 (me) (2 : Int) = F46 (me) (2 : Int) from hf50 _ _ (ne_n ho38.1 en50)), (show F46 (me) (2 : Int) = F37 (me) (2 : Int) from by rw [eF46]; exact uF_j (by decide)), (show F37 (me) (2 : Int) = F33 (me) (2 : Int) from hf37 _ _ (ne_n ho27.1 en37)), (show F33 (me) (2 : Int) = n26 from by rw [eF33]; exact uF_e)]), show F97 (me) (3 : Int) = n37 from (show F97 (me) (3 : Int) = n37 from by rw [(show F97 (me) (3 : Int) = F82 (me) (3 : Int) from by rw [eF97]; exact uF_j (by decide)), (show F82 (me) (3 : Int) = F78 (me) (3 : Int) from hf82 _ _ (ne_n ho66.1 en82)), (show F78 (me) (3 : Int) = F65 (me) (3 : Int) from by rw [eF78]; exact uF_j (by decide)), (show F65 (me) (3 : Int) = F61 (me) (3 : Int) from hf65 _ _ (ne_n ho51.1 en65)), (show F61 (me) (3 : Int) = F50 (me) (3 : Int) from by rw [eF61]; exact uF_j (by decide)), (show F50 (me) (3 : Int) = F46 (me) (3 : Int) from hf50 _ _ (ne_n ho38.1 en50)), (show F46 (me) (3 : Int) = n37 from by rw [eF46]; exact uF_e)]), show F97 (me) (4 : Int) = n50 from (show F97 (me) (4 : Int) = n50 from by rw [(show F97 (me) (4 : Int) = F82 (me) (4 : Int) from by rw [eF97]; exact uF_j (by decide)), (show F82 (me) (4 : Int) = F78 (me) (4 : Int) from hf82 _ _ (ne_n ho66.1 en82)), (show F78 (me) (4 : Int) = F65 (me) (4 : Int) from by rw [eF78]; exact uF_j (by decide)), (show F65 (me) (4 : Int) = F61 (me) (4 : Int) from hf65 _ _ (ne_n ho51.1 en65)), (show F61 (me) (4 : Int) = n50 from by rw [eF61]; exact uF_e)]), show F97 (me) (5 : Int) = n65 from ((show F97 (me) (5 : Int) = F82 (me) (5 : Int) from by rw [eF97]; exact uF_j (by decide)).trans ((show F82 (me) (5 : Int) = F78 (me) (5 : Int) from hf82 _ _ (ne_n ho66.1 en82)).trans (show F78 (me) (5 : Int) = n65 from by rw [eF78]; exact uF_e))), show F97 (me) (6 : Int) = n82 from (show F97 (me) (6 : Int) = n82 from by rw [eF97]; exact uF_e), show F97 (me) (7 : Int) = 0 from (show F97 (me) (7 : Int) = 0 from by rw [(show F97 (me) (7 : Int) = F82 (me) (7 : Int) from by rw [eF97]; exact uF_j (by decide)), (show F82 (me) (7 : Int) = F78 (me) (7 : Int) from hf82 _ _ (ne_n ho66.1 en82)), (show F78 (me) (7 : Int) = F65 (me) (7 : Int) from by rw [eF78]; exact uF_j (by decide)), (show F65 (me) (7 : Int) = F61 (me) (7 : Int) from hf65 _ _ (ne_n ho51.1 en65)), (show F61 (me) (7 : Int) = F50 (me) (7 : Int) from by rw [eF61]; exact uF_j (by decide)), (show F50 (me) (7 : Int) = F46 (me) (7 : Int) from hf50 _ _ (ne_n ho38.1 en50)), (show F46 (me) (7 : Int) = F37 (me) (7 : Int) from by rw [eF46]; exact uF_j (by decide)), (show F37 (me) (7 : Int) = F33 (me) (7 : Int) from hf37 _ _ (ne_n ho27.1 en37)), (show F33 (me) (7 : Int) = F26 (me) (7 : Int) from by rw [eF33]; exact uF_j (by decide)), (show F26 (me) (7 : Int) = F22 (me) (7 : Int) from hf26 _ _ (ne_n o_me en26)), (show F22 (me) (7 : Int) = F18 (me) (7 : Int) from by rw [eF22]; exact uF_j (by decide)), (show F18 (me) (7 : Int) = F4 (me) (7 : Int) from by rw [eF18]; exact uF_j (by decide)), (show F4 (me) (7 : Int) = F (me) (7 : Int) from by rw [eF4]; exact uF_j (by decide)), (show F (me) (7 : Int) = 0 from z_me _)])]; exact ⟨by omega, by omega, by omega, by omega, by omega⟩
    · exact absurd (ho83.2.symm.trans w) (by decide)
  have q102 : F97 (me) (8 : Int) = -1 := (show F97 (me) (8 : Int) = -1 from by rw [(show F97 (me) (8 : Int) = F82 (me) (8 : Int) from by rw [eF97]; exact uF_j (by decide)), (show F82 (me) (8 : Int) = F78 (me) (8 : Int) from hf82 _ _ (ne_n ho66.1 en82)), (show F78 (me) (8 : Int) = F65 (me) (8 : Int) from by rw [eF78]; exact uF_j (by decide)), (show F65 (me) (8 : Int) = F61 (me) (8 : Int) from hf65 _ _ (ne_n ho51.1 en65)), (show F61 (me) (8 : Int) = F50 (me) (8 : Int) from by rw [eF61]; exact uF_j (by decide)), (show F50 (me) (8 : Int) = F46 (me) (8 : Int) from hf50 _ _ (ne_n ho38.1 en50)), (show F46 (me) (8 : Int) = F37 (me) (8 : Int) from by rw [eF46]; exact uF_j (by decide)), (show F37 (me) (8 : Int) = F33 (me) (8 : Int) from hf37 _ _ (ne_n ho27.1 en37)), (show F33 (me) (8 : Int) = F26 (me) (8 : Int) from by rw [eF33]; exact uF_j (by decide)), (show F26 (me) (8 : Int) = F22 (me) (8 : Int) from hf26 _ _ (ne_n o_me en26)), (show F22 (me) (8 : Int) = F18 (me) (8 : Int) from by rw [eF22]; exact uF_j (by decide)), (show F18 (me) (8 : Int) = F4 (me) (8 : Int) from by rw [eF18]; exact uF_j (by decide)), (show F4 (me) (8 : Int) = -1 from by rw [eF4]; exact uF_e)])
  have q103 : F97 (me) (7 : Int) = 0 := (show F97 (me) (7 : Int) = 0 from by rw [(show F97 (me) (7 : Int) = F82 (me) (7 : Int) from by rw [eF97]; exact uF_j (by decide)), (show F82 (me) (7 : Int) = F78 (me) (7 : Int) from hf82 _ _ (ne_n ho66.1 en82)), (show F78 (me) (7 : Int) = F65 (me) (7 : Int) from by rw [eF78]; exact uF_j (by decide)), (show F65 (me) (7 : Int) = F61 (me) (7 : Int) from hf65 _ _ (ne_n ho51.1 en65)), (show F61 (me) (7 : Int) = F50 (me) (7 : Int) from by rw [eF61]; exact uF_j (by decide)), (show F50 (me) (7 : Int) = F46 (me) (7 : Int) from hf50 _ _ (ne_n ho38.1 en50)), (show F46 (me) (7 : Int) = F37 (me) (7 : Int) from by rw [eF46]; exact uF_j (by decide)), (show F37 (me) (7 : Int) = F33 (me) (7 : Int) from hf37 _ _ (ne_n ho27.1 en37)), (show F33 (me) (7 : Int) = F26 (me) (7 : Int) from by rw [eF33]; exact uF_j (by decide)), (show F26 (me) (7 : Int) = F22 (me) (7 : Int) from hf26 _ _ (ne_n o_me en26)), (show F22 (me) (7 : Int) = F18 (me) (7 : Int) from by rw [eF22]; exact uF_j (by decide)), (show F18 (me) (7 : Int) = F4 (me) (7 : Int) from by rw [eF18]; exact uF_j (by decide)), (show F4 (me) (7 : Int) = F (me) (7 : Int) from by rw [eF4]; exact uF_j (by decide)), (show F (me) (7 : Int) = 0 from z_me _)])
  have q104 : F97 (me) (2 : Int) = n26 := (show F97 (me) (2 : Int) = n26 from by rw [(show F97 (me) (2 : Int) = F82 (me) (2 : Int) from by rw [eF97]; exact uF_j (by decide)), (show F82 (me) (2 : Int) = F78 (me) (2 : Int) from hf82 _ _ (ne_n ho66.1 en82)), (show F78 (me) (2 : Int) = F65 (me) (2 : Int) from by rw [eF78]; exact uF_j (by decide)), (show F65 (me) (2 : Int) = F61 (me) (2 : Int) from hf65 _ _ (ne_n ho51.1 en65)), (show F61 (me) (2 : Int) = F50 (me) (2 : Int) from by rw [eF61]; exact uF_j (by decide)), (show F50 (me) (2 : Int) = F46 (me) (2 : Int) from hf50 _ _ (ne_n ho38.1 en50)), (show F46 (me) (2 : Int) = F37 (me) (2 : Int) from by rw [eF46]; exact uF_j (by decide)), (show F37 (me) (2 : Int) = F33 (me) (2 : Int) from hf37 _ _ (ne_n ho27.1 en37)), (show F33 (me) (2 : Int) = n26 from by rw [eF33]; exact uF_e)])
  exact ⟨m82, tg82, ln82, F97, rfl, rfl, hX94, hC101, hM99, by omega, by omega, by omega, by omega, by rw [show F97 (me) (2 : Int) = n26 from q104]; omega, c100, trivial⟩
