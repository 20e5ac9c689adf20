set_option maxRecDepth 20000 in
set_option maxHeartbeats 4000000 in
theorem k_LCore_init {X : jX} {dd : Nat} {R : Nat → jC} {m : Nat} {tg ln : Int → Int} {F : Int → Int → Int} {me mc cd st rt : Int} (hd : 2 ≤ dd) (hC : HC me m tg ln F) (o_me : own m me) (t_me : tg me = 3) (o_mc : own m mc) (t_mc : tg mc = 6) (o_cd : own m cd) (t_cd : tg cd = 20) (s_cd : F cd (-1) = 0) (h_st : (-2147483648 : Int) ≤ st ∧ st ≤ 2147483647) (o_rt : own m rt) (t_rt : tg rt = 8) (z_me : ∀ i, F me i = 0) : wk X dd 80 [rv me, rv mc, rv cd, .int (i32 st), rv rt] (cV R m tg ln F) (fun o V_q => ∃ (m_q : Nat) (tg_q ln_q : Int → Int) (F_q : Int → Int → Int), V_q = cV R m_q tg_q ln_q F_q ∧ o = .inl none ∧ Ex m tg ln m_q tg_q ln_q ∧ HC 0 m_q tg_q ln_q F_q ∧ Fq me [] m tg F F_q ∧ (szD m_q tg_q ln_q ≤ szD m tg ln + 5025) ∧ ((m_q : Int) = (m : Int) + 3) ∧ (NW m m_q tg_q F_q) ∧ True) := by
  obtain ⟨d, rfl⟩ : ∃ d, dd = d + 1 := ⟨dd - 1, by omega⟩
  refine wk_of (e := jm80) rfl (by rw [jS_r, jS_r, jS_r, jS_i, jS_r, jS_0]; exact Nat.le_of_ble_eq_true rfl) ?_
  rw [la_r, la_r, la_r, la_i, la_r, la_0]
  show wj X d jm80 (0, [(0, rv (me)), (1, rv (mc)), (2, rv (cd)), (3, .int (i32 (st))), (4, rv (rt))], [], cV R m tg ln F) _
  have hM0 : Fq me [] m tg F F := Fq_r
  have hX0 : Ex m tg ln m tg ln := Ex_r
  obtain ⟨L0, eL0⟩ : ∃ q : jL, q = [(0, rv (me)), (1, rv (mc)), (2, rv (cd)), (3, .int (i32 (st))), (4, rv (rt))] := ⟨_, rfl⟩
  rw [← eL0]
  have g1 : jGet L0 0 = some (rv (me)) := eL0 ▸ (rfl : jGet [(0, rv (me)), (1, rv (mc)), (2, rv (cd)), (3, .int (i32 (st))), (4, rv (rt))] 0 = some (rv (me)))
  have g2 : jGet L0 1 = some (rv (mc)) := eL0 ▸ (rfl : jGet [(0, rv (me)), (1, rv (mc)), (2, rv (cd)), (3, .int (i32 (st))), (4, rv (rt))] 1 = some (rv (mc)))
  have g3 : jGet L0 2 = some (rv (cd)) := eL0 ▸ (rfl : jGet [(0, rv (me)), (1, rv (mc)), (2, rv (cd)), (3, .int (i32 (st))), (4, rv (rt))] 2 = some (rv (cd)))
  have g4 : jGet L0 3 = some (.int (i32 (st))) := eL0 ▸ (rfl : jGet [(0, rv (me)), (1, rv (mc)), (2, rv (cd)), (3, .int (i32 (st))), (4, rv (rt))] 3 = some (.int (i32 (st))))
  have g5 : jGet L0 4 = some (rv (rt)) := eL0 ▸ (rfl : jGet [(0, rv (me)), (1, rv (mc)), (2, rv (cd)), (3, .int (i32 (st))), (4, rv (rt))] 4 = some (rv (rt)))
  clear eL0
  refine jx_ld (pc_q := 1) (l_q := L0) (st_q := [rv (me)]) rfl (jl_rvn g1) ?_
  refine cx_ob (pc_q := 4) rfl rfl o_me.1 (Nat.le_of_ble_eq_true rfl) rfl ?_
  refine jx_ld (pc_q := 5) (l_q := L0) (st_q := [rv (me)]) rfl (jl_rvn g1) ?_
  refine jx_ar (pc_q := 6) (st_q := [.int (i32 (4)), rv (me)]) rfl rfl rfl rfl ?_
  refine cx_nai (pc_q := 8) (kd := 1) (z := 4) rfl (by decide) rfl hC.1 (by omega) (by omega) ?_
  refine HC_row (g := 0) (z := 4) (t := 21) hC (by decide) (by decide) (by omega) (by omega) (fun n6 m6 tg6 ln6 F6 en6 em6 ho6 hl6 hx6 hC6 hf6 h06 hg6 hs6 => ?_)
  have ex6 : 64 + (m : Int) ≤ n6 := by have := hX0.1; omega
  have ho7 : own m6 (me) ∧ tg6 (me) = 3 := Ex_o hx6 ⟨o_me, t_me⟩
  have ho8 : own m6 (mc) ∧ tg6 (mc) = 6 := Ex_o hx6 ⟨o_mc, t_mc⟩
  have ho9 : own m6 (cd) ∧ tg6 (cd) = 20 := Ex_o hx6 ⟨o_cd, t_cd⟩
  have ho10 : own m6 (rt) ∧ tg6 (rt) = 8 := Ex_o hx6 ⟨o_rt, t_rt⟩
  have hX11 := Ex_t hX0 hx6
  have hM12 : Fq me [] m tg F F6 := Fq_n hM0 hf6 ex6
  have c13 : NW m m6 tg6 F6 := NW_n NW_0 hC.1 hx6 en6 em6 hf6 ho6.2 (by decide) h06
  refine cx_pa (pc_q := 11) (c := 2) (q := 21) (qi := (21 : Int)) (z := n6) rfl rfl (by decide) (by decide) rfl rfl rfl (by decide) rfl ho7.1 ho7.2 rfl ?_
  obtain ⟨F14, eF14⟩ : ∃ q, q = uF F6 (me) (21 : Int) (n6) := ⟨_, rfl⟩
  rw [← eF14]
  have hC15 : HC me m6 tg6 ln6 F14 := by rw [eF14]; exact HC_fn (c := 2) (q := 21) hC6 ho7.2 (by decide) rfl ⟨ho6.1, ho6.2⟩ (fun _ => by omega) (fun _ => hg6) ⟨fun w => absurd w (by decide), fun _ => ⟨fun w => absurd w (by decide), fun w => absurd w (by decide)⟩⟩
  have hM16 : Fq me [] m tg F F14 := by rw [eF14]; exact Fq_x hM12 (Or.inl rfl)
  have c17 : NW m m6 tg6 F14 := by rw [eF14]; exact NW_u c13 ho7.2 (by decide)
  refine jx_ld (pc_q := 12) (l_q := L0) (st_q := [rv (me)]) rfl (jl_rvn g1) ?_
  refine jx_ld (pc_q := 13) (l_q := L0) (st_q := [rv (mc), rv (me)]) rfl (jl_rvn g2) ?_
  refine cx_po (pc_q := 16) (c := 2) (q := 0) (qi := (0 : Int)) (z := mc) rfl rfl (by decide) (by decide) rfl rfl rfl (by decide) rfl ho7.1 ho7.2 rfl ?_
  obtain ⟨F18, eF18⟩ : ∃ q, q = uF F14 (me) (0 : Int) (mc) := ⟨_, rfl⟩
  rw [← eF18]
  have hC19 : HC me m6 tg6 ln6 F18 := by rw [eF18]; exact HC_fn (c := 2) (q := 0) hC15 ho7.2 (by decide) rfl ⟨ho8.1, ho8.2⟩ (fun _ => by omega) (fun _ => by omega) ⟨fun w => absurd w (by decide), fun _ => ⟨fun w => absurd w (by decide), fun w => absurd w (by decide)⟩⟩
  have hM20 : Fq me [] m tg F F18 := by rw [eF18]; exact Fq_x hM16 (Or.inl rfl)
  have c21 : NW m m6 tg6 F18 := by rw [eF18]; exact NW_u c17 ho7.2 (by decide)
  refine jx_ld (pc_q := 17) (l_q := L0) (st_q := [rv (me)]) rfl (jl_rvn g1) ?_
  refine jx_ld (pc_q := 18) (l_q := L0) (st_q := [rv (cd), rv (me)]) rfl (jl_rvn g3) ?_
  refine cx_pa (pc_q := 21) (c := 2) (q := 1) (qi := (1 : Int)) (z := cd) rfl rfl (by decide) (by decide) rfl rfl rfl (by decide) rfl ho7.1 ho7.2 rfl ?_
  obtain ⟨F22, eF22⟩ : ∃ q, q = uF F18 (me) (1 : Int) (cd) := ⟨_, rfl⟩
  rw [← eF22]
  have hC23 : HC me m6 tg6 ln6 F22 := by rw [eF22]; exact HC_fn (c := 2) (q := 1) hC19 ho7.2 (by decide) rfl ⟨ho9.1, ho9.2⟩ (fun _ => by omega) (fun _ => (((show F18 (cd) ((-1) : Int) = F14 (cd) ((-1) : Int) from by rw [eF18]; exact uF_j (by decide)).trans ((show F14 (cd) ((-1) : Int) = F6 (cd) ((-1) : Int) from by rw [eF14]; exact uF_j (by decide)).trans (show F6 (cd) ((-1) : Int) = F (cd) ((-1) : Int) from hf6 _ _ (ne_n o_cd en6)))).trans s_cd)) ⟨fun w => absurd w (by decide), fun _ => ⟨fun w => absurd w (by decide), fun w => absurd w (by decide)⟩⟩
  have hM24 : Fq me [] m tg F F22 := by rw [eF22]; exact Fq_x hM20 (Or.inl rfl)
  have c25 : NW m m6 tg6 F22 := by rw [eF22]; exact NW_u c21 ho7.2 (by decide)
  refine jx_ld (pc_q := 22) (l_q := L0) (st_q := [rv (me)]) rfl (jl_rvn g1) ?_
  refine jx_ld (pc_q := 23) (l_q := L0) (st_q := [.int (i32 (st)), rv (me)]) rfl (jl_iloadn g4) ?_
  refine cx_pi (pc_q := 26) (c := 2) (q := 2) (qi := (2 : Int)) (z := st) rfl rfl (by decide) (by decide) rfl rfl rfl (by decide) rfl ho7.1 ho7.2 rfl ?_
  obtain ⟨F26, eF26⟩ : ∃ q, q = uF F22 (me) (2 : Int) (st) := ⟨_, rfl⟩
  rw [← eF26]
  have hC27 : HC me m6 tg6 ln6 F26 := by rw [eF26]; exact HC_fi (c := 2) (q := 2) hC23 ho7.2 (by decide) rfl (by omega) (by omega) ⟨fun w => absurd w (by decide), fun _ => ⟨fun w => absurd w (by decide), fun w => absurd w (by decide)⟩⟩
  have hM28 : Fq me [] m tg F F26 := by rw [eF26]; exact Fq_x hM24 (Or.inl rfl)
  have c29 : NW m m6 tg6 F26 := by rw [eF26]; exact NW_u c25 ho7.2 (by decide)
  refine jx_ld (pc_q := 27) (l_q := L0) (st_q := [rv (me)]) rfl (jl_rvn g1) ?_
  refine jx_ar (pc_q := 29) (st_q := [.int (i32 (16)), rv (me)]) rfl rfl rfl rfl ?_
  refine jx_ld (pc_q := 31) (l_q := L0) (st_q := [rv (rt), .int (i32 (16)), rv (me)]) rfl (jl_rv g5) ?_
  refine cx_gi (pc_q := 34) (c := 7) (q := 12) (v := F (rt) (12 : Int)) rfl rfl (by decide) (by decide) (Or.inl rfl) rfl ho10.1 ho10.2 (show F26 (rt) (12 : Int) = F (rt) (12 : Int) from by rw [(show F26 (rt) (12 : Int) = F22 (rt) (12 : Int) from by rw [eF26]; exact uF_j (by decide)), (show F22 (rt) (12 : Int) = F18 (rt) (12 : Int) from by rw [eF22]; exact uF_j (by decide)), (show F18 (rt) (12 : Int) = F14 (rt) (12 : Int) from by rw [eF18]; exact uF_j (by decide)), (show F14 (rt) (12 : Int) = F6 (rt) (12 : Int) from by rw [eF14]; exact uF_j (by decide)), (show F6 (rt) (12 : Int) = F (rt) (12 : Int) from hf6 _ _ (ne_n o_rt en6))]) ?_
  have b30 : (-2147483648 : Int) ≤ F (rt) (12 : Int) ∧ F (rt) (12 : Int) ≤ 2147483647 := by have z := HC_i (c := 7) (q := 12) hC27 ho10.1 ho10.2 (by decide) rfl; rw [show F26 (rt) ((12 : Nat) : Int) = F (rt) (12 : Int) from (show F26 (rt) (12 : Int) = F (rt) (12 : Int) from by rw [(show F26 (rt) (12 : Int) = F22 (rt) (12 : Int) from by rw [eF26]; exact uF_j (by decide)), (show F22 (rt) (12 : Int) = F18 (rt) (12 : Int) from by rw [eF22]; exact uF_j (by decide)), (show F18 (rt) (12 : Int) = F14 (rt) (12 : Int) from by rw [eF18]; exact uF_j (by decide)), (show F14 (rt) (12 : Int) = F6 (rt) (12 : Int) from by rw [eF14]; exact uF_j (by decide)), (show F6 (rt) (12 : Int) = F (rt) (12 : Int) from hf6 _ _ (ne_n o_rt en6))])] at z; exact z
  refine jx_add (pc_q := 35) rfl rfl ?_
  obtain ⟨z31, ez31⟩ : ∃ q, q = (i32 ((16 + F (rt) (12 : Int)))).toInt := ⟨_, rfl⟩
  have bz31 : (-2147483648 : Int) ≤ z31 ∧ z31 ≤ 2147483647 := ez31 ▸ i32_rg _
  rw [show i32 ((16 + F (rt) (12 : Int))) = i32 z31 by rw [ez31, i32_of]]
  clear ez31
  refine jx_ar (pc_q := 36) (st_q := [.int (i32 (3)), .int (i32 (z31)), rv (me)]) rfl rfl rfl rfl ?_
  refine jx_add (pc_q := 37) rfl rfl ?_
  obtain ⟨z32, ez32⟩ : ∃ q, q = (i32 ((z31 + 3))).toInt := ⟨_, rfl⟩
  have bz32 : (-2147483648 : Int) ≤ z32 ∧ z32 ≤ 2147483647 := ez32 ▸ i32_rg _
  rw [show i32 ((z31 + 3)) = i32 z32 by rw [ez32, i32_of]]
  clear ez32
  refine cx_pi (pc_q := 40) (c := 2) (q := 3) (qi := (3 : Int)) (z := z32) rfl rfl (by decide) (by decide) rfl rfl rfl (by decide) rfl ho7.1 ho7.2 rfl ?_
  obtain ⟨F33, eF33⟩ : ∃ q, q = uF F26 (me) (3 : Int) (z32) := ⟨_, rfl⟩
  rw [← eF33]
  have hC34 : HC me m6 tg6 ln6 F33 := by rw [eF33]; exact HC_fi (c := 2) (q := 3) hC27 ho7.2 (by decide) rfl (by omega) (by omega) ⟨fun w => absurd w (by decide), fun _ => ⟨fun w => absurd w (by decide), fun w => absurd w (by decide)⟩⟩
  have hM35 : Fq me [] m tg F F33 := by rw [eF33]; exact Fq_x hM28 (Or.inl rfl)
  have c36 : NW m m6 tg6 F33 := by rw [eF33]; exact NW_u c29 ho7.2 (by decide)
  refine jx_ar (pc_q := 41) (st_q := [.int (i32 (0))]) rfl rfl rfl rfl ?_
  refine jx_ld (pc_q := 43) (l_q := L0) (st_q := [rv (rt), .int (i32 (0))]) rfl (jl_rv g5) ?_
  refine cx_gi (pc_q := 46) (c := 7) (q := 11) (v := F (rt) (11 : Int)) rfl rfl (by decide) (by decide) (Or.inl rfl) rfl ho10.1 ho10.2 (show F33 (rt) (11 : Int) = F (rt) (11 : Int) from by rw [(show F33 (rt) (11 : Int) = F26 (rt) (11 : Int) from by rw [eF33]; exact uF_j (by decide)), (show F26 (rt) (11 : Int) = F22 (rt) (11 : Int) from by rw [eF26]; exact uF_j (by decide)), (show F22 (rt) (11 : Int) = F18 (rt) (11 : Int) from by rw [eF22]; exact uF_j (by decide)), (show F18 (rt) (11 : Int) = F14 (rt) (11 : Int) from by rw [eF18]; exact uF_j (by decide)), (show F14 (rt) (11 : Int) = F6 (rt) (11 : Int) from by rw [eF14]; exact uF_j (by decide)), (show F6 (rt) (11 : Int) = F (rt) (11 : Int) from hf6 _ _ (ne_n o_rt en6))]) ?_
  have b37 : (-2147483648 : Int) ≤ F (rt) (11 : Int) ∧ F (rt) (11 : Int) ≤ 2147483647 := by have z := HC_i (c := 7) (q := 11) hC34 ho10.1 ho10.2 (by decide) rfl; rw [show F33 (rt) ((11 : Nat) : Int) = F (rt) (11 : Int) from (show F33 (rt) (11 : Int) = F (rt) (11 : Int) from by rw [(show F33 (rt) (11 : Int) = F26 (rt) (11 : Int) from by rw [eF33]; exact uF_j (by decide)), (show F26 (rt) (11 : Int) = F22 (rt) (11 : Int) from by rw [eF26]; exact uF_j (by decide)), (show F22 (rt) (11 : Int) = F18 (rt) (11 : Int) from by rw [eF22]; exact uF_j (by decide)), (show F18 (rt) (11 : Int) = F14 (rt) (11 : Int) from by rw [eF18]; exact uF_j (by decide)), (show F14 (rt) (11 : Int) = F6 (rt) (11 : Int) from by rw [eF14]; exact uF_j (by decide)), (show F6 (rt) (11 : Int) = F (rt) (11 : Int) from hf6 _ _ (ne_n o_rt en6))])] at z; exact z
  refine jx_ld (pc_q := 48) (l_q := L0) (st_q := [rv (rt), .int (i32 (F (rt) (11 : Int))), .int (i32 (0))]) rfl (jl_rv g5) ?_
  refine cx_gi (pc_q := 51) (c := 7) (q := 12) (v := F (rt) (12 : Int)) rfl rfl (by decide) (by decide) (Or.inl rfl) rfl ho10.1 ho10.2 (show F33 (rt) (12 : Int) = F (rt) (12 : Int) from by rw [(show F33 (rt) (12 : Int) = F26 (rt) (12 : Int) from by rw [eF33]; exact uF_j (by decide)), (show F26 (rt) (12 : Int) = F22 (rt) (12 : Int) from by rw [eF26]; exact uF_j (by decide)), (show F22 (rt) (12 : Int) = F18 (rt) (12 : Int) from by rw [eF22]; exact uF_j (by decide)), (show F18 (rt) (12 : Int) = F14 (rt) (12 : Int) from by rw [eF18]; exact uF_j (by decide)), (show F14 (rt) (12 : Int) = F6 (rt) (12 : Int) from by rw [eF14]; exact uF_j (by decide)), (show F6 (rt) (12 : Int) = F (rt) (12 : Int) from hf6 _ _ (ne_n o_rt en6))]) ?_
  refine jx_add (pc_q := 52) rfl rfl ?_
  obtain ⟨z38, ez38⟩ : ∃ q, q = (i32 ((F (rt) (11 : Int) + F (rt) (12 : Int)))).toInt := ⟨_, rfl⟩
  have bz38 : (-2147483648 : Int) ≤ z38 ∧ z38 ≤ 2147483647 := ez38 ▸ i32_rg _
  rw [show i32 ((F (rt) (11 : Int) + F (rt) (12 : Int))) = i32 z38 by rw [ez38, i32_of]]
  clear ez38
  refine jx_ar (pc_q := 53) (st_q := [.int (i32 (3)), .int (i32 (z38)), .int (i32 (0))]) rfl rfl rfl rfl ?_
  refine jx_add (pc_q := 54) rfl rfl ?_
  obtain ⟨z39, ez39⟩ : ∃ q, q = (i32 ((z38 + 3))).toInt := ⟨_, rfl⟩
  have bz39 : (-2147483648 : Int) ≤ z39 ∧ z39 ≤ 2147483647 := ez39 ▸ i32_rg _
  rw [show i32 ((z38 + 3)) = i32 z39 by rw [ez39, i32_of]]
  clear ez39
  refine jx_ar (pc_q := 57) (st_q := [.int (i32 (4000)), .int (i32 (z39)), .int (i32 (0))]) rfl rfl rfl rfl ?_
  refine cx_st (st := [.int (i32 (0))]) (as := [.int (i32 (z39)), .int (i32 (4000))]) rfl rfl rfl ⟨rfl, (by rw [jS_i, jS_0]; exact Nat.le_of_ble_eq_true rfl)⟩ rfl (k_java_lang_Math_min (dd := d) (R := R) (u := me) (m := m6) (tg := tg6) (ln := ln6) (F := F33) (a := z39) (b := 4000) (hd := by omega) (hC := hC34) (h_a := by omega) (h_b := by omega)) (fun o V_q hq => ?_)
  obtain ⟨r40, rfl, rfl, b41, p42, p43, p44, -⟩ := hq
  refine Or.inr (Or.inl ⟨_, rfl, ?_⟩)
  have ek : r40 ≤ 4000 := (by omega)
  clear p42 p43 p44
  refine cx_st (st := []) (as := [.int (i32 (0)), .int (i32 (r40))]) rfl rfl rfl ⟨rfl, (Nat.le_of_ble_eq_true rfl)⟩ rfl (k_java_lang_Math_max (dd := d) (R := R) (u := me) (m := m6) (tg := tg6) (ln := ln6) (F := F33) (a := 0) (b := r40) (hd := by omega) (hC := hC34) (h_a := by omega) (h_b := by omega)) (fun o V_q hq => ?_)
  obtain ⟨r45, rfl, rfl, b46, p47, p48, p49, -⟩ := hq
  refine Or.inr (Or.inl ⟨_, rfl, ?_⟩)
  have em : 0 ≤ r45 ∧ r45 ≤ 4000 := (by omega)
  clear p47 p48 p49
  refine jx_ld (pc_q := 65) (l_q := jSto1 L0 5 (.int (i32 (r45)))) (st_q := []) rfl rfl ?_
  obtain ⟨L50, eL50⟩ : ∃ q : jL, q = jSto1 L0 5 (.int (i32 (r45))) := ⟨_, rfl⟩
  rw [← eL50]
  have g51 : jGet L50 0 = some (rv (me)) := eL50 ▸ jg_nr (by decide) g1
  have g52 : jGet L50 1 = some (rv (mc)) := eL50 ▸ jg_nr (by decide) g2
  have g53 : jGet L50 2 = some (rv (cd)) := eL50 ▸ jg_nr (by decide) g3
  have g54 : jGet L50 3 = some (.int (i32 (st))) := eL50 ▸ jg_ne (by decide) g4 rfl
  have g55 : jGet L50 4 = some (rv (rt)) := eL50 ▸ jg_nr (by decide) g5
  have g56 : jGet L50 5 = some (.int (i32 (r45))) := eL50 ▸ jg_eq
  clear eL50
  refine jx_ld (pc_q := 66) (l_q := L50) (st_q := [rv (me)]) rfl (jl_rvn g51) ?_
  refine jx_ar (pc_q := 68) (st_q := [.int (i32 (16)), rv (me)]) rfl rfl rfl rfl ?_
  refine jx_ld (pc_q := 70) (l_q := L50) (st_q := [.int (i32 (r45)), .int (i32 (16)), rv (me)]) rfl (jl_iload g56) ?_
  refine jx_add (pc_q := 71) rfl rfl ?_
  refine cx_nai (pc_q := 73) (kd := 1) (z := (16 + r45)) rfl (by decide) rfl hC34.1 (by omega) (by omega) ?_
  refine HC_row (g := 0) (z := (16 + r45)) (t := 21) hC34 (by decide) (by decide) (by omega) (by omega) (fun n57 m57 tg57 ln57 F57 en57 em57 ho57 hl57 hx57 hC57 hf57 h057 hg57 hs57 => ?_)
  have ex57 : 64 + (m : Int) ≤ n57 := by have := hX11.1; omega
  have ho58 : own m57 (me) ∧ tg57 (me) = 3 := Ex_o hx57 ⟨ho7.1, ho7.2⟩
  have ho59 : own m57 (mc) ∧ tg57 (mc) = 6 := Ex_o hx57 ⟨ho8.1, ho8.2⟩
  have ho60 : own m57 (cd) ∧ tg57 (cd) = 20 := Ex_o hx57 ⟨ho9.1, ho9.2⟩
  have ho61 : own m57 (rt) ∧ tg57 (rt) = 8 := Ex_o hx57 ⟨ho10.1, ho10.2⟩
  have ho62 : own m57 (n6) ∧ tg57 (n6) = 21 := Ex_o hx57 ⟨ho6.1, ho6.2⟩
  have ln63 : ln57 (n6) = 4 := (hx57.2 _ ho6.1).2.trans hl6
  clear hl6
  have hX64 := Ex_t hX11 hx57
  have hM65 : Fq me [] m tg F F57 := Fq_n hM35 hf57 ex57
  have c66 : NW m m57 tg57 F57 := NW_n c36 hC34.1 hx57 en57 em57 hf57 ho57.2 (by decide) h057
  refine cx_pa (pc_q := 76) (c := 2) (q := 4) (qi := (4 : Int)) (z := n57) rfl rfl (by decide) (by decide) rfl rfl rfl (by decide) rfl ho58.1 ho58.2 rfl ?_
  obtain ⟨F67, eF67⟩ : ∃ q, q = uF F57 (me) (4 : Int) (n57) := ⟨_, rfl⟩
  rw [← eF67]
  have hC68 : HC me m57 tg57 ln57 F67 := by rw [eF67]; exact HC_fn (c := 2) (q := 4) hC57 ho58.2 (by decide) rfl ⟨ho57.1, ho57.2⟩ (fun _ => by omega) (fun _ => hg57) ⟨fun w => absurd w (by decide), fun _ => ⟨fun w => absurd w (by decide), fun w => absurd w (by decide)⟩⟩
  have hM69 : Fq me [] m tg F F67 := by rw [eF67]; exact Fq_x hM65 (Or.inl rfl)
  have c70 : NW m m57 tg57 F67 := by rw [eF67]; exact NW_u c66 ho58.2 (by decide)
  refine jx_ld (pc_q := 77) (l_q := L50) (st_q := [rv (me)]) rfl (jl_rvn g51) ?_
  refine jx_ld (pc_q := 79) (l_q := L50) (st_q := [.int (i32 (r45)), rv (me)]) rfl (jl_iload g56) ?_
  refine jx_ar (pc_q := 80) (st_q := [.int (i32 (4)), .int (i32 (r45)), rv (me)]) rfl rfl rfl rfl ?_
  refine jx_div (pc_q := 81) rfl rfl (by omega) (by omega) (by omega) (by omega) ?_
  refine jx_ar (pc_q := 82) (st_q := [.int (i32 (2)), .int (i32 ((r45 / 4))), rv (me)]) rfl rfl rfl rfl ?_
  refine jx_add (pc_q := 83) rfl rfl ?_
  refine cx_nai (pc_q := 85) (kd := 1) (z := ((r45 / 4) + 2)) rfl (by decide) rfl hC68.1 (by omega) (by omega) ?_
  refine HC_row (g := 0) (z := ((r45 / 4) + 2)) (t := 21) hC68 (by decide) (by decide) (by omega) (by omega) (fun n71 m71 tg71 ln71 F71 en71 em71 ho71 hl71 hx71 hC71 hf71 h071 hg71 hs71 => ?_)
  have ex71 : 64 + (m : Int) ≤ n71 := by have := hX64.1; omega
  have ho72 : own m71 (me) ∧ tg71 (me) = 3 := Ex_o hx71 ⟨ho58.1, ho58.2⟩
  have ho73 : own m71 (mc) ∧ tg71 (mc) = 6 := Ex_o hx71 ⟨ho59.1, ho59.2⟩
  have ho74 : own m71 (cd) ∧ tg71 (cd) = 20 := Ex_o hx71 ⟨ho60.1, ho60.2⟩
  have ho75 : own m71 (rt) ∧ tg71 (rt) = 8 := Ex_o hx71 ⟨ho61.1, ho61.2⟩
  have ho76 : own m71 (n6) ∧ tg71 (n6) = 21 := Ex_o hx71 ⟨ho62.1, ho62.2⟩
  have ho77 : own m71 (n57) ∧ tg71 (n57) = 21 := Ex_o hx71 ⟨ho57.1, ho57.2⟩
  have ln78 : ln71 (n6) = 4 := (hx71.2 _ ho62.1).2.trans ln63
  clear ln63
  have ln79 : ln71 (n57) = (16 + r45) := (hx71.2 _ ho57.1).2.trans hl57
  clear hl57
  have hX80 := Ex_t hX64 hx71
  have hM81 : Fq me [] m tg F F71 := Fq_n hM69 hf71 ex71
  have c82 : NW m m71 tg71 F71 := NW_n c70 hC68.1 hx71 en71 em71 hf71 ho71.2 (by decide) h071
  refine cx_pa (pc_q := 88) (c := 2) (q := 15) (qi := (15 : Int)) (z := n71) rfl rfl (by decide) (by decide) rfl rfl rfl (by decide) rfl ho72.1 ho72.2 rfl ?_
  obtain ⟨F83, eF83⟩ : ∃ q, q = uF F71 (me) (15 : Int) (n71) := ⟨_, rfl⟩
  rw [← eF83]
  have hC84 : HC me m71 tg71 ln71 F83 := by rw [eF83]; exact HC_fn (c := 2) (q := 15) hC71 ho72.2 (by decide) rfl ⟨ho71.1, ho71.2⟩ (fun _ => by omega) (fun _ => hg71) ⟨fun w => absurd w (by decide), fun _ => ⟨fun _ => rfl, fun w => absurd w (by decide)⟩⟩
  have hM85 : Fq me [] m tg F F83 := by rw [eF83]; exact Fq_x hM81 (Or.inl rfl)
  have c86 : NW m m71 tg71 F83 := by rw [eF83]; exact NW_u c82 ho72.2 (by decide)
  refine jx_rt (v := none) rfl rfl rfl rfl rfl rfl ?_
  have hC87 : HC 0 m71 tg71 ln71 F83 := by
    refine HC_fin hC84 (fun c_q q e hq h3 => ?_) ⟨fun w => ?_, fun w => ?_⟩
    · have ec : c_q = 2 := by rw [ho72.2] at e; omega
      subst ec
      have hq2 : q < 22 := hq
      have hq3 : q = 0 ∨ q = 1 ∨ q = 2 ∨ q = 3 ∨ q = 4 ∨ q = 5 ∨ q = 6 ∨ q = 7 ∨ q = 8 ∨ q = 9 ∨ q = 10 ∨ q = 11 ∨ q = 12 ∨ q = 13 ∨ q = 14 ∨ q = 15 ∨ q = 16 ∨ q = 17 ∨ q = 18 ∨ q = 19 ∨ q = 20 ∨ q = 21 := (by decide : ∀ k : Fin 22, k.1 = 0 ∨ k.1 = 1 ∨ k.1 = 2 ∨ k.1 = 3 ∨ k.1 = 4 ∨ k.1 = 5 ∨ k.1 = 6 ∨ k.1 = 7 ∨ k.1 = 8 ∨ k.1 = 9 ∨ k.1 = 10 ∨ k.1 = 11 ∨ k.1 = 12 ∨ k.1 = 13 ∨ k.1 = 14 ∨ k.1 = 15 ∨ k.1 = 16 ∨ k.1 = 17 ∨ k.1 = 18 ∨ k.1 = 19 ∨ k.1 = 20 ∨ k.1 = 21) ⟨q, hq2⟩
      rcases hq3 with rfl | rfl | rfl | rfl | rfl | rfl | rfl | rfl | rfl | rfl | rfl | rfl | rfl | rfl | rfl | rfl | rfl | rfl | rfl | rfl | rfl | rfl
      · rw [show F83 (me) ((0 : Nat) : Int) = mc from (show F83 (me) (0 : Int) = mc from by rw [(show F83 (me) (0 : Int) = F71 (me) (0 : Int) from by rw [eF83]; exact uF_j (by decide)), (show F71 (me) (0 : Int) = F67 (me) (0 : Int) from hf71 _ _ (ne_n ho58.1 en71)), (show F67 (me) (0 : Int) = F57 (me) (0 : Int) from by rw [eF67]; exact uF_j (by decide)), (show F57 (me) (0 : Int) = F33 (me) (0 : Int) from hf57 _ _ (ne_n ho7.1 en57)), (show F33 (me) (0 : Int) = F26 (me) (0 : Int) from by rw [eF33]; exact uF_j (by decide)), (show F26 (me) (0 : Int) = F22 (me) (0 : Int) from by rw [eF26]; exact uF_j (by decide)), (show F22 (me) (0 : Int) = F18 (me) (0 : Int) from by rw [eF22]; exact uF_j (by decide)), (show F18 (me) (0 : Int) = mc from by rw [eF18]; exact uF_e)])]; exact own_z ho73.1
      · rw [show F83 (me) ((1 : Nat) : Int) = cd from (show F83 (me) (1 : Int) = cd from by rw [(show F83 (me) (1 : Int) = F71 (me) (1 : Int) from by rw [eF83]; exact uF_j (by decide)), (show F71 (me) (1 : Int) = F67 (me) (1 : Int) from hf71 _ _ (ne_n ho58.1 en71)), (show F67 (me) (1 : Int) = F57 (me) (1 : Int) from by rw [eF67]; exact uF_j (by decide)), (show F57 (me) (1 : Int) = F33 (me) (1 : Int) from hf57 _ _ (ne_n ho7.1 en57)), (show F33 (me) (1 : Int) = F26 (me) (1 : Int) from by rw [eF33]; exact uF_j (by decide)), (show F26 (me) (1 : Int) = F22 (me) (1 : Int) from by rw [eF26]; exact uF_j (by decide)), (show F22 (me) (1 : Int) = cd from by rw [eF22]; exact uF_e)])]; exact own_z ho74.1
      · exact absurd h3 (by decide)
      · exact absurd h3 (by decide)
      · rw [show F83 (me) ((4 : Nat) : Int) = n57 from ((show F83 (me) (4 : Int) = F71 (me) (4 : Int) from by rw [eF83]; exact uF_j (by decide)).trans ((show F71 (me) (4 : Int) = F67 (me) (4 : Int) from hf71 _ _ (ne_n ho58.1 en71)).trans (show F67 (me) (4 : Int) = n57 from by rw [eF67]; exact uF_e)))]; exact own_z ho77.1
      · exact absurd h3 (by decide)
      · exact absurd h3 (by decide)
      · exact absurd h3 (by decide)
      · exact absurd h3 (by decide)
      · exact absurd h3 (by decide)
      · exact absurd h3 (by decide)
      · exact absurd h3 (by decide)
      · exact absurd h3 (by decide)
      · exact absurd h3 (by decide)
      · exact absurd h3 (by decide)
      · rw [show F83 (me) ((15 : Nat) : Int) = n71 from (show F83 (me) (15 : Int) = n71 from by rw [eF83]; exact uF_e)]; exact own_z ho71.1
      · exact absurd h3 (by decide)
      · exact absurd h3 (by decide)
      · exact absurd h3 (by decide)
      · exact absurd h3 (by decide)
      · exact absurd h3 (by decide)
      · rw [show F83 (me) ((21 : Nat) : Int) = n6 from (show F83 (me) (21 : Int) = n6 from by rw [(show F83 (me) (21 : Int) = F71 (me) (21 : Int) from by rw [eF83]; exact uF_j (by decide)), (show F71 (me) (21 : Int) = F67 (me) (21 : Int) from hf71 _ _ (ne_n ho58.1 en71)), (show F67 (me) (21 : Int) = F57 (me) (21 : Int) from by rw [eF67]; exact uF_j (by decide)), (show F57 (me) (21 : Int) = F33 (me) (21 : Int) from hf57 _ _ (ne_n ho7.1 en57)), (show F33 (me) (21 : Int) = F26 (me) (21 : Int) from by rw [eF33]; exact uF_j (by decide)), (show F26 (me) (21 : Int) = F22 (me) (21 : Int) from by rw [eF26]; exact uF_j (by decide)), (show F22 (me) (21 : Int) = F18 (me) (21 : Int) from by rw [eF22]; exact uF_j (by decide)), (show F18 (me) (21 : Int) = F14 (me) (21 : Int) from by rw [eF18]; exact uF_j (by decide)), (show F14 (me) (21 : Int) = n6 from by rw [eF14]; exact uF_e)])]; exact own_z ho76.1
    · exact absurd (ho72.2.symm.trans w) (by decide)
    · rw [show F83 (me) (15 : Int) = n71 from (show F83 (me) (15 : Int) = n71 from by rw [eF83]; exact uF_e), show F83 (me) (16 : Int) = 0 from (show F83 (me) (16 : Int) = 0 from by rw [(show F83 (me) (16 : Int) = F71 (me) (16 : Int) from by rw [eF83]; exact uF_j (by decide)), (show F71 (me) (16 : Int) = F67 (me) (16 : Int) from hf71 _ _ (ne_n ho58.1 en71)), (show F67 (me) (16 : Int) = F57 (me) (16 : Int) from by rw [eF67]; exact uF_j (by decide)), (show F57 (me) (16 : Int) = F33 (me) (16 : Int) from hf57 _ _ (ne_n ho7.1 en57)), (show F33 (me) (16 : Int) = F26 (me) (16 : Int) from by rw [eF33]; exact uF_j (by decide)), (show F26 (me) (16 : Int) = F22 (me) (16 : Int) from by rw [eF26]; exact uF_j (by decide)), (show F22 (me) (16 : Int) = F18 (me) (16 : Int) from by rw [eF22]; exact uF_j (by decide)), (show F18 (me) (16 : Int) = F14 (me) (16 : Int) from by rw [eF18]; exact uF_j (by decide)), (show F14 (me) (16 : Int) = F6 (me) (16 : Int) from by rw [eF14]; exact uF_j (by decide)), (show F6 (me) (16 : Int) = F (me) (16 : Int) from hf6 _ _ (ne_n o_me en6)), (show F (me) (16 : Int) = 0 from z_me _)])]; exact ⟨by omega, by omega⟩
  exact ⟨m71, tg71, ln71, F83, rfl, rfl, hX80, hC87, hM85, by omega, by omega, c86, trivial⟩
