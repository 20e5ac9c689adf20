set_option maxRecDepth 20000 in
set_option maxHeartbeats 4000000 in
theorem law_loop {X : jX} (hL : X.1 ≤ 2048) {d : Nat} (hd : 700 ≤ d) : ∀ (mm : Nat) (L : jL) (G : Nat → Int) (A : Nat → Nat → Int) (m : Nat) (tg ln : Int → Int) (F : Int → Int → Int) (i n : Int), ((X.1 : Int) + 4 - i).toNat = mm → jGet L 0 = some (.ref 63) → jGet L 1 = some (rv (64)) → jGet L 2 = some (.ref 66) → jGet L 3 = some (rv (153)) → jGet L 4 = some (.int (i32 (i))) → HC 0 m tg ln F → NP m tg F → SB m tg F (30001 * n) → T3 m tg → RI G A n → (own m 64 ∧ tg 64 = 1) → (own m 153 ∧ tg 153 = 22) → ln 153 = 1 → F 153 (-1) = 0 → (0 ≤ n ∧ 4 * n ≤ i) → i ≤ (X.1 : Int) → F 64 (1 : Int) = G 2 → szD m tg ln + 2794 * F 64 (1 : Int) + 42033 * (1 - tz (F 64 (5 : Int))) ≤ 50000 + 12925 * n → (m : Int) + F 64 (1 : Int) ≤ 91 + 105 * n → wj X d jm18 (23, L, [], cV (rR G A) m tg ln F) (fun o V => o = .inl (some (.int (i32 1))) ∧ V.length ≤ 601024 ∧ jSl V ≤ 7293034) := by
  intro mm
  induction mm using Nat.strongRecOn with
  | ind mm ih =>
    intro L G A m tg ln F i n hmm g0 g1 g2 g3 g4 hC c_NP c_SB c_T3 hR o64 o153 hl s153 hn hi hG hb1 hb2
    have hM0 : Fq 0 [(1, 1), (1, 2), (1, 3), (1, 4), (1, 5), (1, 6), (2, 7), (2, 8), (2, 9), (2, 10), (2, 11), (3, 5), (3, 6), (3, 7), (3, 8), (3, 9), (3, 10), (3, 11), (3, 12), (3, 13), (3, 14), (3, 16), (3, 17), (3, 18), (3, 19), (3, 20), (4, 0), (5, 2), (5, 3), (5, 4), (5, 5), (5, 6), (5, 7), (6, 3), (6, 4), (6, 6), (6, 7), (6, 8), (7, 3), (7, 4), (7, 5), (7, 6), (7, 9), (7, 10), (7, 11), (7, 15), (8, 10), (8, 11), (8, 12), (8, 13), (8, 14), (8, 15), (8, 16), (8, 17), (8, 18), (9, 2), (9, 3), (10, 0), (10, 1), (10, 2), (10, 5), (10, 7), (10, 8), (10, 9), (11, 7), (11, 8), (11, 9), (11, 10), (11, 11), (11, 12), (11, 13), (11, 14), (11, 15), (11, 16), (11, 17), (11, 18), (12, 2), (12, 3), (12, 4), (20, -5), (21, -5), (22, -5), (24, -5), (25, -5), (26, -5), (27, -5)] m tg F F := Fq_r
    have hX0 : Ex m tg ln m tg ln := Ex_r
    have lb : (0 : Int) ≤ F 64 (1 : Int) ∧ F 64 (1 : Int) ≤ 3000 := HC_i (c := 0) (q := 1) hC o64.1 o64.2 (by decide) rfl
    have t5 := tz_b (F 64 (5 : Int))
    refine jx_ld (pc_q := 25) (l_q := L) (st_q := [.int (i32 (i))]) rfl (jl_iload g4) ?_
    refine jx_ld (pc_q := 26) (l_q := L) (st_q := [.ref 63, .int (i32 (i))]) rfl (jl_aloadn g0) ?_
    refine jx_scl (pc_q := 27) rfl rfl ?_
    refine jx_ar (pc_q := 28) (st_q := [.int (i32 (4)), .int (i32 ((X.1 : Int))), .int (i32 (i))]) rfl rfl rfl rfl ?_
    refine jx_sub (pc_q := 29) rfl rfl ?_
    refine jx_icmp_gt (pc_q := 32) (tg := 740) rfl rfl rfl (by omega) (by omega) (by omega) (by omega) (fun h1 => ?_) (fun h1 => ?_)
    · have _q := h1
      refine jx_ar (pc_q := 741) (st_q := [.int (i32 (1))]) rfl rfl rfl rfl ?_
      refine jx_rt (v := some (.int (i32 (1)))) rfl rfl rfl rfl rfl (by first | rfl | exact jRet_b (by omega)) ?_
      exact law_end hC c_T3 hb1 hb2 (by omega) (by omega) (by omega)
    · have _q := h1
      refine jx_ld (pc_q := 33) (l_q := L) (st_q := [.ref 63]) rfl (jl_aloadn g0) ?_
      refine jx_ld (pc_q := 35) (l_q := L) (st_q := [.int (i32 (i)), .ref 63]) rfl (jl_iload g4) ?_
      refine jx_sca (pc_q := 36) (z := i) rfl rfl (by omega) (by omega) hL ?_
      have b2 := sx_rg (X := X) (j := i)
      refine jx_ar (pc_q := 38) (st_q := [.int (i32 (31)), .int (i32 (sx X (i)))]) rfl rfl rfl rfl ?_
      refine jx_and (pc_q := 39) rfl rfl ?_
      obtain ⟨z3, ez3⟩ : ∃ q, q = (i32 (sx X (i)) &&& i32 (31)).toInt := ⟨_, rfl⟩
      rw [← ez3]
      have bz3 : (-2147483648 : Int) ≤ z3 ∧ z3 ≤ 2147483647 := ez3 ▸ i32_rg _
      have cz3 : 0 ≤ z3 ∧ z3 ≤ 31 := ez3 ▸ and_le (by decide) (by decide)
      clear ez3
      by_cases h4 : z3 = 0
      · refine jx_swe (tg := 128) h4 rfl rfl rfl rfl ?_
        refine jx_ld (pc_q := 129) (l_q := L) (st_q := [rv (64)]) rfl (jl_rvn g1) ?_
        refine jx_ld (pc_q := 130) (l_q := L) (st_q := [.ref 63, rv (64)]) rfl (jl_aloadn g0) ?_
        refine jx_ld (pc_q := 132) (l_q := L) (st_q := [.int (i32 (i)), .ref 63, rv (64)]) rfl (jl_iload g4) ?_
        refine jx_ar (pc_q := 133) (st_q := [.int (i32 (1)), .int (i32 (i)), .ref 63, rv (64)]) rfl rfl rfl rfl ?_
        refine jx_add (pc_q := 134) rfl rfl ?_
        refine jx_sca (pc_q := 135) (z := (i + 1)) rfl rfl (by omega) (by omega) hL ?_
        have b5 := sx_rg (X := X) (j := (i + 1))
        refine jx_ld (pc_q := 136) (l_q := L) (st_q := [rv (153), .int (i32 (sx X ((i + 1)))), rv (64)]) rfl (jl_rvn g3) ?_
        refine cx_st (st := []) (as := [rv (64), .int (i32 (sx X ((i + 1)))), rv (153)]) rfl rfl rfl ⟨rfl, (Nat.le_of_ble_eq_true rfl)⟩ rfl (k_LLaw_put (dd := d) (R := rR G A) (m := m) (tg := tg) (ln := ln) (F := F) (x := 64) (p0 := sx X ((i + 1))) (ou := 153) (hd := by omega) (hC := hC) (o_x := o64.1) (t_x := o64.2) (h_p0 := by omega) (o_ou := o153.1) (t_ou := o153.2) (s_ou := s153) (p_0 := by omega) (c_NP := c_NP) (kk := 30001 * n) (c_SB := c_SB) (c_T3 := c_T3)) (fun o V_q hq => ?_)
        obtain ⟨m6, tg6, ln6, F7, r8, rfl, rfl, hx9, hC10, hM11, b12, p13, p14, p15, c16, c17, c18, -⟩ := hq
        have hM19 : Fq 0 [(1, 1), (1, 2), (1, 3), (1, 4), (1, 5), (1, 6), (2, 7), (2, 8), (2, 9), (2, 10), (2, 11), (3, 5), (3, 6), (3, 7), (3, 8), (3, 9), (3, 10), (3, 11), (3, 12), (3, 13), (3, 14), (3, 16), (3, 17), (3, 18), (3, 19), (3, 20), (4, 0), (5, 2), (5, 3), (5, 4), (5, 5), (5, 6), (5, 7), (6, 3), (6, 4), (6, 6), (6, 7), (6, 8), (7, 3), (7, 4), (7, 5), (7, 6), (7, 9), (7, 10), (7, 11), (7, 15), (8, 10), (8, 11), (8, 12), (8, 13), (8, 14), (8, 15), (8, 16), (8, 17), (8, 18), (9, 2), (9, 3), (10, 0), (10, 1), (10, 2), (10, 5), (10, 7), (10, 8), (10, 9), (11, 7), (11, 8), (11, 9), (11, 10), (11, 11), (11, 12), (11, 13), (11, 14), (11, 15), (11, 16), (11, 17), (11, 18), (12, 2), (12, 3), (12, 4), (20, -5), (21, -5), (22, -5), (24, -5), (25, -5), (26, -5), (27, -5)] m tg F F7 := Fq_t (ln := ln) (ln1 := ln) hM0 hX0 hM11 (by decide) (Or.inl rfl)
        have ho20 : own m6 (64) ∧ tg6 (64) = 1 := Ex_o hx9 ⟨o64.1, o64.2⟩
        have ho21 : own m6 (153) ∧ tg6 (153) = 22 := Ex_o hx9 ⟨o153.1, o153.2⟩
        have ln22 : ln6 (153) = 1 := (hx9.2 _ o153.1).2.trans hl
        clear hl
        have hX23 := Ex_t hX0 hx9
        refine Or.inr (Or.inl ⟨_, rfl, ?_⟩)
        refine jx_ld (pc_q := 141) (l_q := jSto1 L 5 (.int (i32 (r8)))) (st_q := []) rfl rfl ?_
        obtain ⟨L24, eL24⟩ : ∃ q : jL, q = jSto1 L 5 (.int (i32 (r8))) := ⟨_, rfl⟩
        rw [← eL24]
        have g25 : jGet L24 0 = some (.ref 63) := eL24 ▸ jg_ne (by decide) g0 rfl
        have g26 : jGet L24 1 = some (rv (64)) := eL24 ▸ jg_nr (by decide) g1
        have g27 : jGet L24 2 = some (.ref 66) := eL24 ▸ jg_ne (by decide) g2 rfl
        have g28 : jGet L24 3 = some (rv (153)) := eL24 ▸ jg_nr (by decide) g3
        have g29 : jGet L24 4 = some (.int (i32 (i))) := eL24 ▸ jg_ne (by decide) g4 rfl
        have g30 : jGet L24 5 = some (.int (i32 (r8))) := eL24 ▸ jg_eq
        clear eL24
        refine jx_ld (pc_q := 142) (l_q := L24) (st_q := [.ref 66]) rfl (jl_aloadn g27) ?_
        refine jx_ld (pc_q := 143) (l_q := L24) (st_q := [.ref 63, .ref 66]) rfl (jl_aloadn g25) ?_
        refine jx_ld (pc_q := 145) (l_q := L24) (st_q := [.int (i32 (i)), .ref 63, .ref 66]) rfl (jl_iload g29) ?_
        refine jx_ar (pc_q := 146) (st_q := [.int (i32 (1)), .int (i32 (i)), .ref 63, .ref 66]) rfl rfl rfl rfl ?_
        refine jx_add (pc_q := 147) rfl rfl ?_
        refine jx_sca (pc_q := 148) (z := (i + 1)) rfl rfl (by omega) (by omega) hL ?_
        refine rc_vi (pc_q := 151) (m := m6) (G := G) (A := A) (st := []) (as := [.int (i32 (sx X ((i + 1))))]) (by have := hC10.1; omega) rfl rfl rfl rfl ⟨rfl, rfl, (Nat.le_of_ble_eq_true rfl)⟩ rfl rfl (ri_put (dd := d) (by omega) hR (by omega) (by omega)) (fun o V_q hq => ?_)
        obtain ⟨G31, A31, r31, rfl, rfl, hR31, hp31⟩ := hq
        refine Or.inr ⟨_, rfl, ?_⟩
        have nb4 := nb_4 (sg := sx X ((i + 1)))
        have mo4 := mo_4 (sg := sx X ((i + 1)))
        have t32 := tz_b (bt (sx X ((i + 1))) 0)
        have t33 := tz_b (bt (sx X ((i + 1))) 8)
        have t34 := tz_b (bt (sx X ((i + 1))) 16)
        have t35 := tz_b (bt (sx X ((i + 1))) 24)
        rw [← cr_V (by have := hC10.1; omega)]
        refine jx_ld (pc_q := 153) (l_q := jSto1 L24 6 (.int (i32 (r31)))) (st_q := []) rfl rfl ?_
        obtain ⟨L36, eL36⟩ : ∃ q : jL, q = jSto1 L24 6 (.int (i32 (r31))) := ⟨_, rfl⟩
        rw [← eL36]
        have g37 : jGet L36 0 = some (.ref 63) := eL36 ▸ jg_ne (by decide) g25 rfl
        have g38 : jGet L36 1 = some (rv (64)) := eL36 ▸ jg_nr (by decide) g26
        have g39 : jGet L36 2 = some (.ref 66) := eL36 ▸ jg_ne (by decide) g27 rfl
        have g40 : jGet L36 3 = some (rv (153)) := eL36 ▸ jg_nr (by decide) g28
        have g41 : jGet L36 4 = some (.int (i32 (i))) := eL36 ▸ jg_ne (by decide) g29 rfl
        have g42 : jGet L36 5 = some (.int (i32 (r8))) := eL36 ▸ jg_ne (by decide) g30 rfl
        have g43 : jGet L36 6 = some (.int (i32 (r31))) := eL36 ▸ jg_eq
        clear eL36
        refine jx_go (tg := 734) rfl rfl ?_
        refine jx_inc (pc_q := 737) (l_q := jSto1 L36 4 (.int (i32 (i + (4))))) (x := i) rfl g41 (by decide) rfl rfl ?_
        obtain ⟨L44, eL44⟩ : ∃ q : jL, q = jSto1 L36 4 (.int (i32 ((i + (4))))) := ⟨_, rfl⟩
        rw [← eL44]
        have g45 : jGet L44 0 = some (.ref 63) := eL44 ▸ jg_ne (by decide) g37 rfl
        have g46 : jGet L44 1 = some (rv (64)) := eL44 ▸ jg_nr (by decide) g38
        have g47 : jGet L44 2 = some (.ref 66) := eL44 ▸ jg_ne (by decide) g39 rfl
        have g48 : jGet L44 3 = some (rv (153)) := eL44 ▸ jg_nr (by decide) g40
        have g49 : jGet L44 5 = some (.int (i32 (r8))) := eL44 ▸ jg_ne (by decide) g42 rfl
        have g50 : jGet L44 6 = some (.int (i32 (r31))) := eL44 ▸ jg_ne (by decide) g43 rfl
        have g51 : jGet L44 4 = some (.int (i32 ((i + (4))))) := eL44 ▸ jg_eq
        clear eL44
        refine jx_go (tg := 23) rfl rfl ?_
        have q52 : F7 (64) (5 : Int) = F (64) (5 : Int) := (show F7 (64) (5 : Int) = F (64) (5 : Int) from hM11 _ _ o64.1 (own_z o64.1) (by rw [o64.2]; rfl))
        have q53 : tz (F7 (64) (5 : Int)) = tz (F (64) (5 : Int)) := by rw [q52]
        exact ih _ (by omega) L44 G31 A31 m6 tg6 ln6 F7 ((i + (4))) (n + 1) rfl g45 g46 g47 g48 g51 hC10 c16 (SB_m c17 (by omega)) c18 hR31 ⟨ho20.1, ho20.2⟩ ⟨ho21.1, ho21.2⟩ (by omega) ((show F7 (153) ((-1) : Int) = F (153) ((-1) : Int) from hM11 _ _ o153.1 (own_z o153.1) (by rw [o153.2]; rfl)).trans s153) (by omega) (by omega) (by omega) (by omega) (by omega)
      by_cases h54 : z3 = 1
      · refine jx_swe (tg := 156) h54 rfl rfl rfl rfl ?_
        refine jx_ld (pc_q := 157) (l_q := L) (st_q := [rv (64)]) rfl (jl_rvn g1) ?_
        refine jx_ld (pc_q := 158) (l_q := L) (st_q := [.ref 63, rv (64)]) rfl (jl_aloadn g0) ?_
        refine jx_ld (pc_q := 160) (l_q := L) (st_q := [.int (i32 (i)), .ref 63, rv (64)]) rfl (jl_iload g4) ?_
        refine jx_ar (pc_q := 161) (st_q := [.int (i32 (1)), .int (i32 (i)), .ref 63, rv (64)]) rfl rfl rfl rfl ?_
        refine jx_add (pc_q := 162) rfl rfl ?_
        refine jx_sca (pc_q := 163) (z := (i + 1)) rfl rfl (by omega) (by omega) hL ?_
        have b55 := sx_rg (X := X) (j := (i + 1))
        refine cx_st (st := []) (as := [rv (64), .int (i32 (sx X ((i + 1))))]) rfl rfl rfl ⟨rfl, (Nat.le_of_ble_eq_true rfl)⟩ rfl (k_LLaw_end (dd := d) (R := rR G A) (m := m) (tg := tg) (ln := ln) (F := F) (x := 64) (p0 := sx X ((i + 1))) (hd := by omega) (hC := hC) (o_x := o64.1) (t_x := o64.2) (h_p0 := by omega) (c_NP := c_NP) (kk := 30001 * n) (c_SB := c_SB) (c_T3 := c_T3)) (fun o V_q hq => ?_)
        obtain ⟨m56, tg56, ln56, F57, r58, rfl, rfl, hx59, hC60, hM61, b62, p63, p64, p65, c66, c67, c68, -⟩ := hq
        have hM69 : Fq 0 [(1, 1), (1, 2), (1, 3), (1, 4), (1, 5), (1, 6), (2, 7), (2, 8), (2, 9), (2, 10), (2, 11), (3, 5), (3, 6), (3, 7), (3, 8), (3, 9), (3, 10), (3, 11), (3, 12), (3, 13), (3, 14), (3, 16), (3, 17), (3, 18), (3, 19), (3, 20), (4, 0), (5, 2), (5, 3), (5, 4), (5, 5), (5, 6), (5, 7), (6, 3), (6, 4), (6, 6), (6, 7), (6, 8), (7, 3), (7, 4), (7, 5), (7, 6), (7, 9), (7, 10), (7, 11), (7, 15), (8, 10), (8, 11), (8, 12), (8, 13), (8, 14), (8, 15), (8, 16), (8, 17), (8, 18), (9, 2), (9, 3), (10, 0), (10, 1), (10, 2), (10, 5), (10, 7), (10, 8), (10, 9), (11, 7), (11, 8), (11, 9), (11, 10), (11, 11), (11, 12), (11, 13), (11, 14), (11, 15), (11, 16), (11, 17), (11, 18), (12, 2), (12, 3), (12, 4), (20, -5), (21, -5), (22, -5), (24, -5), (25, -5), (26, -5), (27, -5)] m tg F F57 := Fq_t (ln := ln) (ln1 := ln) hM0 hX0 hM61 (by decide) (Or.inl rfl)
        have ho70 : own m56 (64) ∧ tg56 (64) = 1 := Ex_o hx59 ⟨o64.1, o64.2⟩
        have ho71 : own m56 (153) ∧ tg56 (153) = 22 := Ex_o hx59 ⟨o153.1, o153.2⟩
        have ln72 : ln56 (153) = 1 := (hx59.2 _ o153.1).2.trans hl
        clear hl
        have hX73 := Ex_t hX0 hx59
        refine Or.inr (Or.inl ⟨_, rfl, ?_⟩)
        refine jx_ld (pc_q := 168) (l_q := jSto1 L 5 (.int (i32 (r58)))) (st_q := []) rfl rfl ?_
        obtain ⟨L74, eL74⟩ : ∃ q : jL, q = jSto1 L 5 (.int (i32 (r58))) := ⟨_, rfl⟩
        rw [← eL74]
        have g75 : jGet L74 0 = some (.ref 63) := eL74 ▸ jg_ne (by decide) g0 rfl
        have g76 : jGet L74 1 = some (rv (64)) := eL74 ▸ jg_nr (by decide) g1
        have g77 : jGet L74 2 = some (.ref 66) := eL74 ▸ jg_ne (by decide) g2 rfl
        have g78 : jGet L74 3 = some (rv (153)) := eL74 ▸ jg_nr (by decide) g3
        have g79 : jGet L74 4 = some (.int (i32 (i))) := eL74 ▸ jg_ne (by decide) g4 rfl
        have g80 : jGet L74 5 = some (.int (i32 (r58))) := eL74 ▸ jg_eq
        clear eL74
        refine jx_ld (pc_q := 169) (l_q := L74) (st_q := [.ref 66]) rfl (jl_aloadn g77) ?_
        refine jx_ld (pc_q := 170) (l_q := L74) (st_q := [.ref 63, .ref 66]) rfl (jl_aloadn g75) ?_
        refine jx_ld (pc_q := 172) (l_q := L74) (st_q := [.int (i32 (i)), .ref 63, .ref 66]) rfl (jl_iload g79) ?_
        refine jx_ar (pc_q := 173) (st_q := [.int (i32 (1)), .int (i32 (i)), .ref 63, .ref 66]) rfl rfl rfl rfl ?_
        refine jx_add (pc_q := 174) rfl rfl ?_
        refine jx_sca (pc_q := 175) (z := (i + 1)) rfl rfl (by omega) (by omega) hL ?_
        refine rc_vi (pc_q := 178) (m := m56) (G := G) (A := A) (st := []) (as := [.int (i32 (sx X ((i + 1))))]) (by have := hC60.1; omega) rfl rfl rfl rfl ⟨rfl, rfl, (Nat.le_of_ble_eq_true rfl)⟩ rfl rfl (ri_end (dd := d) (by omega) hR (by omega) (by omega)) (fun o V_q hq => ?_)
        obtain ⟨G81, A81, rfl, rfl, hR81, hp81⟩ := hq
        refine Or.inl ⟨rfl, ?_⟩
        rw [← cr_V (by have := hC60.1; omega)]
        refine jx_ld (pc_q := 179) (l_q := L74) (st_q := [.ref 66]) rfl (jl_aloadn g77) ?_
        refine rc_vi (pc_q := 182) (m := m56) (G := G81) (A := A81) (st := []) (as := []) (by have := hC60.1; omega) rfl rfl rfl rfl ⟨rfl, rfl, (Nat.le_of_ble_eq_true rfl)⟩ rfl rfl (c_thrown (dd := d) (by omega) hR81.1 rfl) (fun o V_q hq => ?_)
        obtain ⟨r82, rfl, rfl, hbr82, her82, -⟩ := hq
        refine Or.inr ⟨_, rfl, ?_⟩
        rw [← cr_V (by have := hC60.1; omega)]
        refine jx_ld (pc_q := 184) (l_q := L74) (st_q := [.int (i32 (r58)), .int (i32 (r82))]) rfl (jl_iload g80) ?_
        refine jx_icmp_eq (pc_q := 187) (tg := 189) rfl rfl rfl (by omega) (by omega) (by omega) (by omega) (fun h83 => ?_) (fun h83 => ?_)
        · have _q := h83
          refine jx_go (tg := 734) rfl rfl ?_
          refine jx_inc (pc_q := 737) (l_q := jSto1 L74 4 (.int (i32 (i + (4))))) (x := i) rfl g79 (by decide) rfl rfl ?_
          obtain ⟨L84, eL84⟩ : ∃ q : jL, q = jSto1 L74 4 (.int (i32 ((i + (4))))) := ⟨_, rfl⟩
          rw [← eL84]
          have g85 : jGet L84 0 = some (.ref 63) := eL84 ▸ jg_ne (by decide) g75 rfl
          have g86 : jGet L84 1 = some (rv (64)) := eL84 ▸ jg_nr (by decide) g76
          have g87 : jGet L84 2 = some (.ref 66) := eL84 ▸ jg_ne (by decide) g77 rfl
          have g88 : jGet L84 3 = some (rv (153)) := eL84 ▸ jg_nr (by decide) g78
          have g89 : jGet L84 5 = some (.int (i32 (r58))) := eL84 ▸ jg_ne (by decide) g80 rfl
          have g90 : jGet L84 4 = some (.int (i32 ((i + (4))))) := eL84 ▸ jg_eq
          clear eL84
          refine jx_go (tg := 23) rfl rfl ?_
          have q91 : F57 (64) (5 : Int) = F (64) (5 : Int) := (show F57 (64) (5 : Int) = F (64) (5 : Int) from hM61 _ _ o64.1 (own_z o64.1) (by rw [o64.2]; rfl))
          have q92 : tz (F57 (64) (5 : Int)) = tz (F (64) (5 : Int)) := by rw [q91]
          exact ih _ (by omega) L84 G81 A81 m56 tg56 ln56 F57 ((i + (4))) (n + 1) rfl g85 g86 g87 g88 g90 hC60 c66 (SB_m c67 (by omega)) c68 hR81 ⟨ho70.1, ho70.2⟩ ⟨ho71.1, ho71.2⟩ (by omega) ((show F57 (153) ((-1) : Int) = F (153) ((-1) : Int) from hM61 _ _ o153.1 (own_z o153.1) (by rw [o153.2]; rfl)).trans s153) (by omega) (by omega) (by omega) (by omega) (by omega)
        · have _q := h83
          refine jx_ar (pc_q := 188) (st_q := [.int (i32 (0))]) rfl rfl rfl rfl ?_
          exfalso
          omega
      by_cases h93 : z3 = 2
      · refine jx_swe (tg := 192) h93 rfl rfl rfl rfl ?_
        refine jx_ld (pc_q := 193) (l_q := L) (st_q := [rv (64)]) rfl (jl_rvn g1) ?_
        refine cx_vi (c := 0) (a := 64) (st := []) (as := []) rfl rfl rfl o64.1 o64.2 (by decide) rfl ⟨rfl, rfl, (Nat.le_of_ble_eq_true rfl)⟩ rfl (k_LY_compile (dd := d) (R := rR G A) (m := m) (tg := tg) (ln := ln) (F := F) (me := 64) (hd := by omega) (hC := hC) (o_me := o64.1) (t_me := o64.2) (p_0 := by omega) (c_NP := c_NP) (kk := 30001 * n) (c_SB := c_SB) (c_T3 := c_T3)) (fun o V_q hq => ?_)
        obtain ⟨m94, tg94, ln94, F95, r96, rfl, rfl, hx97, hC98, hM99, b100, p101, p102, p103, p104, c105, c106, c107, -⟩ := hq
        have hM108 : Fq 0 [(1, 1), (1, 2), (1, 3), (1, 4), (1, 5), (1, 6), (2, 7), (2, 8), (2, 9), (2, 10), (2, 11), (3, 5), (3, 6), (3, 7), (3, 8), (3, 9), (3, 10), (3, 11), (3, 12), (3, 13), (3, 14), (3, 16), (3, 17), (3, 18), (3, 19), (3, 20), (4, 0), (5, 2), (5, 3), (5, 4), (5, 5), (5, 6), (5, 7), (6, 3), (6, 4), (6, 6), (6, 7), (6, 8), (7, 3), (7, 4), (7, 5), (7, 6), (7, 9), (7, 10), (7, 11), (7, 15), (8, 10), (8, 11), (8, 12), (8, 13), (8, 14), (8, 15), (8, 16), (8, 17), (8, 18), (9, 2), (9, 3), (10, 0), (10, 1), (10, 2), (10, 5), (10, 7), (10, 8), (10, 9), (11, 7), (11, 8), (11, 9), (11, 10), (11, 11), (11, 12), (11, 13), (11, 14), (11, 15), (11, 16), (11, 17), (11, 18), (12, 2), (12, 3), (12, 4), (20, -5), (21, -5), (22, -5), (24, -5), (25, -5), (26, -5), (27, -5)] m tg F F95 := Fq_t (ln := ln) (ln1 := ln) hM0 hX0 hM99 (by decide) (Or.inl rfl)
        have ho109 : own m94 (64) ∧ tg94 (64) = 1 := Ex_o hx97 ⟨o64.1, o64.2⟩
        have ho110 : own m94 (153) ∧ tg94 (153) = 22 := Ex_o hx97 ⟨o153.1, o153.2⟩
        have ln111 : ln94 (153) = 1 := (hx97.2 _ o153.1).2.trans hl
        clear hl
        have hX112 := Ex_t hX0 hx97
        refine Or.inr (Or.inl ⟨_, rfl, ?_⟩)
        refine jx_ar (pc_q := 197) (st_q := []) rfl rfl rfl rfl ?_
        refine jx_ld (pc_q := 198) (l_q := L) (st_q := [.ref 66]) rfl (jl_aloadn g2) ?_
        refine rc_vi (pc_q := 201) (m := m94) (G := G) (A := A) (st := []) (as := []) (by have := hC98.1; omega) rfl rfl rfl rfl ⟨rfl, rfl, (Nat.le_of_ble_eq_true rfl)⟩ rfl rfl (ri_compile (dd := d) (by omega) hR (by omega) ) (fun o V_q hq => ?_)
        obtain ⟨G113, A113, r113, rfl, rfl, hR113, hp113⟩ := hq
        refine Or.inr ⟨_, rfl, ?_⟩
        have _u := hp113
        rw [← cr_V (by have := hC98.1; omega)]
        refine jx_ar (pc_q := 202) (st_q := []) rfl rfl rfl rfl ?_
        refine jx_go (tg := 734) rfl rfl ?_
        refine jx_inc (pc_q := 737) (l_q := jSto1 L 4 (.int (i32 (i + (4))))) (x := i) rfl g4 (by decide) rfl rfl ?_
        obtain ⟨L114, eL114⟩ : ∃ q : jL, q = jSto1 L 4 (.int (i32 ((i + (4))))) := ⟨_, rfl⟩
        rw [← eL114]
        have g115 : jGet L114 0 = some (.ref 63) := eL114 ▸ jg_ne (by decide) g0 rfl
        have g116 : jGet L114 1 = some (rv (64)) := eL114 ▸ jg_nr (by decide) g1
        have g117 : jGet L114 2 = some (.ref 66) := eL114 ▸ jg_ne (by decide) g2 rfl
        have g118 : jGet L114 3 = some (rv (153)) := eL114 ▸ jg_nr (by decide) g3
        have g119 : jGet L114 4 = some (.int (i32 ((i + (4))))) := eL114 ▸ jg_eq
        clear eL114
        refine jx_go (tg := 23) rfl rfl ?_
        exact ih _ (by omega) L114 G113 A113 m94 tg94 ln94 F95 ((i + (4))) (n + 1) rfl g115 g116 g117 g118 g119 hC98 c105 (SB_m c106 (by omega)) c107 hR113 ⟨ho109.1, ho109.2⟩ ⟨ho110.1, ho110.2⟩ (by omega) ((show F95 (153) ((-1) : Int) = F (153) ((-1) : Int) from hM99 _ _ o153.1 (own_z o153.1) (by rw [o153.2]; rfl)).trans s153) (by omega) (by omega) (by omega) (by omega) (by omega)
      by_cases h120 : z3 = 3
      · refine jx_swe (tg := 205) h120 rfl rfl rfl rfl ?_
        refine jx_ld (pc_q := 206) (l_q := L) (st_q := [rv (64)]) rfl (jl_rvn g1) ?_
        refine jx_ld (pc_q := 207) (l_q := L) (st_q := [.ref 63, rv (64)]) rfl (jl_aloadn g0) ?_
        refine jx_ld (pc_q := 209) (l_q := L) (st_q := [.int (i32 (i)), .ref 63, rv (64)]) rfl (jl_iload g4) ?_
        refine jx_ar (pc_q := 210) (st_q := [.int (i32 (1)), .int (i32 (i)), .ref 63, rv (64)]) rfl rfl rfl rfl ?_
        refine jx_add (pc_q := 211) rfl rfl ?_
        refine jx_sca (pc_q := 212) (z := (i + 1)) rfl rfl (by omega) (by omega) hL ?_
        have b121 := sx_rg (X := X) (j := (i + 1))
        refine jx_ld (pc_q := 213) (l_q := L) (st_q := [rv (153), .int (i32 (sx X ((i + 1)))), rv (64)]) rfl (jl_rvn g3) ?_
        refine cx_st (st := []) (as := [rv (64), .int (i32 (sx X ((i + 1)))), rv (153)]) rfl rfl rfl ⟨rfl, (Nat.le_of_ble_eq_true rfl)⟩ rfl (k_LLaw_fault (dd := d) (R := rR G A) (m := m) (tg := tg) (ln := ln) (F := F) (x := 64) (p0 := sx X ((i + 1))) (ou := 153) (hd := by omega) (hC := hC) (o_x := o64.1) (t_x := o64.2) (h_p0 := by omega) (o_ou := o153.1) (t_ou := o153.2) (s_ou := s153) (p_0 := by omega) (c_NP := c_NP) (kk := 30001 * n) (c_SB := c_SB) (c_T3 := c_T3)) (fun o V_q hq => ?_)
        obtain ⟨m122, tg122, ln122, F123, r124, rfl, rfl, hx125, hC126, hM127, b128, p129, p130, c131, c132, c133, -⟩ := hq
        have hM134 : Fq 0 [(1, 1), (1, 2), (1, 3), (1, 4), (1, 5), (1, 6), (2, 7), (2, 8), (2, 9), (2, 10), (2, 11), (3, 5), (3, 6), (3, 7), (3, 8), (3, 9), (3, 10), (3, 11), (3, 12), (3, 13), (3, 14), (3, 16), (3, 17), (3, 18), (3, 19), (3, 20), (4, 0), (5, 2), (5, 3), (5, 4), (5, 5), (5, 6), (5, 7), (6, 3), (6, 4), (6, 6), (6, 7), (6, 8), (7, 3), (7, 4), (7, 5), (7, 6), (7, 9), (7, 10), (7, 11), (7, 15), (8, 10), (8, 11), (8, 12), (8, 13), (8, 14), (8, 15), (8, 16), (8, 17), (8, 18), (9, 2), (9, 3), (10, 0), (10, 1), (10, 2), (10, 5), (10, 7), (10, 8), (10, 9), (11, 7), (11, 8), (11, 9), (11, 10), (11, 11), (11, 12), (11, 13), (11, 14), (11, 15), (11, 16), (11, 17), (11, 18), (12, 2), (12, 3), (12, 4), (20, -5), (21, -5), (22, -5), (24, -5), (25, -5), (26, -5), (27, -5)] m tg F F123 := Fq_t (ln := ln) (ln1 := ln) hM0 hX0 hM127 (by decide) (Or.inl rfl)
        have ho135 : own m122 (64) ∧ tg122 (64) = 1 := Ex_o hx125 ⟨o64.1, o64.2⟩
        have ho136 : own m122 (153) ∧ tg122 (153) = 22 := Ex_o hx125 ⟨o153.1, o153.2⟩
        have ln137 : ln122 (153) = 1 := (hx125.2 _ o153.1).2.trans hl
        clear hl
        have hX138 := Ex_t hX0 hx125
        refine Or.inr (Or.inl ⟨_, rfl, ?_⟩)
        refine jx_ld (pc_q := 218) (l_q := jSto1 L 5 (.int (i32 (r124)))) (st_q := []) rfl rfl ?_
        obtain ⟨L139, eL139⟩ : ∃ q : jL, q = jSto1 L 5 (.int (i32 (r124))) := ⟨_, rfl⟩
        rw [← eL139]
        have g140 : jGet L139 0 = some (.ref 63) := eL139 ▸ jg_ne (by decide) g0 rfl
        have g141 : jGet L139 1 = some (rv (64)) := eL139 ▸ jg_nr (by decide) g1
        have g142 : jGet L139 2 = some (.ref 66) := eL139 ▸ jg_ne (by decide) g2 rfl
        have g143 : jGet L139 3 = some (rv (153)) := eL139 ▸ jg_nr (by decide) g3
        have g144 : jGet L139 4 = some (.int (i32 (i))) := eL139 ▸ jg_ne (by decide) g4 rfl
        have g145 : jGet L139 5 = some (.int (i32 (r124))) := eL139 ▸ jg_eq
        clear eL139
        refine jx_ld (pc_q := 219) (l_q := L139) (st_q := [.ref 66]) rfl (jl_aloadn g142) ?_
        refine jx_ld (pc_q := 220) (l_q := L139) (st_q := [.ref 63, .ref 66]) rfl (jl_aloadn g140) ?_
        refine jx_ld (pc_q := 222) (l_q := L139) (st_q := [.int (i32 (i)), .ref 63, .ref 66]) rfl (jl_iload g144) ?_
        refine jx_ar (pc_q := 223) (st_q := [.int (i32 (1)), .int (i32 (i)), .ref 63, .ref 66]) rfl rfl rfl rfl ?_
        refine jx_add (pc_q := 224) rfl rfl ?_
        refine jx_sca (pc_q := 225) (z := (i + 1)) rfl rfl (by omega) (by omega) hL ?_
        refine rc_vi (pc_q := 228) (m := m122) (G := G) (A := A) (st := []) (as := [.int (i32 (sx X ((i + 1))))]) (by have := hC126.1; omega) rfl rfl rfl rfl ⟨rfl, rfl, (Nat.le_of_ble_eq_true rfl)⟩ rfl rfl (ri_fault (dd := d) (by omega) hR (by omega) (by omega)) (fun o V_q hq => ?_)
        obtain ⟨G146, A146, r146, rfl, rfl, hR146, hp146⟩ := hq
        refine Or.inr ⟨_, rfl, ?_⟩
        have _u := hp146
        rw [← cr_V (by have := hC126.1; omega)]
        refine jx_ld (pc_q := 230) (l_q := jSto1 L139 6 (.int (i32 (r146)))) (st_q := []) rfl rfl ?_
        obtain ⟨L147, eL147⟩ : ∃ q : jL, q = jSto1 L139 6 (.int (i32 (r146))) := ⟨_, rfl⟩
        rw [← eL147]
        have g148 : jGet L147 0 = some (.ref 63) := eL147 ▸ jg_ne (by decide) g140 rfl
        have g149 : jGet L147 1 = some (rv (64)) := eL147 ▸ jg_nr (by decide) g141
        have g150 : jGet L147 2 = some (.ref 66) := eL147 ▸ jg_ne (by decide) g142 rfl
        have g151 : jGet L147 3 = some (rv (153)) := eL147 ▸ jg_nr (by decide) g143
        have g152 : jGet L147 4 = some (.int (i32 (i))) := eL147 ▸ jg_ne (by decide) g144 rfl
        have g153 : jGet L147 5 = some (.int (i32 (r124))) := eL147 ▸ jg_ne (by decide) g145 rfl
        have g154 : jGet L147 6 = some (.int (i32 (r146))) := eL147 ▸ jg_eq
        clear eL147
        refine jx_go (tg := 734) rfl rfl ?_
        refine jx_inc (pc_q := 737) (l_q := jSto1 L147 4 (.int (i32 (i + (4))))) (x := i) rfl g152 (by decide) rfl rfl ?_
        obtain ⟨L155, eL155⟩ : ∃ q : jL, q = jSto1 L147 4 (.int (i32 ((i + (4))))) := ⟨_, rfl⟩
        rw [← eL155]
        have g156 : jGet L155 0 = some (.ref 63) := eL155 ▸ jg_ne (by decide) g148 rfl
        have g157 : jGet L155 1 = some (rv (64)) := eL155 ▸ jg_nr (by decide) g149
        have g158 : jGet L155 2 = some (.ref 66) := eL155 ▸ jg_ne (by decide) g150 rfl
        have g159 : jGet L155 3 = some (rv (153)) := eL155 ▸ jg_nr (by decide) g151
        have g160 : jGet L155 5 = some (.int (i32 (r124))) := eL155 ▸ jg_ne (by decide) g153 rfl
        have g161 : jGet L155 6 = some (.int (i32 (r146))) := eL155 ▸ jg_ne (by decide) g154 rfl
        have g162 : jGet L155 4 = some (.int (i32 ((i + (4))))) := eL155 ▸ jg_eq
        clear eL155
        refine jx_go (tg := 23) rfl rfl ?_
        have q163 : F123 (64) (1 : Int) = F (64) (1 : Int) := (show F123 (64) (1 : Int) = F (64) (1 : Int) from hM127 _ _ o64.1 (own_z o64.1) (by rw [o64.2]; rfl))
        have q164 : F123 (64) (5 : Int) = F (64) (5 : Int) := (show F123 (64) (5 : Int) = F (64) (5 : Int) from hM127 _ _ o64.1 (own_z o64.1) (by rw [o64.2]; rfl))
        have q165 : tz (F123 (64) (5 : Int)) = tz (F (64) (5 : Int)) := by rw [q164]
        exact ih _ (by omega) L155 G146 A146 m122 tg122 ln122 F123 ((i + (4))) (n + 1) rfl g156 g157 g158 g159 g162 hC126 c131 (SB_m c132 (by omega)) c133 hR146 ⟨ho135.1, ho135.2⟩ ⟨ho136.1, ho136.2⟩ (by omega) ((show F123 (153) ((-1) : Int) = F (153) ((-1) : Int) from hM127 _ _ o153.1 (own_z o153.1) (by rw [o153.2]; rfl)).trans s153) (by omega) (by omega) (by omega) (by omega) (by omega)
      by_cases h166 : z3 = 4
      · refine jx_swe (tg := 233) h166 rfl rfl rfl rfl ?_
        refine jx_ld (pc_q := 234) (l_q := L) (st_q := [rv (64)]) rfl (jl_rvn g1) ?_
        refine jx_ld (pc_q := 235) (l_q := L) (st_q := [.ref 63, rv (64)]) rfl (jl_aloadn g0) ?_
        refine jx_ld (pc_q := 237) (l_q := L) (st_q := [.int (i32 (i)), .ref 63, rv (64)]) rfl (jl_iload g4) ?_
        refine jx_ar (pc_q := 238) (st_q := [.int (i32 (1)), .int (i32 (i)), .ref 63, rv (64)]) rfl rfl rfl rfl ?_
        refine jx_add (pc_q := 239) rfl rfl ?_
        refine jx_sca (pc_q := 240) (z := (i + 1)) rfl rfl (by omega) (by omega) hL ?_
        have b167 := sx_rg (X := X) (j := (i + 1))
        refine jx_ld (pc_q := 241) (l_q := L) (st_q := [.ref 63, .int (i32 (sx X ((i + 1)))), rv (64)]) rfl (jl_aloadn g0) ?_
        refine jx_ld (pc_q := 243) (l_q := L) (st_q := [.int (i32 (i)), .ref 63, .int (i32 (sx X ((i + 1)))), rv (64)]) rfl (jl_iload g4) ?_
        refine jx_ar (pc_q := 244) (st_q := [.int (i32 (2)), .int (i32 (i)), .ref 63, .int (i32 (sx X ((i + 1)))), rv (64)]) rfl rfl rfl rfl ?_
        refine jx_add (pc_q := 245) rfl rfl ?_
        refine jx_sca (pc_q := 246) (z := (i + 2)) rfl rfl (by omega) (by omega) hL ?_
        have b168 := sx_rg (X := X) (j := (i + 2))
        refine jx_ld (pc_q := 247) (l_q := L) (st_q := [rv (153), .int (i32 (sx X ((i + 2)))), .int (i32 (sx X ((i + 1)))), rv (64)]) rfl (jl_rvn g3) ?_
        refine cx_st (st := []) (as := [rv (64), .int (i32 (sx X ((i + 1)))), .int (i32 (sx X ((i + 2)))), rv (153)]) rfl rfl rfl ⟨rfl, (Nat.le_of_ble_eq_true rfl)⟩ rfl (k_LLaw_processor (dd := d) (R := rR G A) (m := m) (tg := tg) (ln := ln) (F := F) (x := 64) (p0 := sx X ((i + 1))) (p1 := sx X ((i + 2))) (ou := 153) (hd := by omega) (hC := hC) (o_x := o64.1) (t_x := o64.2) (h_p0 := by omega) (h_p1 := by omega) (o_ou := o153.1) (t_ou := o153.2) (s_ou := s153) (p_0 := by omega) (c_NP := c_NP) (kk := 30001 * n) (c_SB := c_SB) (c_T3 := c_T3)) (fun o V_q hq => ?_)
        obtain ⟨m169, tg169, ln169, F170, r171, rfl, rfl, hx172, hC173, hM174, b175, p176, p177, c178, c179, c180, -⟩ := hq
        have hM181 : Fq 0 [(1, 1), (1, 2), (1, 3), (1, 4), (1, 5), (1, 6), (2, 7), (2, 8), (2, 9), (2, 10), (2, 11), (3, 5), (3, 6), (3, 7), (3, 8), (3, 9), (3, 10), (3, 11), (3, 12), (3, 13), (3, 14), (3, 16), (3, 17), (3, 18), (3, 19), (3, 20), (4, 0), (5, 2), (5, 3), (5, 4), (5, 5), (5, 6), (5, 7), (6, 3), (6, 4), (6, 6), (6, 7), (6, 8), (7, 3), (7, 4), (7, 5), (7, 6), (7, 9), (7, 10), (7, 11), (7, 15), (8, 10), (8, 11), (8, 12), (8, 13), (8, 14), (8, 15), (8, 16), (8, 17), (8, 18), (9, 2), (9, 3), (10, 0), (10, 1), (10, 2), (10, 5), (10, 7), (10, 8), (10, 9), (11, 7), (11, 8), (11, 9), (11, 10), (11, 11), (11, 12), (11, 13), (11, 14), (11, 15), (11, 16), (11, 17), (11, 18), (12, 2), (12, 3), (12, 4), (20, -5), (21, -5), (22, -5), (24, -5), (25, -5), (26, -5), (27, -5)] m tg F F170 := Fq_t (ln := ln) (ln1 := ln) hM0 hX0 hM174 (by decide) (Or.inl rfl)
        have ho182 : own m169 (64) ∧ tg169 (64) = 1 := Ex_o hx172 ⟨o64.1, o64.2⟩
        have ho183 : own m169 (153) ∧ tg169 (153) = 22 := Ex_o hx172 ⟨o153.1, o153.2⟩
        have ln184 : ln169 (153) = 1 := (hx172.2 _ o153.1).2.trans hl
        clear hl
        have hX185 := Ex_t hX0 hx172
        refine Or.inr (Or.inl ⟨_, rfl, ?_⟩)
        refine jx_ld (pc_q := 252) (l_q := jSto1 L 5 (.int (i32 (r171)))) (st_q := []) rfl rfl ?_
        obtain ⟨L186, eL186⟩ : ∃ q : jL, q = jSto1 L 5 (.int (i32 (r171))) := ⟨_, rfl⟩
        rw [← eL186]
        have g187 : jGet L186 0 = some (.ref 63) := eL186 ▸ jg_ne (by decide) g0 rfl
        have g188 : jGet L186 1 = some (rv (64)) := eL186 ▸ jg_nr (by decide) g1
        have g189 : jGet L186 2 = some (.ref 66) := eL186 ▸ jg_ne (by decide) g2 rfl
        have g190 : jGet L186 3 = some (rv (153)) := eL186 ▸ jg_nr (by decide) g3
        have g191 : jGet L186 4 = some (.int (i32 (i))) := eL186 ▸ jg_ne (by decide) g4 rfl
        have g192 : jGet L186 5 = some (.int (i32 (r171))) := eL186 ▸ jg_eq
        clear eL186
        refine jx_ld (pc_q := 253) (l_q := L186) (st_q := [.ref 66]) rfl (jl_aloadn g189) ?_
        refine jx_ld (pc_q := 254) (l_q := L186) (st_q := [.ref 63, .ref 66]) rfl (jl_aloadn g187) ?_
        refine jx_ld (pc_q := 256) (l_q := L186) (st_q := [.int (i32 (i)), .ref 63, .ref 66]) rfl (jl_iload g191) ?_
        refine jx_ar (pc_q := 257) (st_q := [.int (i32 (1)), .int (i32 (i)), .ref 63, .ref 66]) rfl rfl rfl rfl ?_
        refine jx_add (pc_q := 258) rfl rfl ?_
        refine jx_sca (pc_q := 259) (z := (i + 1)) rfl rfl (by omega) (by omega) hL ?_
        refine jx_ld (pc_q := 260) (l_q := L186) (st_q := [.ref 63, .int (i32 (sx X ((i + 1)))), .ref 66]) rfl (jl_aloadn g187) ?_
        refine jx_ld (pc_q := 262) (l_q := L186) (st_q := [.int (i32 (i)), .ref 63, .int (i32 (sx X ((i + 1)))), .ref 66]) rfl (jl_iload g191) ?_
        refine jx_ar (pc_q := 263) (st_q := [.int (i32 (2)), .int (i32 (i)), .ref 63, .int (i32 (sx X ((i + 1)))), .ref 66]) rfl rfl rfl rfl ?_
        refine jx_add (pc_q := 264) rfl rfl ?_
        refine jx_sca (pc_q := 265) (z := (i + 2)) rfl rfl (by omega) (by omega) hL ?_
        refine rc_vi (pc_q := 268) (m := m169) (G := G) (A := A) (st := []) (as := [.int (i32 (sx X ((i + 1)))), .int (i32 (sx X ((i + 2))))]) (by have := hC173.1; omega) rfl rfl rfl rfl ⟨rfl, rfl, (Nat.le_of_ble_eq_true rfl)⟩ rfl rfl (ri_processor (dd := d) (by omega) hR (by omega) (by omega) (by omega)) (fun o V_q hq => ?_)
        obtain ⟨G193, A193, r193, rfl, rfl, hR193, hp193⟩ := hq
        refine Or.inr ⟨_, rfl, ?_⟩
        have _u := hp193
        rw [← cr_V (by have := hC173.1; omega)]
        refine jx_ld (pc_q := 270) (l_q := jSto1 L186 6 (.int (i32 (r193)))) (st_q := []) rfl rfl ?_
        obtain ⟨L194, eL194⟩ : ∃ q : jL, q = jSto1 L186 6 (.int (i32 (r193))) := ⟨_, rfl⟩
        rw [← eL194]
        have g195 : jGet L194 0 = some (.ref 63) := eL194 ▸ jg_ne (by decide) g187 rfl
        have g196 : jGet L194 1 = some (rv (64)) := eL194 ▸ jg_nr (by decide) g188
        have g197 : jGet L194 2 = some (.ref 66) := eL194 ▸ jg_ne (by decide) g189 rfl
        have g198 : jGet L194 3 = some (rv (153)) := eL194 ▸ jg_nr (by decide) g190
        have g199 : jGet L194 4 = some (.int (i32 (i))) := eL194 ▸ jg_ne (by decide) g191 rfl
        have g200 : jGet L194 5 = some (.int (i32 (r171))) := eL194 ▸ jg_ne (by decide) g192 rfl
        have g201 : jGet L194 6 = some (.int (i32 (r193))) := eL194 ▸ jg_eq
        clear eL194
        refine jx_go (tg := 734) rfl rfl ?_
        refine jx_inc (pc_q := 737) (l_q := jSto1 L194 4 (.int (i32 (i + (4))))) (x := i) rfl g199 (by decide) rfl rfl ?_
        obtain ⟨L202, eL202⟩ : ∃ q : jL, q = jSto1 L194 4 (.int (i32 ((i + (4))))) := ⟨_, rfl⟩
        rw [← eL202]
        have g203 : jGet L202 0 = some (.ref 63) := eL202 ▸ jg_ne (by decide) g195 rfl
        have g204 : jGet L202 1 = some (rv (64)) := eL202 ▸ jg_nr (by decide) g196
        have g205 : jGet L202 2 = some (.ref 66) := eL202 ▸ jg_ne (by decide) g197 rfl
        have g206 : jGet L202 3 = some (rv (153)) := eL202 ▸ jg_nr (by decide) g198
        have g207 : jGet L202 5 = some (.int (i32 (r171))) := eL202 ▸ jg_ne (by decide) g200 rfl
        have g208 : jGet L202 6 = some (.int (i32 (r193))) := eL202 ▸ jg_ne (by decide) g201 rfl
        have g209 : jGet L202 4 = some (.int (i32 ((i + (4))))) := eL202 ▸ jg_eq
        clear eL202
        refine jx_go (tg := 23) rfl rfl ?_
        have q210 : F170 (64) (1 : Int) = F (64) (1 : Int) := (show F170 (64) (1 : Int) = F (64) (1 : Int) from hM174 _ _ o64.1 (own_z o64.1) (by rw [o64.2]; rfl))
        have q211 : F170 (64) (5 : Int) = F (64) (5 : Int) := (show F170 (64) (5 : Int) = F (64) (5 : Int) from hM174 _ _ o64.1 (own_z o64.1) (by rw [o64.2]; rfl))
        have q212 : tz (F170 (64) (5 : Int)) = tz (F (64) (5 : Int)) := by rw [q211]
        exact ih _ (by omega) L202 G193 A193 m169 tg169 ln169 F170 ((i + (4))) (n + 1) rfl g203 g204 g205 g206 g209 hC173 c178 (SB_m c179 (by omega)) c180 hR193 ⟨ho182.1, ho182.2⟩ ⟨ho183.1, ho183.2⟩ (by omega) ((show F170 (153) ((-1) : Int) = F (153) ((-1) : Int) from hM174 _ _ o153.1 (own_z o153.1) (by rw [o153.2]; rfl)).trans s153) (by omega) (by omega) (by omega) (by omega) (by omega)
      by_cases h213 : z3 = 5
      · refine jx_swe (tg := 273) h213 rfl rfl rfl rfl ?_
        refine jx_ld (pc_q := 274) (l_q := L) (st_q := [rv (64)]) rfl (jl_rvn g1) ?_
        refine jx_ld (pc_q := 275) (l_q := L) (st_q := [.ref 63, rv (64)]) rfl (jl_aloadn g0) ?_
        refine jx_ld (pc_q := 277) (l_q := L) (st_q := [.int (i32 (i)), .ref 63, rv (64)]) rfl (jl_iload g4) ?_
        refine jx_ar (pc_q := 278) (st_q := [.int (i32 (1)), .int (i32 (i)), .ref 63, rv (64)]) rfl rfl rfl rfl ?_
        refine jx_add (pc_q := 279) rfl rfl ?_
        refine jx_sca (pc_q := 280) (z := (i + 1)) rfl rfl (by omega) (by omega) hL ?_
        have b214 := sx_rg (X := X) (j := (i + 1))
        refine jx_ld (pc_q := 281) (l_q := L) (st_q := [.ref 63, .int (i32 (sx X ((i + 1)))), rv (64)]) rfl (jl_aloadn g0) ?_
        refine jx_ld (pc_q := 283) (l_q := L) (st_q := [.int (i32 (i)), .ref 63, .int (i32 (sx X ((i + 1)))), rv (64)]) rfl (jl_iload g4) ?_
        refine jx_ar (pc_q := 284) (st_q := [.int (i32 (2)), .int (i32 (i)), .ref 63, .int (i32 (sx X ((i + 1)))), rv (64)]) rfl rfl rfl rfl ?_
        refine jx_add (pc_q := 285) rfl rfl ?_
        refine jx_sca (pc_q := 286) (z := (i + 2)) rfl rfl (by omega) (by omega) hL ?_
        have b215 := sx_rg (X := X) (j := (i + 2))
        refine jx_ld (pc_q := 287) (l_q := L) (st_q := [rv (153), .int (i32 (sx X ((i + 2)))), .int (i32 (sx X ((i + 1)))), rv (64)]) rfl (jl_rvn g3) ?_
        refine cx_st (st := []) (as := [rv (64), .int (i32 (sx X ((i + 1)))), .int (i32 (sx X ((i + 2)))), rv (153)]) rfl rfl rfl ⟨rfl, (Nat.le_of_ble_eq_true rfl)⟩ rfl (k_LLaw_code (dd := d) (R := rR G A) (m := m) (tg := tg) (ln := ln) (F := F) (x := 64) (p0 := sx X ((i + 1))) (p1 := sx X ((i + 2))) (ou := 153) (hd := by omega) (hC := hC) (o_x := o64.1) (t_x := o64.2) (h_p0 := by omega) (h_p1 := by omega) (o_ou := o153.1) (t_ou := o153.2) (s_ou := s153) (p_0 := by omega) (c_NP := c_NP) (kk := 30001 * n) (c_SB := c_SB) (c_T3 := c_T3)) (fun o V_q hq => ?_)
        obtain ⟨m216, tg216, ln216, F217, r218, rfl, rfl, hx219, hC220, hM221, b222, p223, p224, c225, c226, c227, -⟩ := hq
        have hM228 : Fq 0 [(1, 1), (1, 2), (1, 3), (1, 4), (1, 5), (1, 6), (2, 7), (2, 8), (2, 9), (2, 10), (2, 11), (3, 5), (3, 6), (3, 7), (3, 8), (3, 9), (3, 10), (3, 11), (3, 12), (3, 13), (3, 14), (3, 16), (3, 17), (3, 18), (3, 19), (3, 20), (4, 0), (5, 2), (5, 3), (5, 4), (5, 5), (5, 6), (5, 7), (6, 3), (6, 4), (6, 6), (6, 7), (6, 8), (7, 3), (7, 4), (7, 5), (7, 6), (7, 9), (7, 10), (7, 11), (7, 15), (8, 10), (8, 11), (8, 12), (8, 13), (8, 14), (8, 15), (8, 16), (8, 17), (8, 18), (9, 2), (9, 3), (10, 0), (10, 1), (10, 2), (10, 5), (10, 7), (10, 8), (10, 9), (11, 7), (11, 8), (11, 9), (11, 10), (11, 11), (11, 12), (11, 13), (11, 14), (11, 15), (11, 16), (11, 17), (11, 18), (12, 2), (12, 3), (12, 4), (20, -5), (21, -5), (22, -5), (24, -5), (25, -5), (26, -5), (27, -5)] m tg F F217 := Fq_t (ln := ln) (ln1 := ln) hM0 hX0 hM221 (by decide) (Or.inl rfl)
        have ho229 : own m216 (64) ∧ tg216 (64) = 1 := Ex_o hx219 ⟨o64.1, o64.2⟩
        have ho230 : own m216 (153) ∧ tg216 (153) = 22 := Ex_o hx219 ⟨o153.1, o153.2⟩
        have ln231 : ln216 (153) = 1 := (hx219.2 _ o153.1).2.trans hl
        clear hl
        have hX232 := Ex_t hX0 hx219
        refine Or.inr (Or.inl ⟨_, rfl, ?_⟩)
        refine jx_ld (pc_q := 292) (l_q := jSto1 L 5 (.int (i32 (r218)))) (st_q := []) rfl rfl ?_
        obtain ⟨L233, eL233⟩ : ∃ q : jL, q = jSto1 L 5 (.int (i32 (r218))) := ⟨_, rfl⟩
        rw [← eL233]
        have g234 : jGet L233 0 = some (.ref 63) := eL233 ▸ jg_ne (by decide) g0 rfl
        have g235 : jGet L233 1 = some (rv (64)) := eL233 ▸ jg_nr (by decide) g1
        have g236 : jGet L233 2 = some (.ref 66) := eL233 ▸ jg_ne (by decide) g2 rfl
        have g237 : jGet L233 3 = some (rv (153)) := eL233 ▸ jg_nr (by decide) g3
        have g238 : jGet L233 4 = some (.int (i32 (i))) := eL233 ▸ jg_ne (by decide) g4 rfl
        have g239 : jGet L233 5 = some (.int (i32 (r218))) := eL233 ▸ jg_eq
        clear eL233
        refine jx_ld (pc_q := 293) (l_q := L233) (st_q := [.ref 66]) rfl (jl_aloadn g236) ?_
        refine jx_ld (pc_q := 294) (l_q := L233) (st_q := [.ref 63, .ref 66]) rfl (jl_aloadn g234) ?_
        refine jx_ld (pc_q := 296) (l_q := L233) (st_q := [.int (i32 (i)), .ref 63, .ref 66]) rfl (jl_iload g238) ?_
        refine jx_ar (pc_q := 297) (st_q := [.int (i32 (1)), .int (i32 (i)), .ref 63, .ref 66]) rfl rfl rfl rfl ?_
        refine jx_add (pc_q := 298) rfl rfl ?_
        refine jx_sca (pc_q := 299) (z := (i + 1)) rfl rfl (by omega) (by omega) hL ?_
        refine jx_ld (pc_q := 300) (l_q := L233) (st_q := [.ref 63, .int (i32 (sx X ((i + 1)))), .ref 66]) rfl (jl_aloadn g234) ?_
        refine jx_ld (pc_q := 302) (l_q := L233) (st_q := [.int (i32 (i)), .ref 63, .int (i32 (sx X ((i + 1)))), .ref 66]) rfl (jl_iload g238) ?_
        refine jx_ar (pc_q := 303) (st_q := [.int (i32 (2)), .int (i32 (i)), .ref 63, .int (i32 (sx X ((i + 1)))), .ref 66]) rfl rfl rfl rfl ?_
        refine jx_add (pc_q := 304) rfl rfl ?_
        refine jx_sca (pc_q := 305) (z := (i + 2)) rfl rfl (by omega) (by omega) hL ?_
        refine rc_vi (pc_q := 308) (m := m216) (G := G) (A := A) (st := []) (as := [.int (i32 (sx X ((i + 1)))), .int (i32 (sx X ((i + 2))))]) (by have := hC220.1; omega) rfl rfl rfl rfl ⟨rfl, rfl, (Nat.le_of_ble_eq_true rfl)⟩ rfl rfl (ri_code (dd := d) (by omega) hR (by omega) (by omega) (by omega)) (fun o V_q hq => ?_)
        obtain ⟨G240, A240, r240, rfl, rfl, hR240, hp240⟩ := hq
        refine Or.inr ⟨_, rfl, ?_⟩
        have _u := hp240
        rw [← cr_V (by have := hC220.1; omega)]
        refine jx_ld (pc_q := 310) (l_q := jSto1 L233 6 (.int (i32 (r240)))) (st_q := []) rfl rfl ?_
        obtain ⟨L241, eL241⟩ : ∃ q : jL, q = jSto1 L233 6 (.int (i32 (r240))) := ⟨_, rfl⟩
        rw [← eL241]
        have g242 : jGet L241 0 = some (.ref 63) := eL241 ▸ jg_ne (by decide) g234 rfl
        have g243 : jGet L241 1 = some (rv (64)) := eL241 ▸ jg_nr (by decide) g235
        have g244 : jGet L241 2 = some (.ref 66) := eL241 ▸ jg_ne (by decide) g236 rfl
        have g245 : jGet L241 3 = some (rv (153)) := eL241 ▸ jg_nr (by decide) g237
        have g246 : jGet L241 4 = some (.int (i32 (i))) := eL241 ▸ jg_ne (by decide) g238 rfl
        have g247 : jGet L241 5 = some (.int (i32 (r218))) := eL241 ▸ jg_ne (by decide) g239 rfl
        have g248 : jGet L241 6 = some (.int (i32 (r240))) := eL241 ▸ jg_eq
        clear eL241
        refine jx_go (tg := 734) rfl rfl ?_
        refine jx_inc (pc_q := 737) (l_q := jSto1 L241 4 (.int (i32 (i + (4))))) (x := i) rfl g246 (by decide) rfl rfl ?_
        obtain ⟨L249, eL249⟩ : ∃ q : jL, q = jSto1 L241 4 (.int (i32 ((i + (4))))) := ⟨_, rfl⟩
        rw [← eL249]
        have g250 : jGet L249 0 = some (.ref 63) := eL249 ▸ jg_ne (by decide) g242 rfl
        have g251 : jGet L249 1 = some (rv (64)) := eL249 ▸ jg_nr (by decide) g243
        have g252 : jGet L249 2 = some (.ref 66) := eL249 ▸ jg_ne (by decide) g244 rfl
        have g253 : jGet L249 3 = some (rv (153)) := eL249 ▸ jg_nr (by decide) g245
        have g254 : jGet L249 5 = some (.int (i32 (r218))) := eL249 ▸ jg_ne (by decide) g247 rfl
        have g255 : jGet L249 6 = some (.int (i32 (r240))) := eL249 ▸ jg_ne (by decide) g248 rfl
        have g256 : jGet L249 4 = some (.int (i32 ((i + (4))))) := eL249 ▸ jg_eq
        clear eL249
        refine jx_go (tg := 23) rfl rfl ?_
        have q257 : F217 (64) (1 : Int) = F (64) (1 : Int) := (show F217 (64) (1 : Int) = F (64) (1 : Int) from hM221 _ _ o64.1 (own_z o64.1) (by rw [o64.2]; rfl))
        have q258 : F217 (64) (5 : Int) = F (64) (5 : Int) := (show F217 (64) (5 : Int) = F (64) (5 : Int) from hM221 _ _ o64.1 (own_z o64.1) (by rw [o64.2]; rfl))
        have q259 : tz (F217 (64) (5 : Int)) = tz (F (64) (5 : Int)) := by rw [q258]
        exact ih _ (by omega) L249 G240 A240 m216 tg216 ln216 F217 ((i + (4))) (n + 1) rfl g250 g251 g252 g253 g256 hC220 c225 (SB_m c226 (by omega)) c227 hR240 ⟨ho229.1, ho229.2⟩ ⟨ho230.1, ho230.2⟩ (by omega) ((show F217 (153) ((-1) : Int) = F (153) ((-1) : Int) from hM221 _ _ o153.1 (own_z o153.1) (by rw [o153.2]; rfl)).trans s153) (by omega) (by omega) (by omega) (by omega) (by omega)
      by_cases h260 : z3 = 6
      · refine jx_swe (tg := 313) h260 rfl rfl rfl rfl ?_
        refine jx_ld (pc_q := 314) (l_q := L) (st_q := [rv (64)]) rfl (jl_rvn g1) ?_
        refine jx_ld (pc_q := 315) (l_q := L) (st_q := [.ref 63, rv (64)]) rfl (jl_aloadn g0) ?_
        refine jx_ld (pc_q := 317) (l_q := L) (st_q := [.int (i32 (i)), .ref 63, rv (64)]) rfl (jl_iload g4) ?_
        refine jx_ar (pc_q := 318) (st_q := [.int (i32 (1)), .int (i32 (i)), .ref 63, rv (64)]) rfl rfl rfl rfl ?_
        refine jx_add (pc_q := 319) rfl rfl ?_
        refine jx_sca (pc_q := 320) (z := (i + 1)) rfl rfl (by omega) (by omega) hL ?_
        have b261 := sx_rg (X := X) (j := (i + 1))
        refine jx_ld (pc_q := 321) (l_q := L) (st_q := [.ref 63, .int (i32 (sx X ((i + 1)))), rv (64)]) rfl (jl_aloadn g0) ?_
        refine jx_ld (pc_q := 323) (l_q := L) (st_q := [.int (i32 (i)), .ref 63, .int (i32 (sx X ((i + 1)))), rv (64)]) rfl (jl_iload g4) ?_
        refine jx_ar (pc_q := 324) (st_q := [.int (i32 (2)), .int (i32 (i)), .ref 63, .int (i32 (sx X ((i + 1)))), rv (64)]) rfl rfl rfl rfl ?_
        refine jx_add (pc_q := 325) rfl rfl ?_
        refine jx_sca (pc_q := 326) (z := (i + 2)) rfl rfl (by omega) (by omega) hL ?_
        have b262 := sx_rg (X := X) (j := (i + 2))
        refine jx_ld (pc_q := 327) (l_q := L) (st_q := [.ref 63, .int (i32 (sx X ((i + 2)))), .int (i32 (sx X ((i + 1)))), rv (64)]) rfl (jl_aloadn g0) ?_
        refine jx_ld (pc_q := 329) (l_q := L) (st_q := [.int (i32 (i)), .ref 63, .int (i32 (sx X ((i + 2)))), .int (i32 (sx X ((i + 1)))), rv (64)]) rfl (jl_iload g4) ?_
        refine jx_ar (pc_q := 330) (st_q := [.int (i32 (3)), .int (i32 (i)), .ref 63, .int (i32 (sx X ((i + 2)))), .int (i32 (sx X ((i + 1)))), rv (64)]) rfl rfl rfl rfl ?_
        refine jx_add (pc_q := 331) rfl rfl ?_
        refine jx_sca (pc_q := 332) (z := (i + 3)) rfl rfl (by omega) (by omega) hL ?_
        have b263 := sx_rg (X := X) (j := (i + 3))
        refine jx_ld (pc_q := 333) (l_q := L) (st_q := [rv (153), .int (i32 (sx X ((i + 3)))), .int (i32 (sx X ((i + 2)))), .int (i32 (sx X ((i + 1)))), rv (64)]) rfl (jl_rvn g3) ?_
        refine cx_st (st := []) (as := [rv (64), .int (i32 (sx X ((i + 1)))), .int (i32 (sx X ((i + 2)))), .int (i32 (sx X ((i + 3)))), rv (153)]) rfl rfl rfl ⟨rfl, (Nat.le_of_ble_eq_true rfl)⟩ rfl (k_LLaw_instruction (dd := d) (R := rR G A) (m := m) (tg := tg) (ln := ln) (F := F) (x := 64) (p0 := sx X ((i + 1))) (p1 := sx X ((i + 2))) (p2 := sx X ((i + 3))) (ou := 153) (hd := by omega) (hC := hC) (o_x := o64.1) (t_x := o64.2) (h_p0 := by omega) (h_p1 := by omega) (h_p2 := by omega) (o_ou := o153.1) (t_ou := o153.2) (s_ou := s153) (p_0 := by omega) (c_NP := c_NP) (kk := 30001 * n) (c_SB := c_SB) (c_T3 := c_T3)) (fun o V_q hq => ?_)
        obtain ⟨m264, tg264, ln264, F265, r266, rfl, rfl, hx267, hC268, hM269, b270, p271, p272, c273, c274, c275, -⟩ := hq
        have hM276 : Fq 0 [(1, 1), (1, 2), (1, 3), (1, 4), (1, 5), (1, 6), (2, 7), (2, 8), (2, 9), (2, 10), (2, 11), (3, 5), (3, 6), (3, 7), (3, 8), (3, 9), (3, 10), (3, 11), (3, 12), (3, 13), (3, 14), (3, 16), (3, 17), (3, 18), (3, 19), (3, 20), (4, 0), (5, 2), (5, 3), (5, 4), (5, 5), (5, 6), (5, 7), (6, 3), (6, 4), (6, 6), (6, 7), (6, 8), (7, 3), (7, 4), (7, 5), (7, 6), (7, 9), (7, 10), (7, 11), (7, 15), (8, 10), (8, 11), (8, 12), (8, 13), (8, 14), (8, 15), (8, 16), (8, 17), (8, 18), (9, 2), (9, 3), (10, 0), (10, 1), (10, 2), (10, 5), (10, 7), (10, 8), (10, 9), (11, 7), (11, 8), (11, 9), (11, 10), (11, 11), (11, 12), (11, 13), (11, 14), (11, 15), (11, 16), (11, 17), (11, 18), (12, 2), (12, 3), (12, 4), (20, -5), (21, -5), (22, -5), (24, -5), (25, -5), (26, -5), (27, -5)] m tg F F265 := Fq_t (ln := ln) (ln1 := ln) hM0 hX0 hM269 (by decide) (Or.inl rfl)
        have ho277 : own m264 (64) ∧ tg264 (64) = 1 := Ex_o hx267 ⟨o64.1, o64.2⟩
        have ho278 : own m264 (153) ∧ tg264 (153) = 22 := Ex_o hx267 ⟨o153.1, o153.2⟩
        have ln279 : ln264 (153) = 1 := (hx267.2 _ o153.1).2.trans hl
        clear hl
        have hX280 := Ex_t hX0 hx267
        refine Or.inr (Or.inl ⟨_, rfl, ?_⟩)
        refine jx_ld (pc_q := 338) (l_q := jSto1 L 5 (.int (i32 (r266)))) (st_q := []) rfl rfl ?_
        obtain ⟨L281, eL281⟩ : ∃ q : jL, q = jSto1 L 5 (.int (i32 (r266))) := ⟨_, rfl⟩
        rw [← eL281]
        have g282 : jGet L281 0 = some (.ref 63) := eL281 ▸ jg_ne (by decide) g0 rfl
        have g283 : jGet L281 1 = some (rv (64)) := eL281 ▸ jg_nr (by decide) g1
        have g284 : jGet L281 2 = some (.ref 66) := eL281 ▸ jg_ne (by decide) g2 rfl
        have g285 : jGet L281 3 = some (rv (153)) := eL281 ▸ jg_nr (by decide) g3
        have g286 : jGet L281 4 = some (.int (i32 (i))) := eL281 ▸ jg_ne (by decide) g4 rfl
        have g287 : jGet L281 5 = some (.int (i32 (r266))) := eL281 ▸ jg_eq
        clear eL281
        refine jx_ld (pc_q := 339) (l_q := L281) (st_q := [.ref 66]) rfl (jl_aloadn g284) ?_
        refine jx_ld (pc_q := 340) (l_q := L281) (st_q := [.ref 63, .ref 66]) rfl (jl_aloadn g282) ?_
        refine jx_ld (pc_q := 342) (l_q := L281) (st_q := [.int (i32 (i)), .ref 63, .ref 66]) rfl (jl_iload g286) ?_
        refine jx_ar (pc_q := 343) (st_q := [.int (i32 (1)), .int (i32 (i)), .ref 63, .ref 66]) rfl rfl rfl rfl ?_
        refine jx_add (pc_q := 344) rfl rfl ?_
        refine jx_sca (pc_q := 345) (z := (i + 1)) rfl rfl (by omega) (by omega) hL ?_
        refine jx_ld (pc_q := 346) (l_q := L281) (st_q := [.ref 63, .int (i32 (sx X ((i + 1)))), .ref 66]) rfl (jl_aloadn g282) ?_
        refine jx_ld (pc_q := 348) (l_q := L281) (st_q := [.int (i32 (i)), .ref 63, .int (i32 (sx X ((i + 1)))), .ref 66]) rfl (jl_iload g286) ?_
        refine jx_ar (pc_q := 349) (st_q := [.int (i32 (2)), .int (i32 (i)), .ref 63, .int (i32 (sx X ((i + 1)))), .ref 66]) rfl rfl rfl rfl ?_
        refine jx_add (pc_q := 350) rfl rfl ?_
        refine jx_sca (pc_q := 351) (z := (i + 2)) rfl rfl (by omega) (by omega) hL ?_
        refine jx_ld (pc_q := 352) (l_q := L281) (st_q := [.ref 63, .int (i32 (sx X ((i + 2)))), .int (i32 (sx X ((i + 1)))), .ref 66]) rfl (jl_aloadn g282) ?_
        refine jx_ld (pc_q := 354) (l_q := L281) (st_q := [.int (i32 (i)), .ref 63, .int (i32 (sx X ((i + 2)))), .int (i32 (sx X ((i + 1)))), .ref 66]) rfl (jl_iload g286) ?_
        refine jx_ar (pc_q := 355) (st_q := [.int (i32 (3)), .int (i32 (i)), .ref 63, .int (i32 (sx X ((i + 2)))), .int (i32 (sx X ((i + 1)))), .ref 66]) rfl rfl rfl rfl ?_
        refine jx_add (pc_q := 356) rfl rfl ?_
        refine jx_sca (pc_q := 357) (z := (i + 3)) rfl rfl (by omega) (by omega) hL ?_
        refine rc_vi (pc_q := 360) (m := m264) (G := G) (A := A) (st := []) (as := [.int (i32 (sx X ((i + 1)))), .int (i32 (sx X ((i + 2)))), .int (i32 (sx X ((i + 3))))]) (by have := hC268.1; omega) rfl rfl rfl rfl ⟨rfl, rfl, (Nat.le_of_ble_eq_true rfl)⟩ rfl rfl (ri_instruction (dd := d) (by omega) hR (by omega) (by omega) (by omega) (by omega)) (fun o V_q hq => ?_)
        obtain ⟨G288, A288, r288, rfl, rfl, hR288, hp288⟩ := hq
        refine Or.inr ⟨_, rfl, ?_⟩
        have _u := hp288
        rw [← cr_V (by have := hC268.1; omega)]
        refine jx_ld (pc_q := 362) (l_q := jSto1 L281 6 (.int (i32 (r288)))) (st_q := []) rfl rfl ?_
        obtain ⟨L289, eL289⟩ : ∃ q : jL, q = jSto1 L281 6 (.int (i32 (r288))) := ⟨_, rfl⟩
        rw [← eL289]
        have g290 : jGet L289 0 = some (.ref 63) := eL289 ▸ jg_ne (by decide) g282 rfl
        have g291 : jGet L289 1 = some (rv (64)) := eL289 ▸ jg_nr (by decide) g283
        have g292 : jGet L289 2 = some (.ref 66) := eL289 ▸ jg_ne (by decide) g284 rfl
        have g293 : jGet L289 3 = some (rv (153)) := eL289 ▸ jg_nr (by decide) g285
        have g294 : jGet L289 4 = some (.int (i32 (i))) := eL289 ▸ jg_ne (by decide) g286 rfl
        have g295 : jGet L289 5 = some (.int (i32 (r266))) := eL289 ▸ jg_ne (by decide) g287 rfl
        have g296 : jGet L289 6 = some (.int (i32 (r288))) := eL289 ▸ jg_eq
        clear eL289
        refine jx_go (tg := 734) rfl rfl ?_
        refine jx_inc (pc_q := 737) (l_q := jSto1 L289 4 (.int (i32 (i + (4))))) (x := i) rfl g294 (by decide) rfl rfl ?_
        obtain ⟨L297, eL297⟩ : ∃ q : jL, q = jSto1 L289 4 (.int (i32 ((i + (4))))) := ⟨_, rfl⟩
        rw [← eL297]
        have g298 : jGet L297 0 = some (.ref 63) := eL297 ▸ jg_ne (by decide) g290 rfl
        have g299 : jGet L297 1 = some (rv (64)) := eL297 ▸ jg_nr (by decide) g291
        have g300 : jGet L297 2 = some (.ref 66) := eL297 ▸ jg_ne (by decide) g292 rfl
        have g301 : jGet L297 3 = some (rv (153)) := eL297 ▸ jg_nr (by decide) g293
        have g302 : jGet L297 5 = some (.int (i32 (r266))) := eL297 ▸ jg_ne (by decide) g295 rfl
        have g303 : jGet L297 6 = some (.int (i32 (r288))) := eL297 ▸ jg_ne (by decide) g296 rfl
        have g304 : jGet L297 4 = some (.int (i32 ((i + (4))))) := eL297 ▸ jg_eq
        clear eL297
        refine jx_go (tg := 23) rfl rfl ?_
        have q305 : F265 (64) (1 : Int) = F (64) (1 : Int) := (show F265 (64) (1 : Int) = F (64) (1 : Int) from hM269 _ _ o64.1 (own_z o64.1) (by rw [o64.2]; rfl))
        have q306 : F265 (64) (5 : Int) = F (64) (5 : Int) := (show F265 (64) (5 : Int) = F (64) (5 : Int) from hM269 _ _ o64.1 (own_z o64.1) (by rw [o64.2]; rfl))
        have q307 : tz (F265 (64) (5 : Int)) = tz (F (64) (5 : Int)) := by rw [q306]
        exact ih _ (by omega) L297 G288 A288 m264 tg264 ln264 F265 ((i + (4))) (n + 1) rfl g298 g299 g300 g301 g304 hC268 c273 (SB_m c274 (by omega)) c275 hR288 ⟨ho277.1, ho277.2⟩ ⟨ho278.1, ho278.2⟩ (by omega) ((show F265 (153) ((-1) : Int) = F (153) ((-1) : Int) from hM269 _ _ o153.1 (own_z o153.1) (by rw [o153.2]; rfl)).trans s153) (by omega) (by omega) (by omega) (by omega) (by omega)
      by_cases h308 : z3 = 7
      · refine jx_swe (tg := 365) h308 rfl rfl rfl rfl ?_
        refine jx_ld (pc_q := 366) (l_q := L) (st_q := [rv (64)]) rfl (jl_rvn g1) ?_
        refine jx_ld (pc_q := 367) (l_q := L) (st_q := [.ref 63, rv (64)]) rfl (jl_aloadn g0) ?_
        refine jx_ld (pc_q := 369) (l_q := L) (st_q := [.int (i32 (i)), .ref 63, rv (64)]) rfl (jl_iload g4) ?_
        refine jx_ar (pc_q := 370) (st_q := [.int (i32 (1)), .int (i32 (i)), .ref 63, rv (64)]) rfl rfl rfl rfl ?_
        refine jx_add (pc_q := 371) rfl rfl ?_
        refine jx_sca (pc_q := 372) (z := (i + 1)) rfl rfl (by omega) (by omega) hL ?_
        have b309 := sx_rg (X := X) (j := (i + 1))
        refine jx_ld (pc_q := 373) (l_q := L) (st_q := [.ref 63, .int (i32 (sx X ((i + 1)))), rv (64)]) rfl (jl_aloadn g0) ?_
        refine jx_ld (pc_q := 375) (l_q := L) (st_q := [.int (i32 (i)), .ref 63, .int (i32 (sx X ((i + 1)))), rv (64)]) rfl (jl_iload g4) ?_
        refine jx_ar (pc_q := 376) (st_q := [.int (i32 (2)), .int (i32 (i)), .ref 63, .int (i32 (sx X ((i + 1)))), rv (64)]) rfl rfl rfl rfl ?_
        refine jx_add (pc_q := 377) rfl rfl ?_
        refine jx_sca (pc_q := 378) (z := (i + 2)) rfl rfl (by omega) (by omega) hL ?_
        have b310 := sx_rg (X := X) (j := (i + 2))
        refine jx_ld (pc_q := 379) (l_q := L) (st_q := [rv (153), .int (i32 (sx X ((i + 2)))), .int (i32 (sx X ((i + 1)))), rv (64)]) rfl (jl_rvn g3) ?_
        refine cx_st (st := []) (as := [rv (64), .int (i32 (sx X ((i + 1)))), .int (i32 (sx X ((i + 2)))), rv (153)]) rfl rfl rfl ⟨rfl, (Nat.le_of_ble_eq_true rfl)⟩ rfl (k_LLaw_link (dd := d) (R := rR G A) (m := m) (tg := tg) (ln := ln) (F := F) (x := 64) (p0 := sx X ((i + 1))) (p1 := sx X ((i + 2))) (ou := 153) (hd := by omega) (hC := hC) (o_x := o64.1) (t_x := o64.2) (h_p0 := by omega) (h_p1 := by omega) (o_ou := o153.1) (t_ou := o153.2) (s_ou := s153) (p_0 := by omega) (c_NP := c_NP) (kk := 30001 * n) (c_SB := c_SB) (c_T3 := c_T3)) (fun o V_q hq => ?_)
        obtain ⟨m311, tg311, ln311, F312, r313, rfl, rfl, hx314, hC315, hM316, b317, p318, p319, c320, c321, c322, -⟩ := hq
        have hM323 : Fq 0 [(1, 1), (1, 2), (1, 3), (1, 4), (1, 5), (1, 6), (2, 7), (2, 8), (2, 9), (2, 10), (2, 11), (3, 5), (3, 6), (3, 7), (3, 8), (3, 9), (3, 10), (3, 11), (3, 12), (3, 13), (3, 14), (3, 16), (3, 17), (3, 18), (3, 19), (3, 20), (4, 0), (5, 2), (5, 3), (5, 4), (5, 5), (5, 6), (5, 7), (6, 3), (6, 4), (6, 6), (6, 7), (6, 8), (7, 3), (7, 4), (7, 5), (7, 6), (7, 9), (7, 10), (7, 11), (7, 15), (8, 10), (8, 11), (8, 12), (8, 13), (8, 14), (8, 15), (8, 16), (8, 17), (8, 18), (9, 2), (9, 3), (10, 0), (10, 1), (10, 2), (10, 5), (10, 7), (10, 8), (10, 9), (11, 7), (11, 8), (11, 9), (11, 10), (11, 11), (11, 12), (11, 13), (11, 14), (11, 15), (11, 16), (11, 17), (11, 18), (12, 2), (12, 3), (12, 4), (20, -5), (21, -5), (22, -5), (24, -5), (25, -5), (26, -5), (27, -5)] m tg F F312 := Fq_t (ln := ln) (ln1 := ln) hM0 hX0 hM316 (by decide) (Or.inl rfl)
        have ho324 : own m311 (64) ∧ tg311 (64) = 1 := Ex_o hx314 ⟨o64.1, o64.2⟩
        have ho325 : own m311 (153) ∧ tg311 (153) = 22 := Ex_o hx314 ⟨o153.1, o153.2⟩
        have ln326 : ln311 (153) = 1 := (hx314.2 _ o153.1).2.trans hl
        clear hl
        have hX327 := Ex_t hX0 hx314
        refine Or.inr (Or.inl ⟨_, rfl, ?_⟩)
        refine jx_ld (pc_q := 384) (l_q := jSto1 L 5 (.int (i32 (r313)))) (st_q := []) rfl rfl ?_
        obtain ⟨L328, eL328⟩ : ∃ q : jL, q = jSto1 L 5 (.int (i32 (r313))) := ⟨_, rfl⟩
        rw [← eL328]
        have g329 : jGet L328 0 = some (.ref 63) := eL328 ▸ jg_ne (by decide) g0 rfl
        have g330 : jGet L328 1 = some (rv (64)) := eL328 ▸ jg_nr (by decide) g1
        have g331 : jGet L328 2 = some (.ref 66) := eL328 ▸ jg_ne (by decide) g2 rfl
        have g332 : jGet L328 3 = some (rv (153)) := eL328 ▸ jg_nr (by decide) g3
        have g333 : jGet L328 4 = some (.int (i32 (i))) := eL328 ▸ jg_ne (by decide) g4 rfl
        have g334 : jGet L328 5 = some (.int (i32 (r313))) := eL328 ▸ jg_eq
        clear eL328
        refine jx_ld (pc_q := 385) (l_q := L328) (st_q := [.ref 66]) rfl (jl_aloadn g331) ?_
        refine jx_ld (pc_q := 386) (l_q := L328) (st_q := [.ref 63, .ref 66]) rfl (jl_aloadn g329) ?_
        refine jx_ld (pc_q := 388) (l_q := L328) (st_q := [.int (i32 (i)), .ref 63, .ref 66]) rfl (jl_iload g333) ?_
        refine jx_ar (pc_q := 389) (st_q := [.int (i32 (1)), .int (i32 (i)), .ref 63, .ref 66]) rfl rfl rfl rfl ?_
        refine jx_add (pc_q := 390) rfl rfl ?_
        refine jx_sca (pc_q := 391) (z := (i + 1)) rfl rfl (by omega) (by omega) hL ?_
        refine jx_ld (pc_q := 392) (l_q := L328) (st_q := [.ref 63, .int (i32 (sx X ((i + 1)))), .ref 66]) rfl (jl_aloadn g329) ?_
        refine jx_ld (pc_q := 394) (l_q := L328) (st_q := [.int (i32 (i)), .ref 63, .int (i32 (sx X ((i + 1)))), .ref 66]) rfl (jl_iload g333) ?_
        refine jx_ar (pc_q := 395) (st_q := [.int (i32 (2)), .int (i32 (i)), .ref 63, .int (i32 (sx X ((i + 1)))), .ref 66]) rfl rfl rfl rfl ?_
        refine jx_add (pc_q := 396) rfl rfl ?_
        refine jx_sca (pc_q := 397) (z := (i + 2)) rfl rfl (by omega) (by omega) hL ?_
        refine rc_vi (pc_q := 400) (m := m311) (G := G) (A := A) (st := []) (as := [.int (i32 (sx X ((i + 1)))), .int (i32 (sx X ((i + 2))))]) (by have := hC315.1; omega) rfl rfl rfl rfl ⟨rfl, rfl, (Nat.le_of_ble_eq_true rfl)⟩ rfl rfl (ri_link (dd := d) (by omega) hR (by omega) (by omega) (by omega)) (fun o V_q hq => ?_)
        obtain ⟨G335, A335, r335, rfl, rfl, hR335, hp335⟩ := hq
        refine Or.inr ⟨_, rfl, ?_⟩
        have _u := hp335
        rw [← cr_V (by have := hC315.1; omega)]
        refine jx_ld (pc_q := 402) (l_q := jSto1 L328 6 (.int (i32 (r335)))) (st_q := []) rfl rfl ?_
        obtain ⟨L336, eL336⟩ : ∃ q : jL, q = jSto1 L328 6 (.int (i32 (r335))) := ⟨_, rfl⟩
        rw [← eL336]
        have g337 : jGet L336 0 = some (.ref 63) := eL336 ▸ jg_ne (by decide) g329 rfl
        have g338 : jGet L336 1 = some (rv (64)) := eL336 ▸ jg_nr (by decide) g330
        have g339 : jGet L336 2 = some (.ref 66) := eL336 ▸ jg_ne (by decide) g331 rfl
        have g340 : jGet L336 3 = some (rv (153)) := eL336 ▸ jg_nr (by decide) g332
        have g341 : jGet L336 4 = some (.int (i32 (i))) := eL336 ▸ jg_ne (by decide) g333 rfl
        have g342 : jGet L336 5 = some (.int (i32 (r313))) := eL336 ▸ jg_ne (by decide) g334 rfl
        have g343 : jGet L336 6 = some (.int (i32 (r335))) := eL336 ▸ jg_eq
        clear eL336
        refine jx_go (tg := 734) rfl rfl ?_
        refine jx_inc (pc_q := 737) (l_q := jSto1 L336 4 (.int (i32 (i + (4))))) (x := i) rfl g341 (by decide) rfl rfl ?_
        obtain ⟨L344, eL344⟩ : ∃ q : jL, q = jSto1 L336 4 (.int (i32 ((i + (4))))) := ⟨_, rfl⟩
        rw [← eL344]
        have g345 : jGet L344 0 = some (.ref 63) := eL344 ▸ jg_ne (by decide) g337 rfl
        have g346 : jGet L344 1 = some (rv (64)) := eL344 ▸ jg_nr (by decide) g338
        have g347 : jGet L344 2 = some (.ref 66) := eL344 ▸ jg_ne (by decide) g339 rfl
        have g348 : jGet L344 3 = some (rv (153)) := eL344 ▸ jg_nr (by decide) g340
        have g349 : jGet L344 5 = some (.int (i32 (r313))) := eL344 ▸ jg_ne (by decide) g342 rfl
        have g350 : jGet L344 6 = some (.int (i32 (r335))) := eL344 ▸ jg_ne (by decide) g343 rfl
        have g351 : jGet L344 4 = some (.int (i32 ((i + (4))))) := eL344 ▸ jg_eq
        clear eL344
        refine jx_go (tg := 23) rfl rfl ?_
        have q352 : F312 (64) (1 : Int) = F (64) (1 : Int) := (show F312 (64) (1 : Int) = F (64) (1 : Int) from hM316 _ _ o64.1 (own_z o64.1) (by rw [o64.2]; rfl))
        have q353 : F312 (64) (5 : Int) = F (64) (5 : Int) := (show F312 (64) (5 : Int) = F (64) (5 : Int) from hM316 _ _ o64.1 (own_z o64.1) (by rw [o64.2]; rfl))
        have q354 : tz (F312 (64) (5 : Int)) = tz (F (64) (5 : Int)) := by rw [q353]
        exact ih _ (by omega) L344 G335 A335 m311 tg311 ln311 F312 ((i + (4))) (n + 1) rfl g345 g346 g347 g348 g351 hC315 c320 (SB_m c321 (by omega)) c322 hR335 ⟨ho324.1, ho324.2⟩ ⟨ho325.1, ho325.2⟩ (by omega) ((show F312 (153) ((-1) : Int) = F (153) ((-1) : Int) from hM316 _ _ o153.1 (own_z o153.1) (by rw [o153.2]; rfl)).trans s153) (by omega) (by omega) (by omega) (by omega) (by omega)
      by_cases h355 : z3 = 8
      · refine jx_swe (tg := 405) h355 rfl rfl rfl rfl ?_
        refine jx_ld (pc_q := 406) (l_q := L) (st_q := [rv (64)]) rfl (jl_rvn g1) ?_
        refine cx_st (st := []) (as := [rv (64)]) rfl rfl rfl ⟨rfl, (Nat.le_of_ble_eq_true rfl)⟩ rfl (k_LLaw_begin (dd := d) (R := rR G A) (m := m) (tg := tg) (ln := ln) (F := F) (x := 64) (hd := by omega) (hC := hC) (o_x := o64.1) (t_x := o64.2) (p_0 := by omega) (c_NP := c_NP) (kk := 30001 * n) (c_SB := c_SB) (c_T3 := c_T3)) (fun o V_q hq => ?_)
        obtain ⟨m356, tg356, ln356, F357, r358, rfl, rfl, hx359, hC360, hM361, b362, p363, p364, c365, c366, c367, -⟩ := hq
        have hM368 : Fq 0 [(1, 1), (1, 2), (1, 3), (1, 4), (1, 5), (1, 6), (2, 7), (2, 8), (2, 9), (2, 10), (2, 11), (3, 5), (3, 6), (3, 7), (3, 8), (3, 9), (3, 10), (3, 11), (3, 12), (3, 13), (3, 14), (3, 16), (3, 17), (3, 18), (3, 19), (3, 20), (4, 0), (5, 2), (5, 3), (5, 4), (5, 5), (5, 6), (5, 7), (6, 3), (6, 4), (6, 6), (6, 7), (6, 8), (7, 3), (7, 4), (7, 5), (7, 6), (7, 9), (7, 10), (7, 11), (7, 15), (8, 10), (8, 11), (8, 12), (8, 13), (8, 14), (8, 15), (8, 16), (8, 17), (8, 18), (9, 2), (9, 3), (10, 0), (10, 1), (10, 2), (10, 5), (10, 7), (10, 8), (10, 9), (11, 7), (11, 8), (11, 9), (11, 10), (11, 11), (11, 12), (11, 13), (11, 14), (11, 15), (11, 16), (11, 17), (11, 18), (12, 2), (12, 3), (12, 4), (20, -5), (21, -5), (22, -5), (24, -5), (25, -5), (26, -5), (27, -5)] m tg F F357 := Fq_t (ln := ln) (ln1 := ln) hM0 hX0 hM361 (by decide) (Or.inl rfl)
        have ho369 : own m356 (64) ∧ tg356 (64) = 1 := Ex_o hx359 ⟨o64.1, o64.2⟩
        have ho370 : own m356 (153) ∧ tg356 (153) = 22 := Ex_o hx359 ⟨o153.1, o153.2⟩
        have ln371 : ln356 (153) = 1 := (hx359.2 _ o153.1).2.trans hl
        clear hl
        have hX372 := Ex_t hX0 hx359
        refine Or.inr (Or.inl ⟨_, rfl, ?_⟩)
        refine jx_ld (pc_q := 411) (l_q := jSto1 L 5 (.int (i32 (r358)))) (st_q := []) rfl rfl ?_
        obtain ⟨L373, eL373⟩ : ∃ q : jL, q = jSto1 L 5 (.int (i32 (r358))) := ⟨_, rfl⟩
        rw [← eL373]
        have g374 : jGet L373 0 = some (.ref 63) := eL373 ▸ jg_ne (by decide) g0 rfl
        have g375 : jGet L373 1 = some (rv (64)) := eL373 ▸ jg_nr (by decide) g1
        have g376 : jGet L373 2 = some (.ref 66) := eL373 ▸ jg_ne (by decide) g2 rfl
        have g377 : jGet L373 3 = some (rv (153)) := eL373 ▸ jg_nr (by decide) g3
        have g378 : jGet L373 4 = some (.int (i32 (i))) := eL373 ▸ jg_ne (by decide) g4 rfl
        have g379 : jGet L373 5 = some (.int (i32 (r358))) := eL373 ▸ jg_eq
        clear eL373
        refine jx_ld (pc_q := 412) (l_q := L373) (st_q := [.ref 66]) rfl (jl_aloadn g376) ?_
        refine rc_vi (pc_q := 415) (m := m356) (G := G) (A := A) (st := []) (as := []) (by have := hC360.1; omega) rfl rfl rfl rfl ⟨rfl, rfl, (Nat.le_of_ble_eq_true rfl)⟩ rfl rfl (ri_begin (dd := d) (by omega) hR (by omega) ) (fun o V_q hq => ?_)
        obtain ⟨G380, A380, rfl, rfl, hR380, hp380⟩ := hq
        refine Or.inl ⟨rfl, ?_⟩
        have _u := hp380
        rw [← cr_V (by have := hC360.1; omega)]
        refine jx_go (tg := 734) rfl rfl ?_
        refine jx_inc (pc_q := 737) (l_q := jSto1 L373 4 (.int (i32 (i + (4))))) (x := i) rfl g378 (by decide) rfl rfl ?_
        obtain ⟨L381, eL381⟩ : ∃ q : jL, q = jSto1 L373 4 (.int (i32 ((i + (4))))) := ⟨_, rfl⟩
        rw [← eL381]
        have g382 : jGet L381 0 = some (.ref 63) := eL381 ▸ jg_ne (by decide) g374 rfl
        have g383 : jGet L381 1 = some (rv (64)) := eL381 ▸ jg_nr (by decide) g375
        have g384 : jGet L381 2 = some (.ref 66) := eL381 ▸ jg_ne (by decide) g376 rfl
        have g385 : jGet L381 3 = some (rv (153)) := eL381 ▸ jg_nr (by decide) g377
        have g386 : jGet L381 5 = some (.int (i32 (r358))) := eL381 ▸ jg_ne (by decide) g379 rfl
        have g387 : jGet L381 4 = some (.int (i32 ((i + (4))))) := eL381 ▸ jg_eq
        clear eL381
        refine jx_go (tg := 23) rfl rfl ?_
        have q388 : F357 (64) (1 : Int) = F (64) (1 : Int) := (show F357 (64) (1 : Int) = F (64) (1 : Int) from hM361 _ _ o64.1 (own_z o64.1) (by rw [o64.2]; rfl))
        have q389 : F357 (64) (5 : Int) = F (64) (5 : Int) := (show F357 (64) (5 : Int) = F (64) (5 : Int) from hM361 _ _ o64.1 (own_z o64.1) (by rw [o64.2]; rfl))
        have q390 : tz (F357 (64) (5 : Int)) = tz (F (64) (5 : Int)) := by rw [q389]
        exact ih _ (by omega) L381 G380 A380 m356 tg356 ln356 F357 ((i + (4))) (n + 1) rfl g382 g383 g384 g385 g387 hC360 c365 (SB_m c366 (by omega)) c367 hR380 ⟨ho369.1, ho369.2⟩ ⟨ho370.1, ho370.2⟩ (by omega) ((show F357 (153) ((-1) : Int) = F (153) ((-1) : Int) from hM361 _ _ o153.1 (own_z o153.1) (by rw [o153.2]; rfl)).trans s153) (by omega) (by omega) (by omega) (by omega) (by omega)
      by_cases h391 : z3 = 9
      · refine jx_swe (tg := 418) h391 rfl rfl rfl rfl ?_
        refine jx_ld (pc_q := 419) (l_q := L) (st_q := [rv (64)]) rfl (jl_rvn g1) ?_
        refine jx_ld (pc_q := 420) (l_q := L) (st_q := [.ref 63, rv (64)]) rfl (jl_aloadn g0) ?_
        refine jx_ld (pc_q := 422) (l_q := L) (st_q := [.int (i32 (i)), .ref 63, rv (64)]) rfl (jl_iload g4) ?_
        refine jx_ar (pc_q := 423) (st_q := [.int (i32 (1)), .int (i32 (i)), .ref 63, rv (64)]) rfl rfl rfl rfl ?_
        refine jx_add (pc_q := 424) rfl rfl ?_
        refine jx_sca (pc_q := 425) (z := (i + 1)) rfl rfl (by omega) (by omega) hL ?_
        have b392 := sx_rg (X := X) (j := (i + 1))
        refine jx_ld (pc_q := 426) (l_q := L) (st_q := [rv (153), .int (i32 (sx X ((i + 1)))), rv (64)]) rfl (jl_rvn g3) ?_
        refine cx_st (st := []) (as := [rv (64), .int (i32 (sx X ((i + 1)))), rv (153)]) rfl rfl rfl ⟨rfl, (Nat.le_of_ble_eq_true rfl)⟩ rfl (k_LLaw_input (dd := d) (R := rR G A) (m := m) (tg := tg) (ln := ln) (F := F) (x := 64) (p0 := sx X ((i + 1))) (ou := 153) (hd := by omega) (hC := hC) (o_x := o64.1) (t_x := o64.2) (h_p0 := by omega) (o_ou := o153.1) (t_ou := o153.2) (s_ou := s153) (p_0 := by omega) (c_NP := c_NP) (kk := 30001 * n) (c_SB := c_SB) (c_T3 := c_T3)) (fun o V_q hq => ?_)
        obtain ⟨m393, tg393, ln393, F394, r395, rfl, rfl, hx396, hC397, hM398, b399, p400, p401, c402, c403, c404, -⟩ := hq
        have hM405 : Fq 0 [(1, 1), (1, 2), (1, 3), (1, 4), (1, 5), (1, 6), (2, 7), (2, 8), (2, 9), (2, 10), (2, 11), (3, 5), (3, 6), (3, 7), (3, 8), (3, 9), (3, 10), (3, 11), (3, 12), (3, 13), (3, 14), (3, 16), (3, 17), (3, 18), (3, 19), (3, 20), (4, 0), (5, 2), (5, 3), (5, 4), (5, 5), (5, 6), (5, 7), (6, 3), (6, 4), (6, 6), (6, 7), (6, 8), (7, 3), (7, 4), (7, 5), (7, 6), (7, 9), (7, 10), (7, 11), (7, 15), (8, 10), (8, 11), (8, 12), (8, 13), (8, 14), (8, 15), (8, 16), (8, 17), (8, 18), (9, 2), (9, 3), (10, 0), (10, 1), (10, 2), (10, 5), (10, 7), (10, 8), (10, 9), (11, 7), (11, 8), (11, 9), (11, 10), (11, 11), (11, 12), (11, 13), (11, 14), (11, 15), (11, 16), (11, 17), (11, 18), (12, 2), (12, 3), (12, 4), (20, -5), (21, -5), (22, -5), (24, -5), (25, -5), (26, -5), (27, -5)] m tg F F394 := Fq_t (ln := ln) (ln1 := ln) hM0 hX0 hM398 (by decide) (Or.inl rfl)
        have ho406 : own m393 (64) ∧ tg393 (64) = 1 := Ex_o hx396 ⟨o64.1, o64.2⟩
        have ho407 : own m393 (153) ∧ tg393 (153) = 22 := Ex_o hx396 ⟨o153.1, o153.2⟩
        have ln408 : ln393 (153) = 1 := (hx396.2 _ o153.1).2.trans hl
        clear hl
        have hX409 := Ex_t hX0 hx396
        refine Or.inr (Or.inl ⟨_, rfl, ?_⟩)
        refine jx_ld (pc_q := 431) (l_q := jSto1 L 5 (.int (i32 (r395)))) (st_q := []) rfl rfl ?_
        obtain ⟨L410, eL410⟩ : ∃ q : jL, q = jSto1 L 5 (.int (i32 (r395))) := ⟨_, rfl⟩
        rw [← eL410]
        have g411 : jGet L410 0 = some (.ref 63) := eL410 ▸ jg_ne (by decide) g0 rfl
        have g412 : jGet L410 1 = some (rv (64)) := eL410 ▸ jg_nr (by decide) g1
        have g413 : jGet L410 2 = some (.ref 66) := eL410 ▸ jg_ne (by decide) g2 rfl
        have g414 : jGet L410 3 = some (rv (153)) := eL410 ▸ jg_nr (by decide) g3
        have g415 : jGet L410 4 = some (.int (i32 (i))) := eL410 ▸ jg_ne (by decide) g4 rfl
        have g416 : jGet L410 5 = some (.int (i32 (r395))) := eL410 ▸ jg_eq
        clear eL410
        refine jx_ld (pc_q := 432) (l_q := L410) (st_q := [.ref 66]) rfl (jl_aloadn g413) ?_
        refine jx_ld (pc_q := 433) (l_q := L410) (st_q := [.ref 63, .ref 66]) rfl (jl_aloadn g411) ?_
        refine jx_ld (pc_q := 435) (l_q := L410) (st_q := [.int (i32 (i)), .ref 63, .ref 66]) rfl (jl_iload g415) ?_
        refine jx_ar (pc_q := 436) (st_q := [.int (i32 (1)), .int (i32 (i)), .ref 63, .ref 66]) rfl rfl rfl rfl ?_
        refine jx_add (pc_q := 437) rfl rfl ?_
        refine jx_sca (pc_q := 438) (z := (i + 1)) rfl rfl (by omega) (by omega) hL ?_
        refine rc_vi (pc_q := 441) (m := m393) (G := G) (A := A) (st := []) (as := [.int (i32 (sx X ((i + 1))))]) (by have := hC397.1; omega) rfl rfl rfl rfl ⟨rfl, rfl, (Nat.le_of_ble_eq_true rfl)⟩ rfl rfl (ri_input (dd := d) (by omega) hR (by omega) (by omega)) (fun o V_q hq => ?_)
        obtain ⟨G417, A417, r417, rfl, rfl, hR417, hp417⟩ := hq
        refine Or.inr ⟨_, rfl, ?_⟩
        have _u := hp417
        rw [← cr_V (by have := hC397.1; omega)]
        refine jx_ld (pc_q := 443) (l_q := jSto1 L410 6 (.int (i32 (r417)))) (st_q := []) rfl rfl ?_
        obtain ⟨L418, eL418⟩ : ∃ q : jL, q = jSto1 L410 6 (.int (i32 (r417))) := ⟨_, rfl⟩
        rw [← eL418]
        have g419 : jGet L418 0 = some (.ref 63) := eL418 ▸ jg_ne (by decide) g411 rfl
        have g420 : jGet L418 1 = some (rv (64)) := eL418 ▸ jg_nr (by decide) g412
        have g421 : jGet L418 2 = some (.ref 66) := eL418 ▸ jg_ne (by decide) g413 rfl
        have g422 : jGet L418 3 = some (rv (153)) := eL418 ▸ jg_nr (by decide) g414
        have g423 : jGet L418 4 = some (.int (i32 (i))) := eL418 ▸ jg_ne (by decide) g415 rfl
        have g424 : jGet L418 5 = some (.int (i32 (r395))) := eL418 ▸ jg_ne (by decide) g416 rfl
        have g425 : jGet L418 6 = some (.int (i32 (r417))) := eL418 ▸ jg_eq
        clear eL418
        refine jx_go (tg := 734) rfl rfl ?_
        refine jx_inc (pc_q := 737) (l_q := jSto1 L418 4 (.int (i32 (i + (4))))) (x := i) rfl g423 (by decide) rfl rfl ?_
        obtain ⟨L426, eL426⟩ : ∃ q : jL, q = jSto1 L418 4 (.int (i32 ((i + (4))))) := ⟨_, rfl⟩
        rw [← eL426]
        have g427 : jGet L426 0 = some (.ref 63) := eL426 ▸ jg_ne (by decide) g419 rfl
        have g428 : jGet L426 1 = some (rv (64)) := eL426 ▸ jg_nr (by decide) g420
        have g429 : jGet L426 2 = some (.ref 66) := eL426 ▸ jg_ne (by decide) g421 rfl
        have g430 : jGet L426 3 = some (rv (153)) := eL426 ▸ jg_nr (by decide) g422
        have g431 : jGet L426 5 = some (.int (i32 (r395))) := eL426 ▸ jg_ne (by decide) g424 rfl
        have g432 : jGet L426 6 = some (.int (i32 (r417))) := eL426 ▸ jg_ne (by decide) g425 rfl
        have g433 : jGet L426 4 = some (.int (i32 ((i + (4))))) := eL426 ▸ jg_eq
        clear eL426
        refine jx_go (tg := 23) rfl rfl ?_
        have q434 : F394 (64) (1 : Int) = F (64) (1 : Int) := (show F394 (64) (1 : Int) = F (64) (1 : Int) from hM398 _ _ o64.1 (own_z o64.1) (by rw [o64.2]; rfl))
        have q435 : F394 (64) (5 : Int) = F (64) (5 : Int) := (show F394 (64) (5 : Int) = F (64) (5 : Int) from hM398 _ _ o64.1 (own_z o64.1) (by rw [o64.2]; rfl))
        have q436 : tz (F394 (64) (5 : Int)) = tz (F (64) (5 : Int)) := by rw [q435]
        exact ih _ (by omega) L426 G417 A417 m393 tg393 ln393 F394 ((i + (4))) (n + 1) rfl g427 g428 g429 g430 g433 hC397 c402 (SB_m c403 (by omega)) c404 hR417 ⟨ho406.1, ho406.2⟩ ⟨ho407.1, ho407.2⟩ (by omega) ((show F394 (153) ((-1) : Int) = F (153) ((-1) : Int) from hM398 _ _ o153.1 (own_z o153.1) (by rw [o153.2]; rfl)).trans s153) (by omega) (by omega) (by omega) (by omega) (by omega)
      by_cases h437 : z3 = 10
      · refine jx_swe (tg := 446) h437 rfl rfl rfl rfl ?_
        refine jx_ld (pc_q := 447) (l_q := L) (st_q := [rv (64)]) rfl (jl_rvn g1) ?_
        refine jx_ld (pc_q := 448) (l_q := L) (st_q := [.ref 63, rv (64)]) rfl (jl_aloadn g0) ?_
        refine jx_ld (pc_q := 450) (l_q := L) (st_q := [.int (i32 (i)), .ref 63, rv (64)]) rfl (jl_iload g4) ?_
        refine jx_ar (pc_q := 451) (st_q := [.int (i32 (1)), .int (i32 (i)), .ref 63, rv (64)]) rfl rfl rfl rfl ?_
        refine jx_add (pc_q := 452) rfl rfl ?_
        refine jx_sca (pc_q := 453) (z := (i + 1)) rfl rfl (by omega) (by omega) hL ?_
        have b438 := sx_rg (X := X) (j := (i + 1))
        refine jx_ld (pc_q := 454) (l_q := L) (st_q := [.ref 63, .int (i32 (sx X ((i + 1)))), rv (64)]) rfl (jl_aloadn g0) ?_
        refine jx_ld (pc_q := 456) (l_q := L) (st_q := [.int (i32 (i)), .ref 63, .int (i32 (sx X ((i + 1)))), rv (64)]) rfl (jl_iload g4) ?_
        refine jx_ar (pc_q := 457) (st_q := [.int (i32 (2)), .int (i32 (i)), .ref 63, .int (i32 (sx X ((i + 1)))), rv (64)]) rfl rfl rfl rfl ?_
        refine jx_add (pc_q := 458) rfl rfl ?_
        refine jx_sca (pc_q := 459) (z := (i + 2)) rfl rfl (by omega) (by omega) hL ?_
        have b439 := sx_rg (X := X) (j := (i + 2))
        refine jx_ld (pc_q := 460) (l_q := L) (st_q := [rv (153), .int (i32 (sx X ((i + 2)))), .int (i32 (sx X ((i + 1)))), rv (64)]) rfl (jl_rvn g3) ?_
        refine cx_st (st := []) (as := [rv (64), .int (i32 (sx X ((i + 1)))), .int (i32 (sx X ((i + 2)))), rv (153)]) rfl rfl rfl ⟨rfl, (Nat.le_of_ble_eq_true rfl)⟩ rfl (k_LLaw_run (dd := d) (R := rR G A) (m := m) (tg := tg) (ln := ln) (F := F) (x := 64) (p0 := sx X ((i + 1))) (p1 := sx X ((i + 2))) (ou := 153) (hd := by omega) (hC := hC) (o_x := o64.1) (t_x := o64.2) (h_p0 := by omega) (h_p1 := by omega) (o_ou := o153.1) (t_ou := o153.2) (s_ou := s153) (p_0 := by omega) (p_1 := by omega) (p_2 := by omega) (c_NP := c_NP) (kk := 30001 * n) (c_SB := c_SB) (c_T3 := c_T3)) (fun o V_q hq => ?_)
        obtain ⟨m440, tg440, ln440, F441, r442, rfl, rfl, hx443, hC444, hM445, b446, p447, p448, c449, c450, c451, -⟩ := hq
        have hM452 : Fq 0 [(1, 1), (1, 2), (1, 3), (1, 4), (1, 5), (1, 6), (2, 7), (2, 8), (2, 9), (2, 10), (2, 11), (3, 5), (3, 6), (3, 7), (3, 8), (3, 9), (3, 10), (3, 11), (3, 12), (3, 13), (3, 14), (3, 16), (3, 17), (3, 18), (3, 19), (3, 20), (4, 0), (5, 2), (5, 3), (5, 4), (5, 5), (5, 6), (5, 7), (6, 3), (6, 4), (6, 6), (6, 7), (6, 8), (7, 3), (7, 4), (7, 5), (7, 6), (7, 9), (7, 10), (7, 11), (7, 15), (8, 10), (8, 11), (8, 12), (8, 13), (8, 14), (8, 15), (8, 16), (8, 17), (8, 18), (9, 2), (9, 3), (10, 0), (10, 1), (10, 2), (10, 5), (10, 7), (10, 8), (10, 9), (11, 7), (11, 8), (11, 9), (11, 10), (11, 11), (11, 12), (11, 13), (11, 14), (11, 15), (11, 16), (11, 17), (11, 18), (12, 2), (12, 3), (12, 4), (20, -5), (21, -5), (22, -5), (24, -5), (25, -5), (26, -5), (27, -5)] m tg F F441 := Fq_t (ln := ln) (ln1 := ln) hM0 hX0 hM445 (by decide) (Or.inl rfl)
        have ho453 : own m440 (64) ∧ tg440 (64) = 1 := Ex_o hx443 ⟨o64.1, o64.2⟩
        have ho454 : own m440 (153) ∧ tg440 (153) = 22 := Ex_o hx443 ⟨o153.1, o153.2⟩
        have ln455 : ln440 (153) = 1 := (hx443.2 _ o153.1).2.trans hl
        clear hl
        have hX456 := Ex_t hX0 hx443
        refine Or.inr (Or.inl ⟨_, rfl, ?_⟩)
        refine jx_ld (pc_q := 465) (l_q := jSto1 L 5 (.int (i32 (r442)))) (st_q := []) rfl rfl ?_
        obtain ⟨L457, eL457⟩ : ∃ q : jL, q = jSto1 L 5 (.int (i32 (r442))) := ⟨_, rfl⟩
        rw [← eL457]
        have g458 : jGet L457 0 = some (.ref 63) := eL457 ▸ jg_ne (by decide) g0 rfl
        have g459 : jGet L457 1 = some (rv (64)) := eL457 ▸ jg_nr (by decide) g1
        have g460 : jGet L457 2 = some (.ref 66) := eL457 ▸ jg_ne (by decide) g2 rfl
        have g461 : jGet L457 3 = some (rv (153)) := eL457 ▸ jg_nr (by decide) g3
        have g462 : jGet L457 4 = some (.int (i32 (i))) := eL457 ▸ jg_ne (by decide) g4 rfl
        have g463 : jGet L457 5 = some (.int (i32 (r442))) := eL457 ▸ jg_eq
        clear eL457
        refine jx_ld (pc_q := 466) (l_q := L457) (st_q := [.ref 66]) rfl (jl_aloadn g460) ?_
        refine jx_ld (pc_q := 467) (l_q := L457) (st_q := [.ref 63, .ref 66]) rfl (jl_aloadn g458) ?_
        refine jx_ld (pc_q := 469) (l_q := L457) (st_q := [.int (i32 (i)), .ref 63, .ref 66]) rfl (jl_iload g462) ?_
        refine jx_ar (pc_q := 470) (st_q := [.int (i32 (1)), .int (i32 (i)), .ref 63, .ref 66]) rfl rfl rfl rfl ?_
        refine jx_add (pc_q := 471) rfl rfl ?_
        refine jx_sca (pc_q := 472) (z := (i + 1)) rfl rfl (by omega) (by omega) hL ?_
        refine jx_ld (pc_q := 473) (l_q := L457) (st_q := [.ref 63, .int (i32 (sx X ((i + 1)))), .ref 66]) rfl (jl_aloadn g458) ?_
        refine jx_ld (pc_q := 475) (l_q := L457) (st_q := [.int (i32 (i)), .ref 63, .int (i32 (sx X ((i + 1)))), .ref 66]) rfl (jl_iload g462) ?_
        refine jx_ar (pc_q := 476) (st_q := [.int (i32 (2)), .int (i32 (i)), .ref 63, .int (i32 (sx X ((i + 1)))), .ref 66]) rfl rfl rfl rfl ?_
        refine jx_add (pc_q := 477) rfl rfl ?_
        refine jx_sca (pc_q := 478) (z := (i + 2)) rfl rfl (by omega) (by omega) hL ?_
        refine rc_vi (pc_q := 481) (m := m440) (G := G) (A := A) (st := []) (as := [.int (i32 (sx X ((i + 1)))), .int (i32 (sx X ((i + 2))))]) (by have := hC444.1; omega) rfl rfl rfl rfl ⟨rfl, rfl, (Nat.le_of_ble_eq_true rfl)⟩ rfl rfl (ri_run (dd := d) (by omega) hR (by omega) (by omega) (by omega)) (fun o V_q hq => ?_)
        obtain ⟨G464, A464, r464, rfl, rfl, hR464, hp464⟩ := hq
        refine Or.inr ⟨_, rfl, ?_⟩
        have _u := hp464
        rw [← cr_V (by have := hC444.1; omega)]
        refine jx_ld (pc_q := 483) (l_q := jSto1 L457 6 (.int (i32 (r464)))) (st_q := []) rfl rfl ?_
        obtain ⟨L465, eL465⟩ : ∃ q : jL, q = jSto1 L457 6 (.int (i32 (r464))) := ⟨_, rfl⟩
        rw [← eL465]
        have g466 : jGet L465 0 = some (.ref 63) := eL465 ▸ jg_ne (by decide) g458 rfl
        have g467 : jGet L465 1 = some (rv (64)) := eL465 ▸ jg_nr (by decide) g459
        have g468 : jGet L465 2 = some (.ref 66) := eL465 ▸ jg_ne (by decide) g460 rfl
        have g469 : jGet L465 3 = some (rv (153)) := eL465 ▸ jg_nr (by decide) g461
        have g470 : jGet L465 4 = some (.int (i32 (i))) := eL465 ▸ jg_ne (by decide) g462 rfl
        have g471 : jGet L465 5 = some (.int (i32 (r442))) := eL465 ▸ jg_ne (by decide) g463 rfl
        have g472 : jGet L465 6 = some (.int (i32 (r464))) := eL465 ▸ jg_eq
        clear eL465
        refine jx_go (tg := 734) rfl rfl ?_
        refine jx_inc (pc_q := 737) (l_q := jSto1 L465 4 (.int (i32 (i + (4))))) (x := i) rfl g470 (by decide) rfl rfl ?_
        obtain ⟨L473, eL473⟩ : ∃ q : jL, q = jSto1 L465 4 (.int (i32 ((i + (4))))) := ⟨_, rfl⟩
        rw [← eL473]
        have g474 : jGet L473 0 = some (.ref 63) := eL473 ▸ jg_ne (by decide) g466 rfl
        have g475 : jGet L473 1 = some (rv (64)) := eL473 ▸ jg_nr (by decide) g467
        have g476 : jGet L473 2 = some (.ref 66) := eL473 ▸ jg_ne (by decide) g468 rfl
        have g477 : jGet L473 3 = some (rv (153)) := eL473 ▸ jg_nr (by decide) g469
        have g478 : jGet L473 5 = some (.int (i32 (r442))) := eL473 ▸ jg_ne (by decide) g471 rfl
        have g479 : jGet L473 6 = some (.int (i32 (r464))) := eL473 ▸ jg_ne (by decide) g472 rfl
        have g480 : jGet L473 4 = some (.int (i32 ((i + (4))))) := eL473 ▸ jg_eq
        clear eL473
        refine jx_go (tg := 23) rfl rfl ?_
        have q481 : F441 (64) (1 : Int) = F (64) (1 : Int) := (show F441 (64) (1 : Int) = F (64) (1 : Int) from hM445 _ _ o64.1 (own_z o64.1) (by rw [o64.2]; rfl))
        have q482 : F441 (64) (5 : Int) = F (64) (5 : Int) := (show F441 (64) (5 : Int) = F (64) (5 : Int) from hM445 _ _ o64.1 (own_z o64.1) (by rw [o64.2]; rfl))
        have q483 : tz (F441 (64) (5 : Int)) = tz (F (64) (5 : Int)) := by rw [q482]
        exact ih _ (by omega) L473 G464 A464 m440 tg440 ln440 F441 ((i + (4))) (n + 1) rfl g474 g475 g476 g477 g480 hC444 c449 (SB_m c450 (by omega)) c451 hR464 ⟨ho453.1, ho453.2⟩ ⟨ho454.1, ho454.2⟩ (by omega) ((show F441 (153) ((-1) : Int) = F (153) ((-1) : Int) from hM445 _ _ o153.1 (own_z o153.1) (by rw [o153.2]; rfl)).trans s153) (by omega) (by omega) (by omega) (by omega) (by omega)
      by_cases h484 : z3 = 11
      · refine jx_swe (tg := 486) h484 rfl rfl rfl rfl ?_
        refine jx_ld (pc_q := 487) (l_q := L) (st_q := [rv (64)]) rfl (jl_rvn g1) ?_
        refine jx_ld (pc_q := 488) (l_q := L) (st_q := [.ref 63, rv (64)]) rfl (jl_aloadn g0) ?_
        refine jx_ld (pc_q := 490) (l_q := L) (st_q := [.int (i32 (i)), .ref 63, rv (64)]) rfl (jl_iload g4) ?_
        refine jx_ar (pc_q := 491) (st_q := [.int (i32 (1)), .int (i32 (i)), .ref 63, rv (64)]) rfl rfl rfl rfl ?_
        refine jx_add (pc_q := 492) rfl rfl ?_
        refine jx_sca (pc_q := 493) (z := (i + 1)) rfl rfl (by omega) (by omega) hL ?_
        have b485 := sx_rg (X := X) (j := (i + 1))
        refine jx_ld (pc_q := 494) (l_q := L) (st_q := [rv (153), .int (i32 (sx X ((i + 1)))), rv (64)]) rfl (jl_rvn g3) ?_
        refine cx_st (st := []) (as := [rv (64), .int (i32 (sx X ((i + 1)))), rv (153)]) rfl rfl rfl ⟨rfl, (Nat.le_of_ble_eq_true rfl)⟩ rfl (k_LLaw_beat (dd := d) (R := rR G A) (m := m) (tg := tg) (ln := ln) (F := F) (x := 64) (p0 := sx X ((i + 1))) (ou := 153) (hd := by omega) (hC := hC) (o_x := o64.1) (t_x := o64.2) (h_p0 := by omega) (o_ou := o153.1) (t_ou := o153.2) (s_ou := s153) (p_0 := by omega) (p_1 := by omega) (p_2 := by omega) (c_NP := c_NP) (kk := 30001 * n) (c_SB := c_SB) (c_T3 := c_T3)) (fun o V_q hq => ?_)
        obtain ⟨m486, tg486, ln486, F487, r488, rfl, rfl, hx489, hC490, hM491, b492, p493, p494, c495, c496, c497, -⟩ := hq
        have hM498 : Fq 0 [(1, 1), (1, 2), (1, 3), (1, 4), (1, 5), (1, 6), (2, 7), (2, 8), (2, 9), (2, 10), (2, 11), (3, 5), (3, 6), (3, 7), (3, 8), (3, 9), (3, 10), (3, 11), (3, 12), (3, 13), (3, 14), (3, 16), (3, 17), (3, 18), (3, 19), (3, 20), (4, 0), (5, 2), (5, 3), (5, 4), (5, 5), (5, 6), (5, 7), (6, 3), (6, 4), (6, 6), (6, 7), (6, 8), (7, 3), (7, 4), (7, 5), (7, 6), (7, 9), (7, 10), (7, 11), (7, 15), (8, 10), (8, 11), (8, 12), (8, 13), (8, 14), (8, 15), (8, 16), (8, 17), (8, 18), (9, 2), (9, 3), (10, 0), (10, 1), (10, 2), (10, 5), (10, 7), (10, 8), (10, 9), (11, 7), (11, 8), (11, 9), (11, 10), (11, 11), (11, 12), (11, 13), (11, 14), (11, 15), (11, 16), (11, 17), (11, 18), (12, 2), (12, 3), (12, 4), (20, -5), (21, -5), (22, -5), (24, -5), (25, -5), (26, -5), (27, -5)] m tg F F487 := Fq_t (ln := ln) (ln1 := ln) hM0 hX0 hM491 (by decide) (Or.inl rfl)
        have ho499 : own m486 (64) ∧ tg486 (64) = 1 := Ex_o hx489 ⟨o64.1, o64.2⟩
        have ho500 : own m486 (153) ∧ tg486 (153) = 22 := Ex_o hx489 ⟨o153.1, o153.2⟩
        have ln501 : ln486 (153) = 1 := (hx489.2 _ o153.1).2.trans hl
        clear hl
        have hX502 := Ex_t hX0 hx489
        refine Or.inr (Or.inl ⟨_, rfl, ?_⟩)
        refine jx_ld (pc_q := 499) (l_q := jSto1 L 5 (.int (i32 (r488)))) (st_q := []) rfl rfl ?_
        obtain ⟨L503, eL503⟩ : ∃ q : jL, q = jSto1 L 5 (.int (i32 (r488))) := ⟨_, rfl⟩
        rw [← eL503]
        have g504 : jGet L503 0 = some (.ref 63) := eL503 ▸ jg_ne (by decide) g0 rfl
        have g505 : jGet L503 1 = some (rv (64)) := eL503 ▸ jg_nr (by decide) g1
        have g506 : jGet L503 2 = some (.ref 66) := eL503 ▸ jg_ne (by decide) g2 rfl
        have g507 : jGet L503 3 = some (rv (153)) := eL503 ▸ jg_nr (by decide) g3
        have g508 : jGet L503 4 = some (.int (i32 (i))) := eL503 ▸ jg_ne (by decide) g4 rfl
        have g509 : jGet L503 5 = some (.int (i32 (r488))) := eL503 ▸ jg_eq
        clear eL503
        refine jx_ld (pc_q := 500) (l_q := L503) (st_q := [.ref 66]) rfl (jl_aloadn g506) ?_
        refine jx_ld (pc_q := 501) (l_q := L503) (st_q := [.ref 63, .ref 66]) rfl (jl_aloadn g504) ?_
        refine jx_ld (pc_q := 503) (l_q := L503) (st_q := [.int (i32 (i)), .ref 63, .ref 66]) rfl (jl_iload g508) ?_
        refine jx_ar (pc_q := 504) (st_q := [.int (i32 (1)), .int (i32 (i)), .ref 63, .ref 66]) rfl rfl rfl rfl ?_
        refine jx_add (pc_q := 505) rfl rfl ?_
        refine jx_sca (pc_q := 506) (z := (i + 1)) rfl rfl (by omega) (by omega) hL ?_
        refine rc_vi (pc_q := 509) (m := m486) (G := G) (A := A) (st := []) (as := [.int (i32 (sx X ((i + 1))))]) (by have := hC490.1; omega) rfl rfl rfl rfl ⟨rfl, rfl, (Nat.le_of_ble_eq_true rfl)⟩ rfl rfl (ri_beat (dd := d) (by omega) hR (by omega) (by omega)) (fun o V_q hq => ?_)
        obtain ⟨G510, A510, r510, rfl, rfl, hR510, hp510⟩ := hq
        refine Or.inr ⟨_, rfl, ?_⟩
        have _u := hp510
        rw [← cr_V (by have := hC490.1; omega)]
        refine jx_ld (pc_q := 511) (l_q := jSto1 L503 6 (.int (i32 (r510)))) (st_q := []) rfl rfl ?_
        obtain ⟨L511, eL511⟩ : ∃ q : jL, q = jSto1 L503 6 (.int (i32 (r510))) := ⟨_, rfl⟩
        rw [← eL511]
        have g512 : jGet L511 0 = some (.ref 63) := eL511 ▸ jg_ne (by decide) g504 rfl
        have g513 : jGet L511 1 = some (rv (64)) := eL511 ▸ jg_nr (by decide) g505
        have g514 : jGet L511 2 = some (.ref 66) := eL511 ▸ jg_ne (by decide) g506 rfl
        have g515 : jGet L511 3 = some (rv (153)) := eL511 ▸ jg_nr (by decide) g507
        have g516 : jGet L511 4 = some (.int (i32 (i))) := eL511 ▸ jg_ne (by decide) g508 rfl
        have g517 : jGet L511 5 = some (.int (i32 (r488))) := eL511 ▸ jg_ne (by decide) g509 rfl
        have g518 : jGet L511 6 = some (.int (i32 (r510))) := eL511 ▸ jg_eq
        clear eL511
        refine jx_go (tg := 734) rfl rfl ?_
        refine jx_inc (pc_q := 737) (l_q := jSto1 L511 4 (.int (i32 (i + (4))))) (x := i) rfl g516 (by decide) rfl rfl ?_
        obtain ⟨L519, eL519⟩ : ∃ q : jL, q = jSto1 L511 4 (.int (i32 ((i + (4))))) := ⟨_, rfl⟩
        rw [← eL519]
        have g520 : jGet L519 0 = some (.ref 63) := eL519 ▸ jg_ne (by decide) g512 rfl
        have g521 : jGet L519 1 = some (rv (64)) := eL519 ▸ jg_nr (by decide) g513
        have g522 : jGet L519 2 = some (.ref 66) := eL519 ▸ jg_ne (by decide) g514 rfl
        have g523 : jGet L519 3 = some (rv (153)) := eL519 ▸ jg_nr (by decide) g515
        have g524 : jGet L519 5 = some (.int (i32 (r488))) := eL519 ▸ jg_ne (by decide) g517 rfl
        have g525 : jGet L519 6 = some (.int (i32 (r510))) := eL519 ▸ jg_ne (by decide) g518 rfl
        have g526 : jGet L519 4 = some (.int (i32 ((i + (4))))) := eL519 ▸ jg_eq
        clear eL519
        refine jx_go (tg := 23) rfl rfl ?_
        have q527 : F487 (64) (1 : Int) = F (64) (1 : Int) := (show F487 (64) (1 : Int) = F (64) (1 : Int) from hM491 _ _ o64.1 (own_z o64.1) (by rw [o64.2]; rfl))
        have q528 : F487 (64) (5 : Int) = F (64) (5 : Int) := (show F487 (64) (5 : Int) = F (64) (5 : Int) from hM491 _ _ o64.1 (own_z o64.1) (by rw [o64.2]; rfl))
        have q529 : tz (F487 (64) (5 : Int)) = tz (F (64) (5 : Int)) := by rw [q528]
        exact ih _ (by omega) L519 G510 A510 m486 tg486 ln486 F487 ((i + (4))) (n + 1) rfl g520 g521 g522 g523 g526 hC490 c495 (SB_m c496 (by omega)) c497 hR510 ⟨ho499.1, ho499.2⟩ ⟨ho500.1, ho500.2⟩ (by omega) ((show F487 (153) ((-1) : Int) = F (153) ((-1) : Int) from hM491 _ _ o153.1 (own_z o153.1) (by rw [o153.2]; rfl)).trans s153) (by omega) (by omega) (by omega) (by omega) (by omega)
      by_cases h530 : z3 = 12
      · refine jx_swe (tg := 514) h530 rfl rfl rfl rfl ?_
        refine jx_ld (pc_q := 515) (l_q := L) (st_q := [rv (64)]) rfl (jl_rvn g1) ?_
        refine jx_ld (pc_q := 516) (l_q := L) (st_q := [.ref 63, rv (64)]) rfl (jl_aloadn g0) ?_
        refine jx_ld (pc_q := 518) (l_q := L) (st_q := [.int (i32 (i)), .ref 63, rv (64)]) rfl (jl_iload g4) ?_
        refine jx_ar (pc_q := 519) (st_q := [.int (i32 (1)), .int (i32 (i)), .ref 63, rv (64)]) rfl rfl rfl rfl ?_
        refine jx_add (pc_q := 520) rfl rfl ?_
        refine jx_sca (pc_q := 521) (z := (i + 1)) rfl rfl (by omega) (by omega) hL ?_
        have b531 := sx_rg (X := X) (j := (i + 1))
        refine jx_ld (pc_q := 522) (l_q := L) (st_q := [rv (153), .int (i32 (sx X ((i + 1)))), rv (64)]) rfl (jl_rvn g3) ?_
        refine cx_st (st := []) (as := [rv (64), .int (i32 (sx X ((i + 1)))), rv (153)]) rfl rfl rfl ⟨rfl, (Nat.le_of_ble_eq_true rfl)⟩ rfl (k_LLaw_rounds (dd := d) (R := rR G A) (m := m) (tg := tg) (ln := ln) (F := F) (x := 64) (p0 := sx X ((i + 1))) (ou := 153) (hd := by omega) (hC := hC) (o_x := o64.1) (t_x := o64.2) (h_p0 := by omega) (o_ou := o153.1) (t_ou := o153.2) (s_ou := s153) (p_0 := by omega) (p_1 := by omega) (p_2 := by omega) (c_NP := c_NP) (kk := 30001 * n) (c_SB := c_SB) (c_T3 := c_T3)) (fun o V_q hq => ?_)
        obtain ⟨m532, tg532, ln532, F533, r534, rfl, rfl, hx535, hC536, hM537, b538, p539, p540, c541, c542, c543, -⟩ := hq
        have hM544 : Fq 0 [(1, 1), (1, 2), (1, 3), (1, 4), (1, 5), (1, 6), (2, 7), (2, 8), (2, 9), (2, 10), (2, 11), (3, 5), (3, 6), (3, 7), (3, 8), (3, 9), (3, 10), (3, 11), (3, 12), (3, 13), (3, 14), (3, 16), (3, 17), (3, 18), (3, 19), (3, 20), (4, 0), (5, 2), (5, 3), (5, 4), (5, 5), (5, 6), (5, 7), (6, 3), (6, 4), (6, 6), (6, 7), (6, 8), (7, 3), (7, 4), (7, 5), (7, 6), (7, 9), (7, 10), (7, 11), (7, 15), (8, 10), (8, 11), (8, 12), (8, 13), (8, 14), (8, 15), (8, 16), (8, 17), (8, 18), (9, 2), (9, 3), (10, 0), (10, 1), (10, 2), (10, 5), (10, 7), (10, 8), (10, 9), (11, 7), (11, 8), (11, 9), (11, 10), (11, 11), (11, 12), (11, 13), (11, 14), (11, 15), (11, 16), (11, 17), (11, 18), (12, 2), (12, 3), (12, 4), (20, -5), (21, -5), (22, -5), (24, -5), (25, -5), (26, -5), (27, -5)] m tg F F533 := Fq_t (ln := ln) (ln1 := ln) hM0 hX0 hM537 (by decide) (Or.inl rfl)
        have ho545 : own m532 (64) ∧ tg532 (64) = 1 := Ex_o hx535 ⟨o64.1, o64.2⟩
        have ho546 : own m532 (153) ∧ tg532 (153) = 22 := Ex_o hx535 ⟨o153.1, o153.2⟩
        have ln547 : ln532 (153) = 1 := (hx535.2 _ o153.1).2.trans hl
        clear hl
        have hX548 := Ex_t hX0 hx535
        refine Or.inr (Or.inl ⟨_, rfl, ?_⟩)
        refine jx_ld (pc_q := 527) (l_q := jSto1 L 5 (.int (i32 (r534)))) (st_q := []) rfl rfl ?_
        obtain ⟨L549, eL549⟩ : ∃ q : jL, q = jSto1 L 5 (.int (i32 (r534))) := ⟨_, rfl⟩
        rw [← eL549]
        have g550 : jGet L549 0 = some (.ref 63) := eL549 ▸ jg_ne (by decide) g0 rfl
        have g551 : jGet L549 1 = some (rv (64)) := eL549 ▸ jg_nr (by decide) g1
        have g552 : jGet L549 2 = some (.ref 66) := eL549 ▸ jg_ne (by decide) g2 rfl
        have g553 : jGet L549 3 = some (rv (153)) := eL549 ▸ jg_nr (by decide) g3
        have g554 : jGet L549 4 = some (.int (i32 (i))) := eL549 ▸ jg_ne (by decide) g4 rfl
        have g555 : jGet L549 5 = some (.int (i32 (r534))) := eL549 ▸ jg_eq
        clear eL549
        refine jx_ld (pc_q := 528) (l_q := L549) (st_q := [.ref 66]) rfl (jl_aloadn g552) ?_
        refine jx_ld (pc_q := 529) (l_q := L549) (st_q := [.ref 63, .ref 66]) rfl (jl_aloadn g550) ?_
        refine jx_ld (pc_q := 531) (l_q := L549) (st_q := [.int (i32 (i)), .ref 63, .ref 66]) rfl (jl_iload g554) ?_
        refine jx_ar (pc_q := 532) (st_q := [.int (i32 (1)), .int (i32 (i)), .ref 63, .ref 66]) rfl rfl rfl rfl ?_
        refine jx_add (pc_q := 533) rfl rfl ?_
        refine jx_sca (pc_q := 534) (z := (i + 1)) rfl rfl (by omega) (by omega) hL ?_
        refine rc_vi (pc_q := 537) (m := m532) (G := G) (A := A) (st := []) (as := [.int (i32 (sx X ((i + 1))))]) (by have := hC536.1; omega) rfl rfl rfl rfl ⟨rfl, rfl, (Nat.le_of_ble_eq_true rfl)⟩ rfl rfl (ri_rounds (dd := d) (by omega) hR (by omega) (by omega)) (fun o V_q hq => ?_)
        obtain ⟨G556, A556, r556, rfl, rfl, hR556, hp556⟩ := hq
        refine Or.inr ⟨_, rfl, ?_⟩
        have _u := hp556
        rw [← cr_V (by have := hC536.1; omega)]
        refine jx_ld (pc_q := 539) (l_q := jSto1 L549 6 (.int (i32 (r556)))) (st_q := []) rfl rfl ?_
        obtain ⟨L557, eL557⟩ : ∃ q : jL, q = jSto1 L549 6 (.int (i32 (r556))) := ⟨_, rfl⟩
        rw [← eL557]
        have g558 : jGet L557 0 = some (.ref 63) := eL557 ▸ jg_ne (by decide) g550 rfl
        have g559 : jGet L557 1 = some (rv (64)) := eL557 ▸ jg_nr (by decide) g551
        have g560 : jGet L557 2 = some (.ref 66) := eL557 ▸ jg_ne (by decide) g552 rfl
        have g561 : jGet L557 3 = some (rv (153)) := eL557 ▸ jg_nr (by decide) g553
        have g562 : jGet L557 4 = some (.int (i32 (i))) := eL557 ▸ jg_ne (by decide) g554 rfl
        have g563 : jGet L557 5 = some (.int (i32 (r534))) := eL557 ▸ jg_ne (by decide) g555 rfl
        have g564 : jGet L557 6 = some (.int (i32 (r556))) := eL557 ▸ jg_eq
        clear eL557
        refine jx_go (tg := 734) rfl rfl ?_
        refine jx_inc (pc_q := 737) (l_q := jSto1 L557 4 (.int (i32 (i + (4))))) (x := i) rfl g562 (by decide) rfl rfl ?_
        obtain ⟨L565, eL565⟩ : ∃ q : jL, q = jSto1 L557 4 (.int (i32 ((i + (4))))) := ⟨_, rfl⟩
        rw [← eL565]
        have g566 : jGet L565 0 = some (.ref 63) := eL565 ▸ jg_ne (by decide) g558 rfl
        have g567 : jGet L565 1 = some (rv (64)) := eL565 ▸ jg_nr (by decide) g559
        have g568 : jGet L565 2 = some (.ref 66) := eL565 ▸ jg_ne (by decide) g560 rfl
        have g569 : jGet L565 3 = some (rv (153)) := eL565 ▸ jg_nr (by decide) g561
        have g570 : jGet L565 5 = some (.int (i32 (r534))) := eL565 ▸ jg_ne (by decide) g563 rfl
        have g571 : jGet L565 6 = some (.int (i32 (r556))) := eL565 ▸ jg_ne (by decide) g564 rfl
        have g572 : jGet L565 4 = some (.int (i32 ((i + (4))))) := eL565 ▸ jg_eq
        clear eL565
        refine jx_go (tg := 23) rfl rfl ?_
        have q573 : F533 (64) (1 : Int) = F (64) (1 : Int) := (show F533 (64) (1 : Int) = F (64) (1 : Int) from hM537 _ _ o64.1 (own_z o64.1) (by rw [o64.2]; rfl))
        have q574 : F533 (64) (5 : Int) = F (64) (5 : Int) := (show F533 (64) (5 : Int) = F (64) (5 : Int) from hM537 _ _ o64.1 (own_z o64.1) (by rw [o64.2]; rfl))
        have q575 : tz (F533 (64) (5 : Int)) = tz (F (64) (5 : Int)) := by rw [q574]
        exact ih _ (by omega) L565 G556 A556 m532 tg532 ln532 F533 ((i + (4))) (n + 1) rfl g566 g567 g568 g569 g572 hC536 c541 (SB_m c542 (by omega)) c543 hR556 ⟨ho545.1, ho545.2⟩ ⟨ho546.1, ho546.2⟩ (by omega) ((show F533 (153) ((-1) : Int) = F (153) ((-1) : Int) from hM537 _ _ o153.1 (own_z o153.1) (by rw [o153.2]; rfl)).trans s153) (by omega) (by omega) (by omega) (by omega) (by omega)
      by_cases h576 : z3 = 13
      · refine jx_swe (tg := 542) h576 rfl rfl rfl rfl ?_
        refine jx_ld (pc_q := 543) (l_q := L) (st_q := [rv (64)]) rfl (jl_rvn g1) ?_
        refine jx_ld (pc_q := 544) (l_q := L) (st_q := [rv (153), rv (64)]) rfl (jl_rvn g3) ?_
        refine cx_st (st := []) (as := [rv (64), rv (153)]) rfl rfl rfl ⟨rfl, (Nat.le_of_ble_eq_true rfl)⟩ rfl (k_LLaw_outcome (dd := d) (R := rR G A) (m := m) (tg := tg) (ln := ln) (F := F) (x := 64) (ou := 153) (hd := by omega) (hC := hC) (o_x := o64.1) (t_x := o64.2) (o_ou := o153.1) (t_ou := o153.2) (s_ou := s153) (p_0 := by omega) (c_NP := c_NP) (kk := 30001 * n) (c_SB := c_SB) (c_T3 := c_T3)) (fun o V_q hq => ?_)
        obtain ⟨m577, tg577, ln577, F578, r579, rfl, rfl, hx580, hC581, hM582, b583, p584, p585, c586, c587, c588, -⟩ := hq
        have hM589 : Fq 0 [(1, 1), (1, 2), (1, 3), (1, 4), (1, 5), (1, 6), (2, 7), (2, 8), (2, 9), (2, 10), (2, 11), (3, 5), (3, 6), (3, 7), (3, 8), (3, 9), (3, 10), (3, 11), (3, 12), (3, 13), (3, 14), (3, 16), (3, 17), (3, 18), (3, 19), (3, 20), (4, 0), (5, 2), (5, 3), (5, 4), (5, 5), (5, 6), (5, 7), (6, 3), (6, 4), (6, 6), (6, 7), (6, 8), (7, 3), (7, 4), (7, 5), (7, 6), (7, 9), (7, 10), (7, 11), (7, 15), (8, 10), (8, 11), (8, 12), (8, 13), (8, 14), (8, 15), (8, 16), (8, 17), (8, 18), (9, 2), (9, 3), (10, 0), (10, 1), (10, 2), (10, 5), (10, 7), (10, 8), (10, 9), (11, 7), (11, 8), (11, 9), (11, 10), (11, 11), (11, 12), (11, 13), (11, 14), (11, 15), (11, 16), (11, 17), (11, 18), (12, 2), (12, 3), (12, 4), (20, -5), (21, -5), (22, -5), (24, -5), (25, -5), (26, -5), (27, -5)] m tg F F578 := Fq_t (ln := ln) (ln1 := ln) hM0 hX0 hM582 (by decide) (Or.inl rfl)
        have ho590 : own m577 (64) ∧ tg577 (64) = 1 := Ex_o hx580 ⟨o64.1, o64.2⟩
        have ho591 : own m577 (153) ∧ tg577 (153) = 22 := Ex_o hx580 ⟨o153.1, o153.2⟩
        have ln592 : ln577 (153) = 1 := (hx580.2 _ o153.1).2.trans hl
        clear hl
        have hX593 := Ex_t hX0 hx580
        refine Or.inr (Or.inl ⟨_, rfl, ?_⟩)
        refine jx_ld (pc_q := 549) (l_q := jSto1 L 5 (.int (i32 (r579)))) (st_q := []) rfl rfl ?_
        obtain ⟨L594, eL594⟩ : ∃ q : jL, q = jSto1 L 5 (.int (i32 (r579))) := ⟨_, rfl⟩
        rw [← eL594]
        have g595 : jGet L594 0 = some (.ref 63) := eL594 ▸ jg_ne (by decide) g0 rfl
        have g596 : jGet L594 1 = some (rv (64)) := eL594 ▸ jg_nr (by decide) g1
        have g597 : jGet L594 2 = some (.ref 66) := eL594 ▸ jg_ne (by decide) g2 rfl
        have g598 : jGet L594 3 = some (rv (153)) := eL594 ▸ jg_nr (by decide) g3
        have g599 : jGet L594 4 = some (.int (i32 (i))) := eL594 ▸ jg_ne (by decide) g4 rfl
        have g600 : jGet L594 5 = some (.int (i32 (r579))) := eL594 ▸ jg_eq
        clear eL594
        refine jx_ld (pc_q := 550) (l_q := L594) (st_q := [.ref 66]) rfl (jl_aloadn g597) ?_
        refine rc_vi (pc_q := 553) (m := m577) (G := G) (A := A) (st := []) (as := []) (by have := hC581.1; omega) rfl rfl rfl rfl ⟨rfl, rfl, (Nat.le_of_ble_eq_true rfl)⟩ rfl rfl (ri_outcome (dd := d) (by omega) hR (by omega) ) (fun o V_q hq => ?_)
        obtain ⟨G601, A601, r601, rfl, rfl, hR601, hp601⟩ := hq
        refine Or.inr ⟨_, rfl, ?_⟩
        have _u := hp601
        rw [← cr_V (by have := hC581.1; omega)]
        refine jx_ld (pc_q := 555) (l_q := jSto1 L594 6 (.int (i32 (r601)))) (st_q := []) rfl rfl ?_
        obtain ⟨L602, eL602⟩ : ∃ q : jL, q = jSto1 L594 6 (.int (i32 (r601))) := ⟨_, rfl⟩
        rw [← eL602]
        have g603 : jGet L602 0 = some (.ref 63) := eL602 ▸ jg_ne (by decide) g595 rfl
        have g604 : jGet L602 1 = some (rv (64)) := eL602 ▸ jg_nr (by decide) g596
        have g605 : jGet L602 2 = some (.ref 66) := eL602 ▸ jg_ne (by decide) g597 rfl
        have g606 : jGet L602 3 = some (rv (153)) := eL602 ▸ jg_nr (by decide) g598
        have g607 : jGet L602 4 = some (.int (i32 (i))) := eL602 ▸ jg_ne (by decide) g599 rfl
        have g608 : jGet L602 5 = some (.int (i32 (r579))) := eL602 ▸ jg_ne (by decide) g600 rfl
        have g609 : jGet L602 6 = some (.int (i32 (r601))) := eL602 ▸ jg_eq
        clear eL602
        refine jx_go (tg := 734) rfl rfl ?_
        refine jx_inc (pc_q := 737) (l_q := jSto1 L602 4 (.int (i32 (i + (4))))) (x := i) rfl g607 (by decide) rfl rfl ?_
        obtain ⟨L610, eL610⟩ : ∃ q : jL, q = jSto1 L602 4 (.int (i32 ((i + (4))))) := ⟨_, rfl⟩
        rw [← eL610]
        have g611 : jGet L610 0 = some (.ref 63) := eL610 ▸ jg_ne (by decide) g603 rfl
        have g612 : jGet L610 1 = some (rv (64)) := eL610 ▸ jg_nr (by decide) g604
        have g613 : jGet L610 2 = some (.ref 66) := eL610 ▸ jg_ne (by decide) g605 rfl
        have g614 : jGet L610 3 = some (rv (153)) := eL610 ▸ jg_nr (by decide) g606
        have g615 : jGet L610 5 = some (.int (i32 (r579))) := eL610 ▸ jg_ne (by decide) g608 rfl
        have g616 : jGet L610 6 = some (.int (i32 (r601))) := eL610 ▸ jg_ne (by decide) g609 rfl
        have g617 : jGet L610 4 = some (.int (i32 ((i + (4))))) := eL610 ▸ jg_eq
        clear eL610
        refine jx_go (tg := 23) rfl rfl ?_
        have q618 : F578 (64) (1 : Int) = F (64) (1 : Int) := (show F578 (64) (1 : Int) = F (64) (1 : Int) from hM582 _ _ o64.1 (own_z o64.1) (by rw [o64.2]; rfl))
        have q619 : F578 (64) (5 : Int) = F (64) (5 : Int) := (show F578 (64) (5 : Int) = F (64) (5 : Int) from hM582 _ _ o64.1 (own_z o64.1) (by rw [o64.2]; rfl))
        have q620 : tz (F578 (64) (5 : Int)) = tz (F (64) (5 : Int)) := by rw [q619]
        exact ih _ (by omega) L610 G601 A601 m577 tg577 ln577 F578 ((i + (4))) (n + 1) rfl g611 g612 g613 g614 g617 hC581 c586 (SB_m c587 (by omega)) c588 hR601 ⟨ho590.1, ho590.2⟩ ⟨ho591.1, ho591.2⟩ (by omega) ((show F578 (153) ((-1) : Int) = F (153) ((-1) : Int) from hM582 _ _ o153.1 (own_z o153.1) (by rw [o153.2]; rfl)).trans s153) (by omega) (by omega) (by omega) (by omega) (by omega)
      by_cases h621 : z3 = 14
      · refine jx_swe (tg := 558) h621 rfl rfl rfl rfl ?_
        refine jx_ld (pc_q := 559) (l_q := L) (st_q := [rv (64)]) rfl (jl_rvn g1) ?_
        refine jx_ld (pc_q := 560) (l_q := L) (st_q := [.ref 63, rv (64)]) rfl (jl_aloadn g0) ?_
        refine jx_ld (pc_q := 562) (l_q := L) (st_q := [.int (i32 (i)), .ref 63, rv (64)]) rfl (jl_iload g4) ?_
        refine jx_ar (pc_q := 563) (st_q := [.int (i32 (1)), .int (i32 (i)), .ref 63, rv (64)]) rfl rfl rfl rfl ?_
        refine jx_add (pc_q := 564) rfl rfl ?_
        refine jx_sca (pc_q := 565) (z := (i + 1)) rfl rfl (by omega) (by omega) hL ?_
        have b622 := sx_rg (X := X) (j := (i + 1))
        refine jx_ld (pc_q := 566) (l_q := L) (st_q := [.ref 63, .int (i32 (sx X ((i + 1)))), rv (64)]) rfl (jl_aloadn g0) ?_
        refine jx_ld (pc_q := 568) (l_q := L) (st_q := [.int (i32 (i)), .ref 63, .int (i32 (sx X ((i + 1)))), rv (64)]) rfl (jl_iload g4) ?_
        refine jx_ar (pc_q := 569) (st_q := [.int (i32 (2)), .int (i32 (i)), .ref 63, .int (i32 (sx X ((i + 1)))), rv (64)]) rfl rfl rfl rfl ?_
        refine jx_add (pc_q := 570) rfl rfl ?_
        refine jx_sca (pc_q := 571) (z := (i + 2)) rfl rfl (by omega) (by omega) hL ?_
        have b623 := sx_rg (X := X) (j := (i + 2))
        refine jx_ld (pc_q := 572) (l_q := L) (st_q := [rv (153), .int (i32 (sx X ((i + 2)))), .int (i32 (sx X ((i + 1)))), rv (64)]) rfl (jl_rvn g3) ?_
        refine cx_st (st := []) (as := [rv (64), .int (i32 (sx X ((i + 1)))), .int (i32 (sx X ((i + 2)))), rv (153)]) rfl rfl rfl ⟨rfl, (Nat.le_of_ble_eq_true rfl)⟩ rfl (k_LLaw_core (dd := d) (R := rR G A) (m := m) (tg := tg) (ln := ln) (F := F) (x := 64) (p0 := sx X ((i + 1))) (p1 := sx X ((i + 2))) (ou := 153) (hd := by omega) (hC := hC) (o_x := o64.1) (t_x := o64.2) (h_p0 := by omega) (h_p1 := by omega) (o_ou := o153.1) (t_ou := o153.2) (s_ou := s153) (p_0 := by omega) (c_NP := c_NP) (kk := 30001 * n) (c_SB := c_SB) (c_T3 := c_T3)) (fun o V_q hq => ?_)
        obtain ⟨m624, tg624, ln624, F625, r626, rfl, rfl, hx627, hC628, hM629, b630, p631, p632, c633, c634, c635, -⟩ := hq
        have hM636 : Fq 0 [(1, 1), (1, 2), (1, 3), (1, 4), (1, 5), (1, 6), (2, 7), (2, 8), (2, 9), (2, 10), (2, 11), (3, 5), (3, 6), (3, 7), (3, 8), (3, 9), (3, 10), (3, 11), (3, 12), (3, 13), (3, 14), (3, 16), (3, 17), (3, 18), (3, 19), (3, 20), (4, 0), (5, 2), (5, 3), (5, 4), (5, 5), (5, 6), (5, 7), (6, 3), (6, 4), (6, 6), (6, 7), (6, 8), (7, 3), (7, 4), (7, 5), (7, 6), (7, 9), (7, 10), (7, 11), (7, 15), (8, 10), (8, 11), (8, 12), (8, 13), (8, 14), (8, 15), (8, 16), (8, 17), (8, 18), (9, 2), (9, 3), (10, 0), (10, 1), (10, 2), (10, 5), (10, 7), (10, 8), (10, 9), (11, 7), (11, 8), (11, 9), (11, 10), (11, 11), (11, 12), (11, 13), (11, 14), (11, 15), (11, 16), (11, 17), (11, 18), (12, 2), (12, 3), (12, 4), (20, -5), (21, -5), (22, -5), (24, -5), (25, -5), (26, -5), (27, -5)] m tg F F625 := Fq_t (ln := ln) (ln1 := ln) hM0 hX0 hM629 (by decide) (Or.inl rfl)
        have ho637 : own m624 (64) ∧ tg624 (64) = 1 := Ex_o hx627 ⟨o64.1, o64.2⟩
        have ho638 : own m624 (153) ∧ tg624 (153) = 22 := Ex_o hx627 ⟨o153.1, o153.2⟩
        have ln639 : ln624 (153) = 1 := (hx627.2 _ o153.1).2.trans hl
        clear hl
        have hX640 := Ex_t hX0 hx627
        refine Or.inr (Or.inl ⟨_, rfl, ?_⟩)
        refine jx_ld (pc_q := 577) (l_q := jSto1 L 5 (.int (i32 (r626)))) (st_q := []) rfl rfl ?_
        obtain ⟨L641, eL641⟩ : ∃ q : jL, q = jSto1 L 5 (.int (i32 (r626))) := ⟨_, rfl⟩
        rw [← eL641]
        have g642 : jGet L641 0 = some (.ref 63) := eL641 ▸ jg_ne (by decide) g0 rfl
        have g643 : jGet L641 1 = some (rv (64)) := eL641 ▸ jg_nr (by decide) g1
        have g644 : jGet L641 2 = some (.ref 66) := eL641 ▸ jg_ne (by decide) g2 rfl
        have g645 : jGet L641 3 = some (rv (153)) := eL641 ▸ jg_nr (by decide) g3
        have g646 : jGet L641 4 = some (.int (i32 (i))) := eL641 ▸ jg_ne (by decide) g4 rfl
        have g647 : jGet L641 5 = some (.int (i32 (r626))) := eL641 ▸ jg_eq
        clear eL641
        refine jx_ld (pc_q := 578) (l_q := L641) (st_q := [.ref 66]) rfl (jl_aloadn g644) ?_
        refine jx_ld (pc_q := 579) (l_q := L641) (st_q := [.ref 63, .ref 66]) rfl (jl_aloadn g642) ?_
        refine jx_ld (pc_q := 581) (l_q := L641) (st_q := [.int (i32 (i)), .ref 63, .ref 66]) rfl (jl_iload g646) ?_
        refine jx_ar (pc_q := 582) (st_q := [.int (i32 (1)), .int (i32 (i)), .ref 63, .ref 66]) rfl rfl rfl rfl ?_
        refine jx_add (pc_q := 583) rfl rfl ?_
        refine jx_sca (pc_q := 584) (z := (i + 1)) rfl rfl (by omega) (by omega) hL ?_
        refine jx_ld (pc_q := 585) (l_q := L641) (st_q := [.ref 63, .int (i32 (sx X ((i + 1)))), .ref 66]) rfl (jl_aloadn g642) ?_
        refine jx_ld (pc_q := 587) (l_q := L641) (st_q := [.int (i32 (i)), .ref 63, .int (i32 (sx X ((i + 1)))), .ref 66]) rfl (jl_iload g646) ?_
        refine jx_ar (pc_q := 588) (st_q := [.int (i32 (2)), .int (i32 (i)), .ref 63, .int (i32 (sx X ((i + 1)))), .ref 66]) rfl rfl rfl rfl ?_
        refine jx_add (pc_q := 589) rfl rfl ?_
        refine jx_sca (pc_q := 590) (z := (i + 2)) rfl rfl (by omega) (by omega) hL ?_
        refine rc_vi (pc_q := 593) (m := m624) (G := G) (A := A) (st := []) (as := [.int (i32 (sx X ((i + 1)))), .int (i32 (sx X ((i + 2))))]) (by have := hC628.1; omega) rfl rfl rfl rfl ⟨rfl, rfl, (Nat.le_of_ble_eq_true rfl)⟩ rfl rfl (ri_core (dd := d) (by omega) hR (by omega) (by omega) (by omega)) (fun o V_q hq => ?_)
        obtain ⟨G648, A648, r648, rfl, rfl, hR648, hp648⟩ := hq
        refine Or.inr ⟨_, rfl, ?_⟩
        have _u := hp648
        rw [← cr_V (by have := hC628.1; omega)]
        refine jx_ld (pc_q := 595) (l_q := jSto1 L641 6 (.int (i32 (r648)))) (st_q := []) rfl rfl ?_
        obtain ⟨L649, eL649⟩ : ∃ q : jL, q = jSto1 L641 6 (.int (i32 (r648))) := ⟨_, rfl⟩
        rw [← eL649]
        have g650 : jGet L649 0 = some (.ref 63) := eL649 ▸ jg_ne (by decide) g642 rfl
        have g651 : jGet L649 1 = some (rv (64)) := eL649 ▸ jg_nr (by decide) g643
        have g652 : jGet L649 2 = some (.ref 66) := eL649 ▸ jg_ne (by decide) g644 rfl
        have g653 : jGet L649 3 = some (rv (153)) := eL649 ▸ jg_nr (by decide) g645
        have g654 : jGet L649 4 = some (.int (i32 (i))) := eL649 ▸ jg_ne (by decide) g646 rfl
        have g655 : jGet L649 5 = some (.int (i32 (r626))) := eL649 ▸ jg_ne (by decide) g647 rfl
        have g656 : jGet L649 6 = some (.int (i32 (r648))) := eL649 ▸ jg_eq
        clear eL649
        refine jx_go (tg := 734) rfl rfl ?_
        refine jx_inc (pc_q := 737) (l_q := jSto1 L649 4 (.int (i32 (i + (4))))) (x := i) rfl g654 (by decide) rfl rfl ?_
        obtain ⟨L657, eL657⟩ : ∃ q : jL, q = jSto1 L649 4 (.int (i32 ((i + (4))))) := ⟨_, rfl⟩
        rw [← eL657]
        have g658 : jGet L657 0 = some (.ref 63) := eL657 ▸ jg_ne (by decide) g650 rfl
        have g659 : jGet L657 1 = some (rv (64)) := eL657 ▸ jg_nr (by decide) g651
        have g660 : jGet L657 2 = some (.ref 66) := eL657 ▸ jg_ne (by decide) g652 rfl
        have g661 : jGet L657 3 = some (rv (153)) := eL657 ▸ jg_nr (by decide) g653
        have g662 : jGet L657 5 = some (.int (i32 (r626))) := eL657 ▸ jg_ne (by decide) g655 rfl
        have g663 : jGet L657 6 = some (.int (i32 (r648))) := eL657 ▸ jg_ne (by decide) g656 rfl
        have g664 : jGet L657 4 = some (.int (i32 ((i + (4))))) := eL657 ▸ jg_eq
        clear eL657
        refine jx_go (tg := 23) rfl rfl ?_
        have q665 : F625 (64) (1 : Int) = F (64) (1 : Int) := (show F625 (64) (1 : Int) = F (64) (1 : Int) from hM629 _ _ o64.1 (own_z o64.1) (by rw [o64.2]; rfl))
        have q666 : F625 (64) (5 : Int) = F (64) (5 : Int) := (show F625 (64) (5 : Int) = F (64) (5 : Int) from hM629 _ _ o64.1 (own_z o64.1) (by rw [o64.2]; rfl))
        have q667 : tz (F625 (64) (5 : Int)) = tz (F (64) (5 : Int)) := by rw [q666]
        exact ih _ (by omega) L657 G648 A648 m624 tg624 ln624 F625 ((i + (4))) (n + 1) rfl g658 g659 g660 g661 g664 hC628 c633 (SB_m c634 (by omega)) c635 hR648 ⟨ho637.1, ho637.2⟩ ⟨ho638.1, ho638.2⟩ (by omega) ((show F625 (153) ((-1) : Int) = F (153) ((-1) : Int) from hM629 _ _ o153.1 (own_z o153.1) (by rw [o153.2]; rfl)).trans s153) (by omega) (by omega) (by omega) (by omega) (by omega)
      by_cases h668 : z3 = 15
      · refine jx_swe (tg := 598) h668 rfl rfl rfl rfl ?_
        refine jx_ld (pc_q := 599) (l_q := L) (st_q := [rv (64)]) rfl (jl_rvn g1) ?_
        refine jx_ld (pc_q := 600) (l_q := L) (st_q := [.ref 63, rv (64)]) rfl (jl_aloadn g0) ?_
        refine jx_ld (pc_q := 602) (l_q := L) (st_q := [.int (i32 (i)), .ref 63, rv (64)]) rfl (jl_iload g4) ?_
        refine jx_ar (pc_q := 603) (st_q := [.int (i32 (1)), .int (i32 (i)), .ref 63, rv (64)]) rfl rfl rfl rfl ?_
        refine jx_add (pc_q := 604) rfl rfl ?_
        refine jx_sca (pc_q := 605) (z := (i + 1)) rfl rfl (by omega) (by omega) hL ?_
        have b669 := sx_rg (X := X) (j := (i + 1))
        refine jx_ld (pc_q := 606) (l_q := L) (st_q := [.ref 63, .int (i32 (sx X ((i + 1)))), rv (64)]) rfl (jl_aloadn g0) ?_
        refine jx_ld (pc_q := 608) (l_q := L) (st_q := [.int (i32 (i)), .ref 63, .int (i32 (sx X ((i + 1)))), rv (64)]) rfl (jl_iload g4) ?_
        refine jx_ar (pc_q := 609) (st_q := [.int (i32 (2)), .int (i32 (i)), .ref 63, .int (i32 (sx X ((i + 1)))), rv (64)]) rfl rfl rfl rfl ?_
        refine jx_add (pc_q := 610) rfl rfl ?_
        refine jx_sca (pc_q := 611) (z := (i + 2)) rfl rfl (by omega) (by omega) hL ?_
        have b670 := sx_rg (X := X) (j := (i + 2))
        refine jx_ld (pc_q := 612) (l_q := L) (st_q := [rv (153), .int (i32 (sx X ((i + 2)))), .int (i32 (sx X ((i + 1)))), rv (64)]) rfl (jl_rvn g3) ?_
        refine cx_st (st := []) (as := [rv (64), .int (i32 (sx X ((i + 1)))), .int (i32 (sx X ((i + 2)))), rv (153)]) rfl rfl rfl ⟨rfl, (Nat.le_of_ble_eq_true rfl)⟩ rfl (k_LLaw_ready (dd := d) (R := rR G A) (m := m) (tg := tg) (ln := ln) (F := F) (x := 64) (p0 := sx X ((i + 1))) (p1 := sx X ((i + 2))) (ou := 153) (hd := by omega) (hC := hC) (o_x := o64.1) (t_x := o64.2) (h_p0 := by omega) (h_p1 := by omega) (o_ou := o153.1) (t_ou := o153.2) (s_ou := s153) (p_0 := by omega) (c_NP := c_NP) (kk := 30001 * n) (c_SB := c_SB) (c_T3 := c_T3)) (fun o V_q hq => ?_)
        obtain ⟨m671, tg671, ln671, F672, r673, rfl, rfl, hx674, hC675, hM676, b677, p678, p679, c680, c681, c682, -⟩ := hq
        have hM683 : Fq 0 [(1, 1), (1, 2), (1, 3), (1, 4), (1, 5), (1, 6), (2, 7), (2, 8), (2, 9), (2, 10), (2, 11), (3, 5), (3, 6), (3, 7), (3, 8), (3, 9), (3, 10), (3, 11), (3, 12), (3, 13), (3, 14), (3, 16), (3, 17), (3, 18), (3, 19), (3, 20), (4, 0), (5, 2), (5, 3), (5, 4), (5, 5), (5, 6), (5, 7), (6, 3), (6, 4), (6, 6), (6, 7), (6, 8), (7, 3), (7, 4), (7, 5), (7, 6), (7, 9), (7, 10), (7, 11), (7, 15), (8, 10), (8, 11), (8, 12), (8, 13), (8, 14), (8, 15), (8, 16), (8, 17), (8, 18), (9, 2), (9, 3), (10, 0), (10, 1), (10, 2), (10, 5), (10, 7), (10, 8), (10, 9), (11, 7), (11, 8), (11, 9), (11, 10), (11, 11), (11, 12), (11, 13), (11, 14), (11, 15), (11, 16), (11, 17), (11, 18), (12, 2), (12, 3), (12, 4), (20, -5), (21, -5), (22, -5), (24, -5), (25, -5), (26, -5), (27, -5)] m tg F F672 := Fq_t (ln := ln) (ln1 := ln) hM0 hX0 hM676 (by decide) (Or.inl rfl)
        have ho684 : own m671 (64) ∧ tg671 (64) = 1 := Ex_o hx674 ⟨o64.1, o64.2⟩
        have ho685 : own m671 (153) ∧ tg671 (153) = 22 := Ex_o hx674 ⟨o153.1, o153.2⟩
        have ln686 : ln671 (153) = 1 := (hx674.2 _ o153.1).2.trans hl
        clear hl
        have hX687 := Ex_t hX0 hx674
        refine Or.inr (Or.inl ⟨_, rfl, ?_⟩)
        refine jx_ld (pc_q := 617) (l_q := jSto1 L 5 (.int (i32 (r673)))) (st_q := []) rfl rfl ?_
        obtain ⟨L688, eL688⟩ : ∃ q : jL, q = jSto1 L 5 (.int (i32 (r673))) := ⟨_, rfl⟩
        rw [← eL688]
        have g689 : jGet L688 0 = some (.ref 63) := eL688 ▸ jg_ne (by decide) g0 rfl
        have g690 : jGet L688 1 = some (rv (64)) := eL688 ▸ jg_nr (by decide) g1
        have g691 : jGet L688 2 = some (.ref 66) := eL688 ▸ jg_ne (by decide) g2 rfl
        have g692 : jGet L688 3 = some (rv (153)) := eL688 ▸ jg_nr (by decide) g3
        have g693 : jGet L688 4 = some (.int (i32 (i))) := eL688 ▸ jg_ne (by decide) g4 rfl
        have g694 : jGet L688 5 = some (.int (i32 (r673))) := eL688 ▸ jg_eq
        clear eL688
        refine jx_ld (pc_q := 618) (l_q := L688) (st_q := [.ref 66]) rfl (jl_aloadn g691) ?_
        refine jx_ld (pc_q := 619) (l_q := L688) (st_q := [.ref 63, .ref 66]) rfl (jl_aloadn g689) ?_
        refine jx_ld (pc_q := 621) (l_q := L688) (st_q := [.int (i32 (i)), .ref 63, .ref 66]) rfl (jl_iload g693) ?_
        refine jx_ar (pc_q := 622) (st_q := [.int (i32 (1)), .int (i32 (i)), .ref 63, .ref 66]) rfl rfl rfl rfl ?_
        refine jx_add (pc_q := 623) rfl rfl ?_
        refine jx_sca (pc_q := 624) (z := (i + 1)) rfl rfl (by omega) (by omega) hL ?_
        refine jx_ld (pc_q := 625) (l_q := L688) (st_q := [.ref 63, .int (i32 (sx X ((i + 1)))), .ref 66]) rfl (jl_aloadn g689) ?_
        refine jx_ld (pc_q := 627) (l_q := L688) (st_q := [.int (i32 (i)), .ref 63, .int (i32 (sx X ((i + 1)))), .ref 66]) rfl (jl_iload g693) ?_
        refine jx_ar (pc_q := 628) (st_q := [.int (i32 (2)), .int (i32 (i)), .ref 63, .int (i32 (sx X ((i + 1)))), .ref 66]) rfl rfl rfl rfl ?_
        refine jx_add (pc_q := 629) rfl rfl ?_
        refine jx_sca (pc_q := 630) (z := (i + 2)) rfl rfl (by omega) (by omega) hL ?_
        refine rc_vi (pc_q := 633) (m := m671) (G := G) (A := A) (st := []) (as := [.int (i32 (sx X ((i + 1)))), .int (i32 (sx X ((i + 2))))]) (by have := hC675.1; omega) rfl rfl rfl rfl ⟨rfl, rfl, (Nat.le_of_ble_eq_true rfl)⟩ rfl rfl (ri_ready (dd := d) (by omega) hR (by omega) (by omega) (by omega)) (fun o V_q hq => ?_)
        obtain ⟨G695, A695, r695, rfl, rfl, hR695, hp695⟩ := hq
        refine Or.inr ⟨_, rfl, ?_⟩
        have _u := hp695
        rw [← cr_V (by have := hC675.1; omega)]
        refine jx_ld (pc_q := 635) (l_q := jSto1 L688 6 (.int (i32 (r695)))) (st_q := []) rfl rfl ?_
        obtain ⟨L696, eL696⟩ : ∃ q : jL, q = jSto1 L688 6 (.int (i32 (r695))) := ⟨_, rfl⟩
        rw [← eL696]
        have g697 : jGet L696 0 = some (.ref 63) := eL696 ▸ jg_ne (by decide) g689 rfl
        have g698 : jGet L696 1 = some (rv (64)) := eL696 ▸ jg_nr (by decide) g690
        have g699 : jGet L696 2 = some (.ref 66) := eL696 ▸ jg_ne (by decide) g691 rfl
        have g700 : jGet L696 3 = some (rv (153)) := eL696 ▸ jg_nr (by decide) g692
        have g701 : jGet L696 4 = some (.int (i32 (i))) := eL696 ▸ jg_ne (by decide) g693 rfl
        have g702 : jGet L696 5 = some (.int (i32 (r673))) := eL696 ▸ jg_ne (by decide) g694 rfl
        have g703 : jGet L696 6 = some (.int (i32 (r695))) := eL696 ▸ jg_eq
        clear eL696
        refine jx_go (tg := 734) rfl rfl ?_
        refine jx_inc (pc_q := 737) (l_q := jSto1 L696 4 (.int (i32 (i + (4))))) (x := i) rfl g701 (by decide) rfl rfl ?_
        obtain ⟨L704, eL704⟩ : ∃ q : jL, q = jSto1 L696 4 (.int (i32 ((i + (4))))) := ⟨_, rfl⟩
        rw [← eL704]
        have g705 : jGet L704 0 = some (.ref 63) := eL704 ▸ jg_ne (by decide) g697 rfl
        have g706 : jGet L704 1 = some (rv (64)) := eL704 ▸ jg_nr (by decide) g698
        have g707 : jGet L704 2 = some (.ref 66) := eL704 ▸ jg_ne (by decide) g699 rfl
        have g708 : jGet L704 3 = some (rv (153)) := eL704 ▸ jg_nr (by decide) g700
        have g709 : jGet L704 5 = some (.int (i32 (r673))) := eL704 ▸ jg_ne (by decide) g702 rfl
        have g710 : jGet L704 6 = some (.int (i32 (r695))) := eL704 ▸ jg_ne (by decide) g703 rfl
        have g711 : jGet L704 4 = some (.int (i32 ((i + (4))))) := eL704 ▸ jg_eq
        clear eL704
        refine jx_go (tg := 23) rfl rfl ?_
        have q712 : F672 (64) (1 : Int) = F (64) (1 : Int) := (show F672 (64) (1 : Int) = F (64) (1 : Int) from hM676 _ _ o64.1 (own_z o64.1) (by rw [o64.2]; rfl))
        have q713 : F672 (64) (5 : Int) = F (64) (5 : Int) := (show F672 (64) (5 : Int) = F (64) (5 : Int) from hM676 _ _ o64.1 (own_z o64.1) (by rw [o64.2]; rfl))
        have q714 : tz (F672 (64) (5 : Int)) = tz (F (64) (5 : Int)) := by rw [q713]
        exact ih _ (by omega) L704 G695 A695 m671 tg671 ln671 F672 ((i + (4))) (n + 1) rfl g705 g706 g707 g708 g711 hC675 c680 (SB_m c681 (by omega)) c682 hR695 ⟨ho684.1, ho684.2⟩ ⟨ho685.1, ho685.2⟩ (by omega) ((show F672 (153) ((-1) : Int) = F (153) ((-1) : Int) from hM676 _ _ o153.1 (own_z o153.1) (by rw [o153.2]; rfl)).trans s153) (by omega) (by omega) (by omega) (by omega) (by omega)
      by_cases h715 : z3 = 16
      · refine jx_swe (tg := 638) h715 rfl rfl rfl rfl ?_
        refine jx_ld (pc_q := 639) (l_q := L) (st_q := [rv (64)]) rfl (jl_rvn g1) ?_
        refine jx_ld (pc_q := 640) (l_q := L) (st_q := [.ref 63, rv (64)]) rfl (jl_aloadn g0) ?_
        refine jx_ld (pc_q := 642) (l_q := L) (st_q := [.int (i32 (i)), .ref 63, rv (64)]) rfl (jl_iload g4) ?_
        refine jx_ar (pc_q := 643) (st_q := [.int (i32 (1)), .int (i32 (i)), .ref 63, rv (64)]) rfl rfl rfl rfl ?_
        refine jx_add (pc_q := 644) rfl rfl ?_
        refine jx_sca (pc_q := 645) (z := (i + 1)) rfl rfl (by omega) (by omega) hL ?_
        have b716 := sx_rg (X := X) (j := (i + 1))
        refine jx_ld (pc_q := 646) (l_q := L) (st_q := [.ref 63, .int (i32 (sx X ((i + 1)))), rv (64)]) rfl (jl_aloadn g0) ?_
        refine jx_ld (pc_q := 648) (l_q := L) (st_q := [.int (i32 (i)), .ref 63, .int (i32 (sx X ((i + 1)))), rv (64)]) rfl (jl_iload g4) ?_
        refine jx_ar (pc_q := 649) (st_q := [.int (i32 (2)), .int (i32 (i)), .ref 63, .int (i32 (sx X ((i + 1)))), rv (64)]) rfl rfl rfl rfl ?_
        refine jx_add (pc_q := 650) rfl rfl ?_
        refine jx_sca (pc_q := 651) (z := (i + 2)) rfl rfl (by omega) (by omega) hL ?_
        have b717 := sx_rg (X := X) (j := (i + 2))
        refine jx_ld (pc_q := 652) (l_q := L) (st_q := [rv (153), .int (i32 (sx X ((i + 2)))), .int (i32 (sx X ((i + 1)))), rv (64)]) rfl (jl_rvn g3) ?_
        refine cx_st (st := []) (as := [rv (64), .int (i32 (sx X ((i + 1)))), .int (i32 (sx X ((i + 2)))), rv (153)]) rfl rfl rfl ⟨rfl, (Nat.le_of_ble_eq_true rfl)⟩ rfl (k_LLaw_word (dd := d) (R := rR G A) (m := m) (tg := tg) (ln := ln) (F := F) (x := 64) (p0 := sx X ((i + 1))) (p1 := sx X ((i + 2))) (ou := 153) (hd := by omega) (hC := hC) (o_x := o64.1) (t_x := o64.2) (h_p0 := by omega) (h_p1 := by omega) (o_ou := o153.1) (t_ou := o153.2) (s_ou := s153) (p_0 := by omega) (c_NP := c_NP) (kk := 30001 * n) (c_SB := c_SB) (c_T3 := c_T3)) (fun o V_q hq => ?_)
        obtain ⟨m718, tg718, ln718, F719, r720, rfl, rfl, hx721, hC722, hM723, b724, p725, p726, c727, c728, c729, -⟩ := hq
        have hM730 : Fq 0 [(1, 1), (1, 2), (1, 3), (1, 4), (1, 5), (1, 6), (2, 7), (2, 8), (2, 9), (2, 10), (2, 11), (3, 5), (3, 6), (3, 7), (3, 8), (3, 9), (3, 10), (3, 11), (3, 12), (3, 13), (3, 14), (3, 16), (3, 17), (3, 18), (3, 19), (3, 20), (4, 0), (5, 2), (5, 3), (5, 4), (5, 5), (5, 6), (5, 7), (6, 3), (6, 4), (6, 6), (6, 7), (6, 8), (7, 3), (7, 4), (7, 5), (7, 6), (7, 9), (7, 10), (7, 11), (7, 15), (8, 10), (8, 11), (8, 12), (8, 13), (8, 14), (8, 15), (8, 16), (8, 17), (8, 18), (9, 2), (9, 3), (10, 0), (10, 1), (10, 2), (10, 5), (10, 7), (10, 8), (10, 9), (11, 7), (11, 8), (11, 9), (11, 10), (11, 11), (11, 12), (11, 13), (11, 14), (11, 15), (11, 16), (11, 17), (11, 18), (12, 2), (12, 3), (12, 4), (20, -5), (21, -5), (22, -5), (24, -5), (25, -5), (26, -5), (27, -5)] m tg F F719 := Fq_t (ln := ln) (ln1 := ln) hM0 hX0 hM723 (by decide) (Or.inl rfl)
        have ho731 : own m718 (64) ∧ tg718 (64) = 1 := Ex_o hx721 ⟨o64.1, o64.2⟩
        have ho732 : own m718 (153) ∧ tg718 (153) = 22 := Ex_o hx721 ⟨o153.1, o153.2⟩
        have ln733 : ln718 (153) = 1 := (hx721.2 _ o153.1).2.trans hl
        clear hl
        have hX734 := Ex_t hX0 hx721
        refine Or.inr (Or.inl ⟨_, rfl, ?_⟩)
        refine jx_ld (pc_q := 657) (l_q := jSto1 L 5 (.int (i32 (r720)))) (st_q := []) rfl rfl ?_
        obtain ⟨L735, eL735⟩ : ∃ q : jL, q = jSto1 L 5 (.int (i32 (r720))) := ⟨_, rfl⟩
        rw [← eL735]
        have g736 : jGet L735 0 = some (.ref 63) := eL735 ▸ jg_ne (by decide) g0 rfl
        have g737 : jGet L735 1 = some (rv (64)) := eL735 ▸ jg_nr (by decide) g1
        have g738 : jGet L735 2 = some (.ref 66) := eL735 ▸ jg_ne (by decide) g2 rfl
        have g739 : jGet L735 3 = some (rv (153)) := eL735 ▸ jg_nr (by decide) g3
        have g740 : jGet L735 4 = some (.int (i32 (i))) := eL735 ▸ jg_ne (by decide) g4 rfl
        have g741 : jGet L735 5 = some (.int (i32 (r720))) := eL735 ▸ jg_eq
        clear eL735
        refine jx_ld (pc_q := 658) (l_q := L735) (st_q := [.ref 66]) rfl (jl_aloadn g738) ?_
        refine jx_ld (pc_q := 659) (l_q := L735) (st_q := [.ref 63, .ref 66]) rfl (jl_aloadn g736) ?_
        refine jx_ld (pc_q := 661) (l_q := L735) (st_q := [.int (i32 (i)), .ref 63, .ref 66]) rfl (jl_iload g740) ?_
        refine jx_ar (pc_q := 662) (st_q := [.int (i32 (1)), .int (i32 (i)), .ref 63, .ref 66]) rfl rfl rfl rfl ?_
        refine jx_add (pc_q := 663) rfl rfl ?_
        refine jx_sca (pc_q := 664) (z := (i + 1)) rfl rfl (by omega) (by omega) hL ?_
        refine jx_ld (pc_q := 665) (l_q := L735) (st_q := [.ref 63, .int (i32 (sx X ((i + 1)))), .ref 66]) rfl (jl_aloadn g736) ?_
        refine jx_ld (pc_q := 667) (l_q := L735) (st_q := [.int (i32 (i)), .ref 63, .int (i32 (sx X ((i + 1)))), .ref 66]) rfl (jl_iload g740) ?_
        refine jx_ar (pc_q := 668) (st_q := [.int (i32 (2)), .int (i32 (i)), .ref 63, .int (i32 (sx X ((i + 1)))), .ref 66]) rfl rfl rfl rfl ?_
        refine jx_add (pc_q := 669) rfl rfl ?_
        refine jx_sca (pc_q := 670) (z := (i + 2)) rfl rfl (by omega) (by omega) hL ?_
        refine rc_vi (pc_q := 673) (m := m718) (G := G) (A := A) (st := []) (as := [.int (i32 (sx X ((i + 1)))), .int (i32 (sx X ((i + 2))))]) (by have := hC722.1; omega) rfl rfl rfl rfl ⟨rfl, rfl, (Nat.le_of_ble_eq_true rfl)⟩ rfl rfl (ri_word (dd := d) (by omega) hR (by omega) (by omega) (by omega)) (fun o V_q hq => ?_)
        obtain ⟨G742, A742, r742, rfl, rfl, hR742, hp742⟩ := hq
        refine Or.inr ⟨_, rfl, ?_⟩
        have _u := hp742
        rw [← cr_V (by have := hC722.1; omega)]
        refine jx_ld (pc_q := 675) (l_q := jSto1 L735 6 (.int (i32 (r742)))) (st_q := []) rfl rfl ?_
        obtain ⟨L743, eL743⟩ : ∃ q : jL, q = jSto1 L735 6 (.int (i32 (r742))) := ⟨_, rfl⟩
        rw [← eL743]
        have g744 : jGet L743 0 = some (.ref 63) := eL743 ▸ jg_ne (by decide) g736 rfl
        have g745 : jGet L743 1 = some (rv (64)) := eL743 ▸ jg_nr (by decide) g737
        have g746 : jGet L743 2 = some (.ref 66) := eL743 ▸ jg_ne (by decide) g738 rfl
        have g747 : jGet L743 3 = some (rv (153)) := eL743 ▸ jg_nr (by decide) g739
        have g748 : jGet L743 4 = some (.int (i32 (i))) := eL743 ▸ jg_ne (by decide) g740 rfl
        have g749 : jGet L743 5 = some (.int (i32 (r720))) := eL743 ▸ jg_ne (by decide) g741 rfl
        have g750 : jGet L743 6 = some (.int (i32 (r742))) := eL743 ▸ jg_eq
        clear eL743
        refine jx_go (tg := 734) rfl rfl ?_
        refine jx_inc (pc_q := 737) (l_q := jSto1 L743 4 (.int (i32 (i + (4))))) (x := i) rfl g748 (by decide) rfl rfl ?_
        obtain ⟨L751, eL751⟩ : ∃ q : jL, q = jSto1 L743 4 (.int (i32 ((i + (4))))) := ⟨_, rfl⟩
        rw [← eL751]
        have g752 : jGet L751 0 = some (.ref 63) := eL751 ▸ jg_ne (by decide) g744 rfl
        have g753 : jGet L751 1 = some (rv (64)) := eL751 ▸ jg_nr (by decide) g745
        have g754 : jGet L751 2 = some (.ref 66) := eL751 ▸ jg_ne (by decide) g746 rfl
        have g755 : jGet L751 3 = some (rv (153)) := eL751 ▸ jg_nr (by decide) g747
        have g756 : jGet L751 5 = some (.int (i32 (r720))) := eL751 ▸ jg_ne (by decide) g749 rfl
        have g757 : jGet L751 6 = some (.int (i32 (r742))) := eL751 ▸ jg_ne (by decide) g750 rfl
        have g758 : jGet L751 4 = some (.int (i32 ((i + (4))))) := eL751 ▸ jg_eq
        clear eL751
        refine jx_go (tg := 23) rfl rfl ?_
        have q759 : F719 (64) (1 : Int) = F (64) (1 : Int) := (show F719 (64) (1 : Int) = F (64) (1 : Int) from hM723 _ _ o64.1 (own_z o64.1) (by rw [o64.2]; rfl))
        have q760 : F719 (64) (5 : Int) = F (64) (5 : Int) := (show F719 (64) (5 : Int) = F (64) (5 : Int) from hM723 _ _ o64.1 (own_z o64.1) (by rw [o64.2]; rfl))
        have q761 : tz (F719 (64) (5 : Int)) = tz (F (64) (5 : Int)) := by rw [q760]
        exact ih _ (by omega) L751 G742 A742 m718 tg718 ln718 F719 ((i + (4))) (n + 1) rfl g752 g753 g754 g755 g758 hC722 c727 (SB_m c728 (by omega)) c729 hR742 ⟨ho731.1, ho731.2⟩ ⟨ho732.1, ho732.2⟩ (by omega) ((show F719 (153) ((-1) : Int) = F (153) ((-1) : Int) from hM723 _ _ o153.1 (own_z o153.1) (by rw [o153.2]; rfl)).trans s153) (by omega) (by omega) (by omega) (by omega) (by omega)
      by_cases h762 : z3 = 17
      · refine jx_swe (tg := 678) h762 rfl rfl rfl rfl ?_
        refine jx_ld (pc_q := 679) (l_q := L) (st_q := [rv (64)]) rfl (jl_rvn g1) ?_
        refine jx_ld (pc_q := 680) (l_q := L) (st_q := [.ref 63, rv (64)]) rfl (jl_aloadn g0) ?_
        refine jx_ld (pc_q := 682) (l_q := L) (st_q := [.int (i32 (i)), .ref 63, rv (64)]) rfl (jl_iload g4) ?_
        refine jx_ar (pc_q := 683) (st_q := [.int (i32 (1)), .int (i32 (i)), .ref 63, rv (64)]) rfl rfl rfl rfl ?_
        refine jx_add (pc_q := 684) rfl rfl ?_
        refine jx_sca (pc_q := 685) (z := (i + 1)) rfl rfl (by omega) (by omega) hL ?_
        have b763 := sx_rg (X := X) (j := (i + 1))
        refine jx_ld (pc_q := 686) (l_q := L) (st_q := [rv (153), .int (i32 (sx X ((i + 1)))), rv (64)]) rfl (jl_rvn g3) ?_
        refine cx_st (st := []) (as := [rv (64), .int (i32 (sx X ((i + 1)))), rv (153)]) rfl rfl rfl ⟨rfl, (Nat.le_of_ble_eq_true rfl)⟩ rfl (k_LLaw_output (dd := d) (R := rR G A) (m := m) (tg := tg) (ln := ln) (F := F) (x := 64) (p0 := sx X ((i + 1))) (ou := 153) (hd := by omega) (hC := hC) (o_x := o64.1) (t_x := o64.2) (h_p0 := by omega) (o_ou := o153.1) (t_ou := o153.2) (s_ou := s153) (p_0 := by omega) (c_NP := c_NP) (kk := 30001 * n) (c_SB := c_SB) (c_T3 := c_T3)) (fun o V_q hq => ?_)
        obtain ⟨m764, tg764, ln764, F765, r766, rfl, rfl, hx767, hC768, hM769, b770, p771, p772, c773, c774, c775, -⟩ := hq
        have hM776 : Fq 0 [(1, 1), (1, 2), (1, 3), (1, 4), (1, 5), (1, 6), (2, 7), (2, 8), (2, 9), (2, 10), (2, 11), (3, 5), (3, 6), (3, 7), (3, 8), (3, 9), (3, 10), (3, 11), (3, 12), (3, 13), (3, 14), (3, 16), (3, 17), (3, 18), (3, 19), (3, 20), (4, 0), (5, 2), (5, 3), (5, 4), (5, 5), (5, 6), (5, 7), (6, 3), (6, 4), (6, 6), (6, 7), (6, 8), (7, 3), (7, 4), (7, 5), (7, 6), (7, 9), (7, 10), (7, 11), (7, 15), (8, 10), (8, 11), (8, 12), (8, 13), (8, 14), (8, 15), (8, 16), (8, 17), (8, 18), (9, 2), (9, 3), (10, 0), (10, 1), (10, 2), (10, 5), (10, 7), (10, 8), (10, 9), (11, 7), (11, 8), (11, 9), (11, 10), (11, 11), (11, 12), (11, 13), (11, 14), (11, 15), (11, 16), (11, 17), (11, 18), (12, 2), (12, 3), (12, 4), (20, -5), (21, -5), (22, -5), (24, -5), (25, -5), (26, -5), (27, -5)] m tg F F765 := Fq_t (ln := ln) (ln1 := ln) hM0 hX0 hM769 (by decide) (Or.inl rfl)
        have ho777 : own m764 (64) ∧ tg764 (64) = 1 := Ex_o hx767 ⟨o64.1, o64.2⟩
        have ho778 : own m764 (153) ∧ tg764 (153) = 22 := Ex_o hx767 ⟨o153.1, o153.2⟩
        have ln779 : ln764 (153) = 1 := (hx767.2 _ o153.1).2.trans hl
        clear hl
        have hX780 := Ex_t hX0 hx767
        refine Or.inr (Or.inl ⟨_, rfl, ?_⟩)
        refine jx_ld (pc_q := 691) (l_q := jSto1 L 5 (.int (i32 (r766)))) (st_q := []) rfl rfl ?_
        obtain ⟨L781, eL781⟩ : ∃ q : jL, q = jSto1 L 5 (.int (i32 (r766))) := ⟨_, rfl⟩
        rw [← eL781]
        have g782 : jGet L781 0 = some (.ref 63) := eL781 ▸ jg_ne (by decide) g0 rfl
        have g783 : jGet L781 1 = some (rv (64)) := eL781 ▸ jg_nr (by decide) g1
        have g784 : jGet L781 2 = some (.ref 66) := eL781 ▸ jg_ne (by decide) g2 rfl
        have g785 : jGet L781 3 = some (rv (153)) := eL781 ▸ jg_nr (by decide) g3
        have g786 : jGet L781 4 = some (.int (i32 (i))) := eL781 ▸ jg_ne (by decide) g4 rfl
        have g787 : jGet L781 5 = some (.int (i32 (r766))) := eL781 ▸ jg_eq
        clear eL781
        refine jx_ld (pc_q := 692) (l_q := L781) (st_q := [.ref 66]) rfl (jl_aloadn g784) ?_
        refine jx_ld (pc_q := 693) (l_q := L781) (st_q := [.ref 63, .ref 66]) rfl (jl_aloadn g782) ?_
        refine jx_ld (pc_q := 695) (l_q := L781) (st_q := [.int (i32 (i)), .ref 63, .ref 66]) rfl (jl_iload g786) ?_
        refine jx_ar (pc_q := 696) (st_q := [.int (i32 (1)), .int (i32 (i)), .ref 63, .ref 66]) rfl rfl rfl rfl ?_
        refine jx_add (pc_q := 697) rfl rfl ?_
        refine jx_sca (pc_q := 698) (z := (i + 1)) rfl rfl (by omega) (by omega) hL ?_
        refine rc_vi (pc_q := 701) (m := m764) (G := G) (A := A) (st := []) (as := [.int (i32 (sx X ((i + 1))))]) (by have := hC768.1; omega) rfl rfl rfl rfl ⟨rfl, rfl, (Nat.le_of_ble_eq_true rfl)⟩ rfl rfl (ri_output (dd := d) (by omega) hR (by omega) (by omega)) (fun o V_q hq => ?_)
        obtain ⟨G788, A788, r788, rfl, rfl, hR788, hp788⟩ := hq
        refine Or.inr ⟨_, rfl, ?_⟩
        have _u := hp788
        rw [← cr_V (by have := hC768.1; omega)]
        refine jx_ld (pc_q := 703) (l_q := jSto1 L781 6 (.int (i32 (r788)))) (st_q := []) rfl rfl ?_
        obtain ⟨L789, eL789⟩ : ∃ q : jL, q = jSto1 L781 6 (.int (i32 (r788))) := ⟨_, rfl⟩
        rw [← eL789]
        have g790 : jGet L789 0 = some (.ref 63) := eL789 ▸ jg_ne (by decide) g782 rfl
        have g791 : jGet L789 1 = some (rv (64)) := eL789 ▸ jg_nr (by decide) g783
        have g792 : jGet L789 2 = some (.ref 66) := eL789 ▸ jg_ne (by decide) g784 rfl
        have g793 : jGet L789 3 = some (rv (153)) := eL789 ▸ jg_nr (by decide) g785
        have g794 : jGet L789 4 = some (.int (i32 (i))) := eL789 ▸ jg_ne (by decide) g786 rfl
        have g795 : jGet L789 5 = some (.int (i32 (r766))) := eL789 ▸ jg_ne (by decide) g787 rfl
        have g796 : jGet L789 6 = some (.int (i32 (r788))) := eL789 ▸ jg_eq
        clear eL789
        refine jx_go (tg := 734) rfl rfl ?_
        refine jx_inc (pc_q := 737) (l_q := jSto1 L789 4 (.int (i32 (i + (4))))) (x := i) rfl g794 (by decide) rfl rfl ?_
        obtain ⟨L797, eL797⟩ : ∃ q : jL, q = jSto1 L789 4 (.int (i32 ((i + (4))))) := ⟨_, rfl⟩
        rw [← eL797]
        have g798 : jGet L797 0 = some (.ref 63) := eL797 ▸ jg_ne (by decide) g790 rfl
        have g799 : jGet L797 1 = some (rv (64)) := eL797 ▸ jg_nr (by decide) g791
        have g800 : jGet L797 2 = some (.ref 66) := eL797 ▸ jg_ne (by decide) g792 rfl
        have g801 : jGet L797 3 = some (rv (153)) := eL797 ▸ jg_nr (by decide) g793
        have g802 : jGet L797 5 = some (.int (i32 (r766))) := eL797 ▸ jg_ne (by decide) g795 rfl
        have g803 : jGet L797 6 = some (.int (i32 (r788))) := eL797 ▸ jg_ne (by decide) g796 rfl
        have g804 : jGet L797 4 = some (.int (i32 ((i + (4))))) := eL797 ▸ jg_eq
        clear eL797
        refine jx_go (tg := 23) rfl rfl ?_
        have q805 : F765 (64) (1 : Int) = F (64) (1 : Int) := (show F765 (64) (1 : Int) = F (64) (1 : Int) from hM769 _ _ o64.1 (own_z o64.1) (by rw [o64.2]; rfl))
        have q806 : F765 (64) (5 : Int) = F (64) (5 : Int) := (show F765 (64) (5 : Int) = F (64) (5 : Int) from hM769 _ _ o64.1 (own_z o64.1) (by rw [o64.2]; rfl))
        have q807 : tz (F765 (64) (5 : Int)) = tz (F (64) (5 : Int)) := by rw [q806]
        exact ih _ (by omega) L797 G788 A788 m764 tg764 ln764 F765 ((i + (4))) (n + 1) rfl g798 g799 g800 g801 g804 hC768 c773 (SB_m c774 (by omega)) c775 hR788 ⟨ho777.1, ho777.2⟩ ⟨ho778.1, ho778.2⟩ (by omega) ((show F765 (153) ((-1) : Int) = F (153) ((-1) : Int) from hM769 _ _ o153.1 (own_z o153.1) (by rw [o153.2]; rfl)).trans s153) (by omega) (by omega) (by omega) (by omega) (by omega)
      by_cases h808 : z3 = 18
      · refine jx_swe (tg := 706) h808 rfl rfl rfl rfl ?_
        refine jx_ld (pc_q := 707) (l_q := L) (st_q := [rv (64)]) rfl (jl_rvn g1) ?_
        refine jx_ld (pc_q := 708) (l_q := L) (st_q := [.ref 63, rv (64)]) rfl (jl_aloadn g0) ?_
        refine jx_ld (pc_q := 710) (l_q := L) (st_q := [.int (i32 (i)), .ref 63, rv (64)]) rfl (jl_iload g4) ?_
        refine jx_ar (pc_q := 711) (st_q := [.int (i32 (1)), .int (i32 (i)), .ref 63, rv (64)]) rfl rfl rfl rfl ?_
        refine jx_add (pc_q := 712) rfl rfl ?_
        refine jx_sca (pc_q := 713) (z := (i + 1)) rfl rfl (by omega) (by omega) hL ?_
        have b809 := sx_rg (X := X) (j := (i + 1))
        refine jx_ld (pc_q := 714) (l_q := L) (st_q := [rv (153), .int (i32 (sx X ((i + 1)))), rv (64)]) rfl (jl_rvn g3) ?_
        refine cx_st (st := []) (as := [rv (64), .int (i32 (sx X ((i + 1)))), rv (153)]) rfl rfl rfl ⟨rfl, (Nat.le_of_ble_eq_true rfl)⟩ rfl (k_LLaw_about (dd := d) (R := rR G A) (m := m) (tg := tg) (ln := ln) (F := F) (x := 64) (p0 := sx X ((i + 1))) (ou := 153) (hd := by omega) (hC := hC) (o_x := o64.1) (t_x := o64.2) (h_p0 := by omega) (o_ou := o153.1) (t_ou := o153.2) (s_ou := s153) (p_0 := by omega) (c_NP := c_NP) (kk := 30001 * n) (c_SB := c_SB) (c_T3 := c_T3)) (fun o V_q hq => ?_)
        obtain ⟨m810, tg810, ln810, F811, r812, rfl, rfl, hx813, hC814, hM815, b816, p817, p818, c819, c820, c821, -⟩ := hq
        have hM822 : Fq 0 [(1, 1), (1, 2), (1, 3), (1, 4), (1, 5), (1, 6), (2, 7), (2, 8), (2, 9), (2, 10), (2, 11), (3, 5), (3, 6), (3, 7), (3, 8), (3, 9), (3, 10), (3, 11), (3, 12), (3, 13), (3, 14), (3, 16), (3, 17), (3, 18), (3, 19), (3, 20), (4, 0), (5, 2), (5, 3), (5, 4), (5, 5), (5, 6), (5, 7), (6, 3), (6, 4), (6, 6), (6, 7), (6, 8), (7, 3), (7, 4), (7, 5), (7, 6), (7, 9), (7, 10), (7, 11), (7, 15), (8, 10), (8, 11), (8, 12), (8, 13), (8, 14), (8, 15), (8, 16), (8, 17), (8, 18), (9, 2), (9, 3), (10, 0), (10, 1), (10, 2), (10, 5), (10, 7), (10, 8), (10, 9), (11, 7), (11, 8), (11, 9), (11, 10), (11, 11), (11, 12), (11, 13), (11, 14), (11, 15), (11, 16), (11, 17), (11, 18), (12, 2), (12, 3), (12, 4), (20, -5), (21, -5), (22, -5), (24, -5), (25, -5), (26, -5), (27, -5)] m tg F F811 := Fq_t (ln := ln) (ln1 := ln) hM0 hX0 hM815 (by decide) (Or.inl rfl)
        have ho823 : own m810 (64) ∧ tg810 (64) = 1 := Ex_o hx813 ⟨o64.1, o64.2⟩
        have ho824 : own m810 (153) ∧ tg810 (153) = 22 := Ex_o hx813 ⟨o153.1, o153.2⟩
        have ln825 : ln810 (153) = 1 := (hx813.2 _ o153.1).2.trans hl
        clear hl
        have hX826 := Ex_t hX0 hx813
        refine Or.inr (Or.inl ⟨_, rfl, ?_⟩)
        refine jx_ld (pc_q := 719) (l_q := jSto1 L 5 (.int (i32 (r812)))) (st_q := []) rfl rfl ?_
        obtain ⟨L827, eL827⟩ : ∃ q : jL, q = jSto1 L 5 (.int (i32 (r812))) := ⟨_, rfl⟩
        rw [← eL827]
        have g828 : jGet L827 0 = some (.ref 63) := eL827 ▸ jg_ne (by decide) g0 rfl
        have g829 : jGet L827 1 = some (rv (64)) := eL827 ▸ jg_nr (by decide) g1
        have g830 : jGet L827 2 = some (.ref 66) := eL827 ▸ jg_ne (by decide) g2 rfl
        have g831 : jGet L827 3 = some (rv (153)) := eL827 ▸ jg_nr (by decide) g3
        have g832 : jGet L827 4 = some (.int (i32 (i))) := eL827 ▸ jg_ne (by decide) g4 rfl
        have g833 : jGet L827 5 = some (.int (i32 (r812))) := eL827 ▸ jg_eq
        clear eL827
        refine jx_ld (pc_q := 720) (l_q := L827) (st_q := [.ref 66]) rfl (jl_aloadn g830) ?_
        refine jx_ld (pc_q := 721) (l_q := L827) (st_q := [.ref 63, .ref 66]) rfl (jl_aloadn g828) ?_
        refine jx_ld (pc_q := 723) (l_q := L827) (st_q := [.int (i32 (i)), .ref 63, .ref 66]) rfl (jl_iload g832) ?_
        refine jx_ar (pc_q := 724) (st_q := [.int (i32 (1)), .int (i32 (i)), .ref 63, .ref 66]) rfl rfl rfl rfl ?_
        refine jx_add (pc_q := 725) rfl rfl ?_
        refine jx_sca (pc_q := 726) (z := (i + 1)) rfl rfl (by omega) (by omega) hL ?_
        refine rc_vi (pc_q := 729) (m := m810) (G := G) (A := A) (st := []) (as := [.int (i32 (sx X ((i + 1))))]) (by have := hC814.1; omega) rfl rfl rfl rfl ⟨rfl, rfl, (Nat.le_of_ble_eq_true rfl)⟩ rfl rfl (ri_about (dd := d) (by omega) hR (by omega) (by omega)) (fun o V_q hq => ?_)
        obtain ⟨G834, A834, r834, rfl, rfl, hR834, hp834⟩ := hq
        refine Or.inr ⟨_, rfl, ?_⟩
        have _u := hp834
        rw [← cr_V (by have := hC814.1; omega)]
        refine jx_ld (pc_q := 731) (l_q := jSto1 L827 6 (.int (i32 (r834)))) (st_q := []) rfl rfl ?_
        obtain ⟨L835, eL835⟩ : ∃ q : jL, q = jSto1 L827 6 (.int (i32 (r834))) := ⟨_, rfl⟩
        rw [← eL835]
        have g836 : jGet L835 0 = some (.ref 63) := eL835 ▸ jg_ne (by decide) g828 rfl
        have g837 : jGet L835 1 = some (rv (64)) := eL835 ▸ jg_nr (by decide) g829
        have g838 : jGet L835 2 = some (.ref 66) := eL835 ▸ jg_ne (by decide) g830 rfl
        have g839 : jGet L835 3 = some (rv (153)) := eL835 ▸ jg_nr (by decide) g831
        have g840 : jGet L835 4 = some (.int (i32 (i))) := eL835 ▸ jg_ne (by decide) g832 rfl
        have g841 : jGet L835 5 = some (.int (i32 (r812))) := eL835 ▸ jg_ne (by decide) g833 rfl
        have g842 : jGet L835 6 = some (.int (i32 (r834))) := eL835 ▸ jg_eq
        clear eL835
        refine jx_go (tg := 734) rfl rfl ?_
        refine jx_inc (pc_q := 737) (l_q := jSto1 L835 4 (.int (i32 (i + (4))))) (x := i) rfl g840 (by decide) rfl rfl ?_
        obtain ⟨L843, eL843⟩ : ∃ q : jL, q = jSto1 L835 4 (.int (i32 ((i + (4))))) := ⟨_, rfl⟩
        rw [← eL843]
        have g844 : jGet L843 0 = some (.ref 63) := eL843 ▸ jg_ne (by decide) g836 rfl
        have g845 : jGet L843 1 = some (rv (64)) := eL843 ▸ jg_nr (by decide) g837
        have g846 : jGet L843 2 = some (.ref 66) := eL843 ▸ jg_ne (by decide) g838 rfl
        have g847 : jGet L843 3 = some (rv (153)) := eL843 ▸ jg_nr (by decide) g839
        have g848 : jGet L843 5 = some (.int (i32 (r812))) := eL843 ▸ jg_ne (by decide) g841 rfl
        have g849 : jGet L843 6 = some (.int (i32 (r834))) := eL843 ▸ jg_ne (by decide) g842 rfl
        have g850 : jGet L843 4 = some (.int (i32 ((i + (4))))) := eL843 ▸ jg_eq
        clear eL843
        refine jx_go (tg := 23) rfl rfl ?_
        have q851 : F811 (64) (1 : Int) = F (64) (1 : Int) := (show F811 (64) (1 : Int) = F (64) (1 : Int) from hM815 _ _ o64.1 (own_z o64.1) (by rw [o64.2]; rfl))
        have q852 : F811 (64) (5 : Int) = F (64) (5 : Int) := (show F811 (64) (5 : Int) = F (64) (5 : Int) from hM815 _ _ o64.1 (own_z o64.1) (by rw [o64.2]; rfl))
        have q853 : tz (F811 (64) (5 : Int)) = tz (F (64) (5 : Int)) := by rw [q852]
        exact ih _ (by omega) L843 G834 A834 m810 tg810 ln810 F811 ((i + (4))) (n + 1) rfl g844 g845 g846 g847 g850 hC814 c819 (SB_m c820 (by omega)) c821 hR834 ⟨ho823.1, ho823.2⟩ ⟨ho824.1, ho824.2⟩ (by omega) ((show F811 (153) ((-1) : Int) = F (153) ((-1) : Int) from hM815 _ _ o153.1 (own_z o153.1) (by rw [o153.2]; rfl)).trans s153) (by omega) (by omega) (by omega) (by omega) (by omega)
      refine jx_swt (tg := 734) (by omega) (by omega) rfl (by omega) rfl ?_
      refine jx_inc (pc_q := 737) (l_q := jSto1 L 4 (.int (i32 (i + (4))))) (x := i) rfl g4 (by decide) rfl rfl ?_
      obtain ⟨L854, eL854⟩ : ∃ q : jL, q = jSto1 L 4 (.int (i32 ((i + (4))))) := ⟨_, rfl⟩
      rw [← eL854]
      have g855 : jGet L854 0 = some (.ref 63) := eL854 ▸ jg_ne (by decide) g0 rfl
      have g856 : jGet L854 1 = some (rv (64)) := eL854 ▸ jg_nr (by decide) g1
      have g857 : jGet L854 2 = some (.ref 66) := eL854 ▸ jg_ne (by decide) g2 rfl
      have g858 : jGet L854 3 = some (rv (153)) := eL854 ▸ jg_nr (by decide) g3
      have g859 : jGet L854 4 = some (.int (i32 ((i + (4))))) := eL854 ▸ jg_eq
      clear eL854
      refine jx_go (tg := 23) rfl rfl ?_
      exact ih _ (by omega) L854 G A m tg ln F ((i + (4))) (n) rfl g855 g856 g857 g858 g859 hC c_NP (SB_m c_SB (by omega)) c_T3 hR ⟨o64.1, o64.2⟩ ⟨o153.1, o153.2⟩ (by omega) s153 (by omega) (by omega) (by omega) (by omega) (by omega)
