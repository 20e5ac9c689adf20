set_option maxRecDepth 20000 in
set_option maxHeartbeats 4000000 in
theorem k_LY_end {X : jX} {dd : Nat} {R : Nat → jC} {m : Nat} {tg ln : Int → Int} {F : Int → Int → Int} {kk : Int} {me n : Int} (hd : 1 ≤ dd) (hC : HC 0 m tg ln F) (o_me : own m me) (t_me : tg me = 1) (h_n : (-2147483648 : Int) ≤ n ∧ n ≤ 2147483647) (c_NP : NP m tg F) (c_SB : SB m tg F (kk)) (c_T3 : T3 m tg) : wk X dd 21 [rv me, .int (i32 n)] (cV R m tg ln F) (fun o V_q => (∃ (m_q : Nat) (tg_q ln_q : Int → Int) (F_q : Int → Int → Int), V_q = cV R m_q tg_q ln_q F_q ∧ o = .inl none ∧ Ex m tg ln m_q tg_q ln_q ∧ HC 0 m_q tg_q ln_q F_q ∧ Fq 0 [(1, 1)] m tg F F_q ∧ (szD m_q tg_q ln_q = szD m tg ln) ∧ ((m_q : Int) = (m : Int)) ∧ (0 ≤ n) ∧ (n ≤ F me (1 : Int)) ∧ (F_q me (1 : Int) = n) ∧ (NP m_q tg_q F_q) ∧ (SB m_q tg_q F_q (kk)) ∧ (T3 m_q tg_q) ∧ True) ∨ (∃ (m_q : Nat) (tg_q ln_q : Int → Int) (F_q : Int → Int → Int) (x : Nat), V_q = cV R m_q tg_q ln_q F_q ∧ o = .inr x ∧ Ex m tg ln m_q tg_q ln_q ∧ HC 0 m_q tg_q ln_q F_q ∧ Fq 0 [(1, 1)] m tg F F_q ∧ (own m_q (x : Int)) ∧ (tg_q (x : Int) = 14) ∧ (szD m_q tg_q ln_q = szD m tg ln + 25) ∧ ((m_q : Int) = (m : Int) + 1) ∧ (n < 0 ∨ F me (1 : Int) < n) ∧ (F_q me (1 : Int) = F me (1 : Int)) ∧ (NP m_q tg_q F_q) ∧ (SB m_q tg_q F_q (kk)) ∧ (T3 m_q tg_q) ∧ True)) := by
  obtain ⟨d, rfl⟩ : ∃ d, dd = d + 1 := ⟨dd - 1, by omega⟩
  refine wk_of (e := jm21) rfl (by rw [jS_r, jS_i, jS_0]; exact Nat.le_of_ble_eq_true rfl) ?_
  rw [la_r, la_i, la_0]
  show wj X d jm21 (0, [(0, rv (me)), (1, .int (i32 (n)))], [], cV R m tg ln F) _
  have hM0 : Fq 0 [(1, 1)] m tg F F := Fq_r
  have hX0 : Ex m tg ln m tg ln := Ex_r
  obtain ⟨L0, eL0⟩ : ∃ q : jL, q = [(0, rv (me)), (1, .int (i32 (n)))] := ⟨_, rfl⟩
  rw [← eL0]
  have g1 : jGet L0 0 = some (rv (me)) := eL0 ▸ (rfl : jGet [(0, rv (me)), (1, .int (i32 (n)))] 0 = some (rv (me)))
  have g2 : jGet L0 1 = some (.int (i32 (n))) := eL0 ▸ (rfl : jGet [(0, rv (me)), (1, .int (i32 (n)))] 1 = some (.int (i32 (n))))
  clear eL0
  refine jx_ld (pc_q := 1) (l_q := L0) (st_q := [.int (i32 (n))]) rfl (jl_iloadn g2) ?_
  refine jx_if_lt (pc_q := 4) (tg := 12) rfl rfl rfl (by omega) (by omega) (fun h3 => ?_) (fun h3 => ?_)
  · have _q := h3
    refine cx_thr2 (c := 13) rfl rfl rfl rfl ⟨by decide, by decide, (Nat.le_of_ble_eq_true rfl), rfl, rfl, rfl⟩ rfl rfl hC (fun x4 m4 tg4 ln4 F4 en4 em4 ho4 hx4 hC4 hf4 hs4 => ?_)
    have ex4 : 64 + (m : Int) ≤ (x4 : Int) := by have := hX0.1; omega
    have c5 : SB m4 tg4 F4 (kk) := SB_n c_SB hC.1 hx4 en4 em4 hf4 ho4.2 (Or.inl (by decide))
    have c6 : T3 m4 tg4 := T3_n c_T3 hC.1 hx4 en4 em4 ho4.2 (by decide)
    have c7 : NP m4 tg4 F4 := NP_nn hC c_NP hx4 en4 em4 (fun b i ob => hf4 b i (ne_n ob en4)) (fun w => absurd (ho4.2.symm.trans w) (by decide)) (fun w => absurd (ho4.2.symm.trans w) (by decide)) (fun w => absurd (ho4.2.symm.trans w) (by decide))
    have lm8 := hx4.1
    exact Or.inr ⟨m4, tg4, ln4, F4, x4, rfl, rfl, Ex_t hX0 hx4, hC4, Fq_n hM0 hf4 ex4, ho4.1, ho4.2, by omega, by omega, by omega, ((hf4 _ _ (ne_n o_me en4)).trans rfl), c7, SB_m c5 (by omega), c6, trivial⟩
  · have _q := h3
    refine jx_ld (pc_q := 5) (l_q := L0) (st_q := [.int (i32 (n))]) rfl (jl_iloadn g2) ?_
    refine jx_ld (pc_q := 6) (l_q := L0) (st_q := [rv (me), .int (i32 (n))]) rfl (jl_rvn g1) ?_
    refine cx_gi (pc_q := 9) (c := 0) (q := 1) (v := F (me) (1 : Int)) rfl rfl (by decide) (by decide) (Or.inl rfl) rfl o_me t_me rfl ?_
    have b9 : (0 : Int) ≤ F (me) (1 : Int) ∧ F (me) (1 : Int) ≤ 3000 := by have z := HC_i (c := 0) (q := 1) hC o_me t_me (by decide) rfl; rw [show F (me) ((1 : Nat) : Int) = F (me) (1 : Int) from rfl] at z; exact z
    refine jx_icmp_le (pc_q := 12) (tg := 22) rfl rfl rfl (by omega) (by omega) (by omega) (by omega) (fun h10 => ?_) (fun h10 => ?_)
    · have _q := h10
      refine jx_ld (pc_q := 23) (l_q := L0) (st_q := [rv (me)]) rfl (jl_rvn g1) ?_
      refine jx_ld (pc_q := 24) (l_q := L0) (st_q := [.int (i32 (n)), rv (me)]) rfl (jl_iloadn g2) ?_
      refine cx_pi (pc_q := 27) (c := 0) (q := 1) (qi := (1 : Int)) (z := n) rfl rfl (by decide) (by decide) rfl rfl rfl (by decide) rfl o_me t_me rfl ?_
      obtain ⟨F11, eF11⟩ : ∃ q, q = uF F (me) (1 : Int) (n) := ⟨_, rfl⟩
      rw [← eF11]
      have hC12 : HC 0 m tg ln F11 := by rw [eF11]; exact HC_fi (c := 0) (q := 1) hC t_me (by decide) rfl (by omega) (by omega) ⟨fun w => absurd w (by decide), fun w => absurd w (by decide)⟩
      have hM13 : Fq 0 [(1, 1)] m tg F F11 := by rw [eF11]; exact Fq_p hM0 t_me (fun w => (hX0.2 _ w).1) rfl
      have c14 : NP m tg F11 := by rw [eF11]; exact NP_u hC c_NP t_me (by omega)
      have c15 : SB m tg F11 (kk) := by rw [eF11]; exact SB_u c_SB t_me (by omega)
      refine jx_rt (v := none) rfl rfl rfl rfl rfl rfl ?_
      have q16 : F11 (me) (1 : Int) = n := (show F11 (me) (1 : Int) = n from by rw [eF11]; exact uF_e)
      exact Or.inl ⟨m, tg, ln, F11, rfl, rfl, hX0, hC12, hM13, by omega, by omega, by omega, by omega, by omega, c14, SB_m c15 (by omega), c_T3, trivial⟩
    · have _q := h10
      refine cx_thr2 (c := 13) rfl rfl rfl rfl ⟨by decide, by decide, (Nat.le_of_ble_eq_true rfl), rfl, rfl, rfl⟩ rfl rfl hC (fun x17 m17 tg17 ln17 F17 en17 em17 ho17 hx17 hC17 hf17 hs17 => ?_)
      have ex17 : 64 + (m : Int) ≤ (x17 : Int) := by have := hX0.1; omega
      have c18 : SB m17 tg17 F17 (kk) := SB_n c_SB hC.1 hx17 en17 em17 hf17 ho17.2 (Or.inl (by decide))
      have c19 : T3 m17 tg17 := T3_n c_T3 hC.1 hx17 en17 em17 ho17.2 (by decide)
      have c20 : NP m17 tg17 F17 := NP_nn hC c_NP hx17 en17 em17 (fun b i ob => hf17 b i (ne_n ob en17)) (fun w => absurd (ho17.2.symm.trans w) (by decide)) (fun w => absurd (ho17.2.symm.trans w) (by decide)) (fun w => absurd (ho17.2.symm.trans w) (by decide))
      have lm21 := hx17.1
      exact Or.inr ⟨m17, tg17, ln17, F17, x17, rfl, rfl, Ex_t hX0 hx17, hC17, Fq_n hM0 hf17 ex17, ho17.1, ho17.2, by omega, by omega, by omega, ((hf17 _ _ (ne_n o_me en17)).trans rfl), c20, SB_m c18 (by omega), c19, trivial⟩
set_option maxRecDepth 20000 in
set_option maxHeartbeats 4000000 in
theorem k_LY_fault {X : jX} {dd : Nat} {R : Nat → jC} {m : Nat} {tg ln : Int → Int} {F : Int → Int → Int} {kk : Int} {me wh : Int} (hd : 1 ≤ dd) (hC : HC 0 m tg ln F) (o_me : own m me) (t_me : tg me = 1) (h_wh : (-2147483648 : Int) ≤ wh ∧ wh ≤ 2147483647) (c_NP : NP m tg F) (c_SB : SB m tg F (kk)) (c_T3 : T3 m tg) : wk X dd 23 [rv me, .int (i32 wh)] (cV R m tg ln F) (fun o V_q => (∃ (m_q : Nat) (tg_q ln_q : Int → Int) (F_q : Int → Int → Int) (r : Int), V_q = cV R m_q tg_q ln_q F_q ∧ o = .inl (some (.int (i32 r))) ∧ Ex m tg ln m_q tg_q ln_q ∧ HC 0 m_q tg_q ln_q F_q ∧ Fq 0 [] m tg F F_q ∧ (-2147483648 ≤ r ∧ r ≤ 2147483647) ∧ (szD m_q tg_q ln_q = szD m tg ln) ∧ ((m_q : Int) = (m : Int)) ∧ (NP m_q tg_q F_q) ∧ (SB m_q tg_q F_q (kk)) ∧ (T3 m_q tg_q) ∧ True) ∨ (∃ (m_q : Nat) (tg_q ln_q : Int → Int) (F_q : Int → Int → Int) (x : Nat), V_q = cV R m_q tg_q ln_q F_q ∧ o = .inr x ∧ Ex m tg ln m_q tg_q ln_q ∧ HC 0 m_q tg_q ln_q F_q ∧ Fq 0 [] m tg F F_q ∧ (own m_q (x : Int)) ∧ (tg_q (x : Int) = 14) ∧ (szD m_q tg_q ln_q = szD m tg ln + 25) ∧ ((m_q : Int) = (m : Int) + 1) ∧ (NP m_q tg_q F_q) ∧ (SB m_q tg_q F_q (kk)) ∧ (T3 m_q tg_q) ∧ True)) := by
  obtain ⟨d, rfl⟩ : ∃ d, dd = d + 1 := ⟨dd - 1, by omega⟩
  refine wk_of (e := jm23) rfl (by rw [jS_r, jS_i, jS_0]; exact Nat.le_of_ble_eq_true rfl) ?_
  rw [la_r, la_i, la_0]
  show wj X d jm23 (0, [(0, rv (me)), (1, .int (i32 (wh)))], [], cV R m tg ln F) _
  have hM0 : Fq 0 [] m tg F F := Fq_r
  have hX0 : Ex m tg ln m tg ln := Ex_r
  obtain ⟨L0, eL0⟩ : ∃ q : jL, q = [(0, rv (me)), (1, .int (i32 (wh)))] := ⟨_, rfl⟩
  rw [← eL0]
  have g1 : jGet L0 0 = some (rv (me)) := eL0 ▸ (rfl : jGet [(0, rv (me)), (1, .int (i32 (wh)))] 0 = some (rv (me)))
  have g2 : jGet L0 1 = some (.int (i32 (wh))) := eL0 ▸ (rfl : jGet [(0, rv (me)), (1, .int (i32 (wh)))] 1 = some (.int (i32 (wh))))
  clear eL0
  refine jx_ld (pc_q := 1) (l_q := L0) (st_q := [.int (i32 (wh))]) rfl (jl_iloadn g2) ?_
  refine jx_if_lt (pc_q := 4) (tg := 9) rfl rfl rfl (by omega) (by omega) (fun h3 => ?_) (fun h3 => ?_)
  · have _q := h3
    refine cx_thr2 (c := 13) rfl rfl rfl rfl ⟨by decide, by decide, (Nat.le_of_ble_eq_true rfl), rfl, rfl, rfl⟩ rfl rfl hC (fun x4 m4 tg4 ln4 F4 en4 em4 ho4 hx4 hC4 hf4 hs4 => ?_)
    have ex4 : 64 + (m : Int) ≤ (x4 : Int) := by have := hX0.1; omega
    have c5 : SB m4 tg4 F4 (kk) := SB_n c_SB hC.1 hx4 en4 em4 hf4 ho4.2 (Or.inl (by decide))
    have c6 : T3 m4 tg4 := T3_n c_T3 hC.1 hx4 en4 em4 ho4.2 (by decide)
    have c7 : NP m4 tg4 F4 := NP_nn hC c_NP hx4 en4 em4 (fun b i ob => hf4 b i (ne_n ob en4)) (fun w => absurd (ho4.2.symm.trans w) (by decide)) (fun w => absurd (ho4.2.symm.trans w) (by decide)) (fun w => absurd (ho4.2.symm.trans w) (by decide))
    have lm8 := hx4.1
    exact Or.inr ⟨m4, tg4, ln4, F4, x4, rfl, rfl, Ex_t hX0 hx4, hC4, Fq_n hM0 hf4 ex4, ho4.1, ho4.2, by omega, by omega, c7, SB_m c5 (by omega), c6, trivial⟩
  · have _q := h3
    refine jx_ld (pc_q := 5) (l_q := L0) (st_q := [.int (i32 (wh))]) rfl (jl_iloadn g2) ?_
    refine jx_ar (pc_q := 6) (st_q := [.int (i32 (2)), .int (i32 (wh))]) rfl rfl rfl rfl ?_
    refine jx_icmp_le (pc_q := 9) (tg := 19) rfl rfl rfl (by omega) (by omega) (by decide) (by decide) (fun h9 => ?_) (fun h9 => ?_)
    · have _q := h9
      refine jx_ld (pc_q := 20) (l_q := L0) (st_q := [.int (i32 (wh))]) rfl (jl_iloadn g2) ?_
      refine jx_if_ne (pc_q := 23) (tg := 30) rfl rfl rfl (by omega) (by omega) (fun h10 => ?_) (fun h10 => ?_)
      · have _q := h10
        refine jx_ld (pc_q := 31) (l_q := L0) (st_q := [.int (i32 (wh))]) rfl (jl_iloadn g2) ?_
        refine jx_ar (pc_q := 32) (st_q := [.int (i32 (1)), .int (i32 (wh))]) rfl rfl rfl rfl ?_
        refine jx_icmp_ne (pc_q := 35) (tg := 42) rfl rfl rfl (by omega) (by omega) (by decide) (by decide) (fun h11 => ?_) (fun h11 => ?_)
        · have _q := h11
          refine jx_ld (pc_q := 43) (l_q := L0) (st_q := [rv (me)]) rfl (jl_rvn g1) ?_
          refine cx_gi (pc_q := 46) (c := 0) (q := 4) (v := F (me) (4 : Int)) rfl rfl (by decide) (by decide) (Or.inl rfl) rfl o_me t_me rfl ?_
          have b12 : (-2147483648 : Int) ≤ F (me) (4 : Int) ∧ F (me) (4 : Int) ≤ 2147483647 := by have z := HC_i (c := 0) (q := 4) hC o_me t_me (by decide) rfl; rw [show F (me) ((4 : Nat) : Int) = F (me) (4 : Int) from rfl] at z; exact z
          refine jx_rt (v := some (.int (i32 (F (me) (4 : Int))))) rfl rfl rfl rfl rfl rfl ?_
          exact Or.inl ⟨m, tg, ln, F, (F (me) (4 : Int)), rfl, rfl, hX0, hC, hM0, by omega, by omega, by omega, c_NP, SB_m c_SB (by omega), c_T3, trivial⟩
        · have _q := h11
          refine jx_ld (pc_q := 36) (l_q := L0) (st_q := [rv (me)]) rfl (jl_rvn g1) ?_
          refine cx_gi (pc_q := 39) (c := 0) (q := 3) (v := F (me) (3 : Int)) rfl rfl (by decide) (by decide) (Or.inl rfl) rfl o_me t_me rfl ?_
          have b13 : (-2147483648 : Int) ≤ F (me) (3 : Int) ∧ F (me) (3 : Int) ≤ 2147483647 := by have z := HC_i (c := 0) (q := 3) hC o_me t_me (by decide) rfl; rw [show F (me) ((3 : Nat) : Int) = F (me) (3 : Int) from rfl] at z; exact z
          refine jx_go (tg := 46) rfl rfl ?_
          refine jx_rt (v := some (.int (i32 (F (me) (3 : Int))))) rfl rfl rfl rfl rfl rfl ?_
          exact Or.inl ⟨m, tg, ln, F, (F (me) (3 : Int)), rfl, rfl, hX0, hC, hM0, by omega, by omega, by omega, c_NP, SB_m c_SB (by omega), c_T3, trivial⟩
      · have _q := h10
        refine jx_ld (pc_q := 24) (l_q := L0) (st_q := [rv (me)]) rfl (jl_rvn g1) ?_
        refine cx_gi (pc_q := 27) (c := 0) (q := 2) (v := F (me) (2 : Int)) rfl rfl (by decide) (by decide) (Or.inl rfl) rfl o_me t_me rfl ?_
        have b14 : (-2147483648 : Int) ≤ F (me) (2 : Int) ∧ F (me) (2 : Int) ≤ 2147483647 := by have z := HC_i (c := 0) (q := 2) hC o_me t_me (by decide) rfl; rw [show F (me) ((2 : Nat) : Int) = F (me) (2 : Int) from rfl] at z; exact z
        refine jx_go (tg := 46) rfl rfl ?_
        refine jx_rt (v := some (.int (i32 (F (me) (2 : Int))))) rfl rfl rfl rfl rfl rfl ?_
        exact Or.inl ⟨m, tg, ln, F, (F (me) (2 : Int)), rfl, rfl, hX0, hC, hM0, by omega, by omega, by omega, c_NP, SB_m c_SB (by omega), c_T3, trivial⟩
    · have _q := h9
      refine cx_thr2 (c := 13) rfl rfl rfl rfl ⟨by decide, by decide, (Nat.le_of_ble_eq_true rfl), rfl, rfl, rfl⟩ rfl rfl hC (fun x15 m15 tg15 ln15 F15 en15 em15 ho15 hx15 hC15 hf15 hs15 => ?_)
      have ex15 : 64 + (m : Int) ≤ (x15 : Int) := by have := hX0.1; omega
      have c16 : SB m15 tg15 F15 (kk) := SB_n c_SB hC.1 hx15 en15 em15 hf15 ho15.2 (Or.inl (by decide))
      have c17 : T3 m15 tg15 := T3_n c_T3 hC.1 hx15 en15 em15 ho15.2 (by decide)
      have c18 : NP m15 tg15 F15 := NP_nn hC c_NP hx15 en15 em15 (fun b i ob => hf15 b i (ne_n ob en15)) (fun w => absurd (ho15.2.symm.trans w) (by decide)) (fun w => absurd (ho15.2.symm.trans w) (by decide)) (fun w => absurd (ho15.2.symm.trans w) (by decide))
      have lm19 := hx15.1
      exact Or.inr ⟨m15, tg15, ln15, F15, x15, rfl, rfl, Ex_t hX0 hx15, hC15, Fq_n hM0 hf15 ex15, ho15.1, ho15.2, by omega, by omega, c18, SB_m c16 (by omega), c17, trivial⟩
set_option maxRecDepth 20000 in
set_option maxHeartbeats 4000000 in
theorem k_LY_loaded {X : jX} {dd : Nat} {R : Nat → jC} {m : Nat} {tg ln : Int → Int} {F : Int → Int → Int} {kk : Int} {me : Int} (hd : 1 ≤ dd) (hC : HC 0 m tg ln F) (o_me : own m me) (t_me : tg me = 1) (c_NP : NP m tg F) (c_SB : SB m tg F (kk)) (c_T3 : T3 m tg) : wk X dd 39 [rv me] (cV R m tg ln F) (fun o V_q => (∃ (m_q : Nat) (tg_q ln_q : Int → Int) (F_q : Int → Int → Int) (r : Int), V_q = cV R m_q tg_q ln_q F_q ∧ o = .inl (some (rv r)) ∧ Ex m tg ln m_q tg_q ln_q ∧ HC 0 m_q tg_q ln_q F_q ∧ Fq 0 [] m tg F F_q ∧ (own m_q r ∧ tg_q r = 6) ∧ (szD m_q tg_q ln_q = szD m tg ln) ∧ ((m_q : Int) = (m : Int)) ∧ (NP m_q tg_q F_q) ∧ (SB m_q tg_q F_q (kk)) ∧ (T3 m_q tg_q) ∧ True) ∨ (∃ (m_q : Nat) (tg_q ln_q : Int → Int) (F_q : Int → Int → Int) (x : Nat), V_q = cV R m_q tg_q ln_q F_q ∧ o = .inr x ∧ Ex m tg ln m_q tg_q ln_q ∧ HC 0 m_q tg_q ln_q F_q ∧ Fq 0 [] m tg F F_q ∧ (own m_q (x : Int)) ∧ (tg_q (x : Int) = 16) ∧ (szD m_q tg_q ln_q = szD m tg ln + 25) ∧ ((m_q : Int) = (m : Int) + 1) ∧ (NP m_q tg_q F_q) ∧ (SB m_q tg_q F_q (kk)) ∧ (T3 m_q tg_q) ∧ True)) := by
  obtain ⟨d, rfl⟩ : ∃ d, dd = d + 1 := ⟨dd - 1, by omega⟩
  refine wk_of (e := jm39) rfl (by rw [jS_r, jS_0]; exact Nat.le_of_ble_eq_true rfl) ?_
  rw [la_r, la_0]
  show wj X d jm39 (0, [(0, rv (me))], [], cV R m tg ln F) _
  have hM0 : Fq 0 [] m tg F F := Fq_r
  have hX0 : Ex m tg ln m tg ln := Ex_r
  obtain ⟨L0, eL0⟩ : ∃ q : jL, q = [(0, rv (me))] := ⟨_, rfl⟩
  rw [← eL0]
  have g1 : jGet L0 0 = some (rv (me)) := eL0 ▸ (rfl : jGet [(0, rv (me))] 0 = some (rv (me)))
  clear eL0
  refine jx_ld (pc_q := 1) (l_q := L0) (st_q := [rv (me)]) rfl (jl_rvn g1) ?_
  refine cx_gr (pc_q := 4) (c := 0) (q := 6) (v := F (me) (6 : Int)) rfl rfl (by decide) (by decide) rfl rfl o_me t_me rfl ?_
  have y2 : F (me) (6 : Int) = 0 ∨ (own m (F (me) (6 : Int)) ∧ tg (F (me) (6 : Int)) = 6) := by have z := HC_r (c := 0) (q := 6) hC o_me t_me (by decide) rfl; rw [show F (me) ((6 : Nat) : Int) = F (me) (6 : Int) from rfl] at z; exact z
  refine jx_ld (pc_q := 5) (l_q := jSto1 L0 1 (rv (F (me) (6 : Int)))) (st_q := []) rfl (js_rvn (by decide)) ?_
  obtain ⟨L3, eL3⟩ : ∃ q : jL, q = jSto1 L0 1 (rv (F (me) (6 : Int))) := ⟨_, rfl⟩
  rw [← eL3]
  have g4 : jGet L3 0 = some (rv (me)) := eL3 ▸ jg_nr (by decide) g1
  have g5 : jGet L3 1 = some (rv (F (me) (6 : Int))) := eL3 ▸ jg_eq
  clear eL3
  refine jx_ld (pc_q := 6) (l_q := L3) (st_q := [rv (F (me) (6 : Int))]) rfl (jl_rvn g5) ?_
  refine cx_non (pc_q := 9) (tg_q := 19) rfl rfl rfl (fun h6 => ?_) (fun h6 => ?_)
  · have _q := h6
    have ho7 : own m (F (me) (6 : Int)) ∧ tg (F (me) (6 : Int)) = 6 := y2.resolve_left h6
    refine jx_ld (pc_q := 20) (l_q := L3) (st_q := [rv (F (me) (6 : Int))]) rfl (jl_rvn g5) ?_
    refine jx_rt (v := some (rv (F (me) (6 : Int)))) rfl rfl rfl rfl rfl jr_are ?_
    exact Or.inl ⟨m, tg, ln, F, (F (me) (6 : Int)), rfl, rfl, hX0, hC, hM0, ⟨ho7.1, ho7.2⟩, by omega, by omega, c_NP, SB_m c_SB (by omega), c_T3, trivial⟩
  · have _q := h6
    refine cx_thr2 (c := 15) rfl rfl rfl rfl ⟨by decide, by decide, (Nat.le_of_ble_eq_true rfl), rfl, rfl, rfl⟩ rfl rfl hC (fun x8 m8 tg8 ln8 F8 en8 em8 ho8 hx8 hC8 hf8 hs8 => ?_)
    have ex8 : 64 + (m : Int) ≤ (x8 : Int) := by have := hX0.1; omega
    have c9 : SB m8 tg8 F8 (kk) := SB_n c_SB hC.1 hx8 en8 em8 hf8 ho8.2 (Or.inl (by decide))
    have c10 : T3 m8 tg8 := T3_n c_T3 hC.1 hx8 en8 em8 ho8.2 (by decide)
    have c11 : NP m8 tg8 F8 := NP_nn hC c_NP hx8 en8 em8 (fun b i ob => hf8 b i (ne_n ob en8)) (fun w => absurd (ho8.2.symm.trans w) (by decide)) (fun w => absurd (ho8.2.symm.trans w) (by decide)) (fun w => absurd (ho8.2.symm.trans w) (by decide))
    have lm12 := hx8.1
    exact Or.inr ⟨m8, tg8, ln8, F8, x8, rfl, rfl, Ex_t hX0 hx8, hC8, Fq_n hM0 hf8 ex8, ho8.1, ho8.2, by omega, by omega, c11, SB_m c9 (by omega), c10, trivial⟩
set_option maxRecDepth 20000 in
set_option maxHeartbeats 4000000 in
theorem k_LY_coreOf {X : jX} {dd : Nat} {R : Nat → jC} {m : Nat} {tg ln : Int → Int} {F : Int → Int → Int} {kk : Int} {me p : Int} (hd : 2 ≤ dd) (hC : HC 0 m tg ln F) (o_me : own m me) (t_me : tg me = 1) (h_p : (-2147483648 : Int) ≤ p ∧ p ≤ 2147483647) (c_NP : NP m tg F) (c_SB : SB m tg F (kk)) (c_T3 : T3 m tg) : wk X dd 40 [rv me, .int (i32 p)] (cV R m tg ln F) (fun o V_q => (∃ (m_q : Nat) (tg_q ln_q : Int → Int) (F_q : Int → Int → Int) (r : Int), V_q = cV R m_q tg_q ln_q F_q ∧ o = .inl (some (rv r)) ∧ Ex m tg ln m_q tg_q ln_q ∧ HC 0 m_q tg_q ln_q F_q ∧ Fq 0 [] m tg F F_q ∧ (own m_q r ∧ tg_q r = 3) ∧ (szD m_q tg_q ln_q = szD m tg ln) ∧ ((m_q : Int) = (m : Int)) ∧ (NP m_q tg_q F_q) ∧ (SB m_q tg_q F_q (kk)) ∧ (T3 m_q tg_q) ∧ True) ∨ (∃ (m_q : Nat) (tg_q ln_q : Int → Int) (F_q : Int → Int → Int) (x : Nat), V_q = cV R m_q tg_q ln_q F_q ∧ o = .inr x ∧ Ex m tg ln m_q tg_q ln_q ∧ HC 0 m_q tg_q ln_q F_q ∧ Fq 0 [] m tg F F_q ∧ (own m_q (x : Int)) ∧ (tg_q (x : Int) = 16 ∨ tg_q (x : Int) = 17) ∧ (szD m_q tg_q ln_q = szD m tg ln + 25) ∧ ((m_q : Int) = (m : Int) + 1) ∧ (NP m_q tg_q F_q) ∧ (SB m_q tg_q F_q (kk)) ∧ (T3 m_q tg_q) ∧ True)) := by
  obtain ⟨d, rfl⟩ : ∃ d, dd = d + 1 := ⟨dd - 1, by omega⟩
  refine wk_of (e := jm40) rfl (by rw [jS_r, jS_i, jS_0]; exact Nat.le_of_ble_eq_true rfl) ?_
  rw [la_r, la_i, la_0]
  show wj X d jm40 (0, [(0, rv (me)), (1, .int (i32 (p)))], [], cV R m tg ln F) _
  have hM0 : Fq 0 [] m tg F F := Fq_r
  have hX0 : Ex m tg ln m tg ln := Ex_r
  obtain ⟨L0, eL0⟩ : ∃ q : jL, q = [(0, rv (me)), (1, .int (i32 (p)))] := ⟨_, rfl⟩
  rw [← eL0]
  have g1 : jGet L0 0 = some (rv (me)) := eL0 ▸ (rfl : jGet [(0, rv (me)), (1, .int (i32 (p)))] 0 = some (rv (me)))
  have g2 : jGet L0 1 = some (.int (i32 (p))) := eL0 ▸ (rfl : jGet [(0, rv (me)), (1, .int (i32 (p)))] 1 = some (.int (i32 (p))))
  clear eL0
  refine jx_ld (pc_q := 1) (l_q := L0) (st_q := [rv (me)]) rfl (jl_rvn g1) ?_
  refine cx_vi (c := 0) (a := me) (st := []) (as := []) rfl rfl rfl o_me t_me (by decide) rfl ⟨rfl, rfl, (Nat.le_of_ble_eq_true rfl)⟩ rfl (k_LY_loaded (dd := d) (R := R) (m := m) (tg := tg) (ln := ln) (F := F) (me := me) (hd := by omega) (hC := hC) (o_me := o_me) (t_me := t_me) (c_NP := c_NP) (kk := kk) (c_SB := c_SB) (c_T3 := c_T3)) (fun o V_q hq => ?_)
  obtain ⟨m3, tg3, ln3, F4, r5, rfl, rfl, hx6, hC7, hM8, b9, p10, p11, c12, c13, c14, -⟩ | ⟨m15, tg15, ln15, F15, x15, rfl, rfl, hx15, hC15, hM15, ho15, ht15, p16, p17, c18, c19, c20, -⟩ := hq
  rotate_left
  ·
    refine Or.inr (Or.inr (Or.inr ⟨_, _, rfl, cx_exc (c := 15) ho15 ht15 (by decide), rfl, ?_⟩))
    exact Or.inr ⟨m15, tg15, ln15, F15, x15, rfl, rfl, Ex_t hX0 hx15, hC15, Fq_t (ln := ln) (ln1 := ln) hM0 hX0 hM15 (by decide) (Or.inl rfl), (And.intro ho15 ht15).1, Or.inl ((And.intro ho15 ht15).2), by omega, by omega, c18, SB_m c19 (by omega), c20, trivial⟩
  have hM21 : Fq 0 [] m tg F F4 := Fq_t (ln := ln) (ln1 := ln) hM0 hX0 hM8 (by decide) (Or.inl rfl)
  have ho22 : own m3 (me) ∧ tg3 (me) = 1 := Ex_o hx6 ⟨o_me, t_me⟩
  have hX23 := Ex_t hX0 hx6
  refine Or.inr (Or.inl ⟨_, rfl, ?_⟩)
  refine jx_ld (pc_q := 5) (l_q := L0) (st_q := [.int (i32 (p)), rv (r5)]) rfl (jl_iloadn g2) ?_
  refine cx_vi (c := 5) (a := r5) (st := []) (as := [.int (i32 (p))]) rfl rfl rfl b9.1 b9.2 (by decide) rfl ⟨rfl, rfl, (Nat.le_of_ble_eq_true rfl)⟩ rfl (k_LMachine_coreAt (dd := d) (R := R) (m := m3) (tg := tg3) (ln := ln3) (F := F4) (me := r5) (a0 := p) (hd := by omega) (hC := hC7) (o_me := b9.1) (t_me := b9.2) (h_a0 := by omega)) (fun o V_q hq => ?_)
  obtain ⟨r24, rfl, rfl, b25, -⟩ := hq
  refine Or.inr (Or.inl ⟨_, rfl, ?_⟩)
  refine jx_ld (pc_q := 9) (l_q := jSto1 L0 2 (rv (r24))) (st_q := []) rfl (js_rvn (by decide)) ?_
  obtain ⟨L26, eL26⟩ : ∃ q : jL, q = jSto1 L0 2 (rv (r24)) := ⟨_, rfl⟩
  rw [← eL26]
  have g27 : jGet L26 0 = some (rv (me)) := eL26 ▸ jg_nr (by decide) g1
  have g28 : jGet L26 1 = some (.int (i32 (p))) := eL26 ▸ jg_ne (by decide) g2 rfl
  have g29 : jGet L26 2 = some (rv (r24)) := eL26 ▸ jg_eq
  clear eL26
  refine jx_ld (pc_q := 10) (l_q := L26) (st_q := [rv (r24)]) rfl (jl_rvn g29) ?_
  refine cx_non (pc_q := 13) (tg_q := 24) rfl rfl rfl (fun h30 => ?_) (fun h30 => ?_)
  · have _q := h30
    have ho31 : own m3 (r24) ∧ tg3 (r24) = 3 := b25.resolve_left h30
    refine jx_ld (pc_q := 25) (l_q := L26) (st_q := [rv (r24)]) rfl (jl_rvn g29) ?_
    refine jx_rt (v := some (rv (r24))) rfl rfl rfl rfl rfl jr_are ?_
    exact Or.inl ⟨m3, tg3, ln3, F4, (r24), rfl, rfl, hX23, hC7, hM21, ⟨ho31.1, ho31.2⟩, by omega, by omega, c12, SB_m c13 (by omega), c14, trivial⟩
  · have _q := h30
    refine cx_thr2w (c := 16) rfl rfl rfl rfl ⟨by decide, by decide, (Nat.le_of_ble_eq_true rfl), rfl, rfl, rfl⟩ rfl rfl hC7 (fun x32 m32 tg32 ln32 F32 en32 em32 ho32 hx32 hC32 hf32 hs32 => ?_)
    have ex32 : 64 + (m : Int) ≤ (x32 : Int) := by have := hX23.1; omega
    have c33 : SB m32 tg32 F32 ((kk)) := SB_n c13 hC7.1 hx32 en32 em32 hf32 ho32.2 (Or.inl (by decide))
    have c34 : T3 m32 tg32 := T3_n c14 hC7.1 hx32 en32 em32 ho32.2 (by decide)
    have c35 : NP m32 tg32 F32 := NP_nn hC7 c12 hx32 en32 em32 (fun b i ob => hf32 b i (ne_n ob en32)) (fun w => absurd (ho32.2.symm.trans w) (by decide)) (fun w => absurd (ho32.2.symm.trans w) (by decide)) (fun w => absurd (ho32.2.symm.trans w) (by decide))
    have lm36 := hx32.1
    exact Or.inr ⟨m32, tg32, ln32, F32, x32, rfl, rfl, Ex_t hX23 hx32, hC32, Fq_n hM21 hf32 ex32, ho32.1, Or.inr (ho32.2), by omega, by omega, c35, SB_m c33 (by omega), c34, trivial⟩
set_option maxRecDepth 20000 in
set_option maxHeartbeats 4000000 in
theorem k_LY_processor {X : jX} {dd : Nat} {R : Nat → jC} {m : Nat} {tg ln : Int → Int} {F : Int → Int → Int} {kk : Int} {me p wh : Int} (hd : 3 ≤ dd) (hC : HC 0 m tg ln F) (o_me : own m me) (t_me : tg me = 1) (h_p : (-2147483648 : Int) ≤ p ∧ p ≤ 2147483647) (h_wh : (-2147483648 : Int) ≤ wh ∧ wh ≤ 2147483647) (c_NP : NP m tg F) (c_SB : SB m tg F (kk)) (c_T3 : T3 m tg) : wk X dd 24 [rv me, .int (i32 p), .int (i32 wh)] (cV R m tg ln F) (fun o V_q => (∃ (m_q : Nat) (tg_q ln_q : Int → Int) (F_q : Int → Int → Int) (r : Int), V_q = cV R m_q tg_q ln_q F_q ∧ o = .inl (some (.int (i32 r))) ∧ Ex m tg ln m_q tg_q ln_q ∧ HC 0 m_q tg_q ln_q F_q ∧ Fq 0 [] m tg F F_q ∧ (-2147483648 ≤ r ∧ r ≤ 2147483647) ∧ (szD m_q tg_q ln_q = szD m tg ln) ∧ ((m_q : Int) = (m : Int)) ∧ (NP m_q tg_q F_q) ∧ (SB m_q tg_q F_q (kk)) ∧ (T3 m_q tg_q) ∧ True) ∨ (∃ (m_q : Nat) (tg_q ln_q : Int → Int) (F_q : Int → Int → Int) (x : Nat), V_q = cV R m_q tg_q ln_q F_q ∧ o = .inr x ∧ Ex m tg ln m_q tg_q ln_q ∧ HC 0 m_q tg_q ln_q F_q ∧ Fq 0 [] m tg F F_q ∧ (own m_q (x : Int)) ∧ (tg_q (x : Int) = 16 ∨ tg_q (x : Int) = 17 ∨ tg_q (x : Int) = 14) ∧ (szD m_q tg_q ln_q = szD m tg ln + 25) ∧ ((m_q : Int) = (m : Int) + 1) ∧ (NP m_q tg_q F_q) ∧ (SB m_q tg_q F_q (kk)) ∧ (T3 m_q tg_q) ∧ True)) := by
  obtain ⟨d, rfl⟩ : ∃ d, dd = d + 1 := ⟨dd - 1, by omega⟩
  refine wk_of (e := jm24) rfl (by rw [jS_r, jS_i, jS_i, jS_0]; exact Nat.le_of_ble_eq_true rfl) ?_
  rw [la_r, la_i, la_i, la_0]
  show wj X d jm24 (0, [(0, rv (me)), (1, .int (i32 (p))), (2, .int (i32 (wh)))], [], cV R m tg ln F) _
  have hM0 : Fq 0 [] m tg F F := Fq_r
  have hX0 : Ex m tg ln m tg ln := Ex_r
  obtain ⟨L0, eL0⟩ : ∃ q : jL, q = [(0, rv (me)), (1, .int (i32 (p))), (2, .int (i32 (wh)))] := ⟨_, rfl⟩
  rw [← eL0]
  have g1 : jGet L0 0 = some (rv (me)) := eL0 ▸ (rfl : jGet [(0, rv (me)), (1, .int (i32 (p))), (2, .int (i32 (wh)))] 0 = some (rv (me)))
  have g2 : jGet L0 1 = some (.int (i32 (p))) := eL0 ▸ (rfl : jGet [(0, rv (me)), (1, .int (i32 (p))), (2, .int (i32 (wh)))] 1 = some (.int (i32 (p))))
  have g3 : jGet L0 2 = some (.int (i32 (wh))) := eL0 ▸ (rfl : jGet [(0, rv (me)), (1, .int (i32 (p))), (2, .int (i32 (wh)))] 2 = some (.int (i32 (wh))))
  clear eL0
  refine jx_ld (pc_q := 1) (l_q := L0) (st_q := [rv (me)]) rfl (jl_rvn g1) ?_
  refine jx_ld (pc_q := 2) (l_q := L0) (st_q := [.int (i32 (p)), rv (me)]) rfl (jl_iloadn g2) ?_
  refine cx_vi (c := 0) (a := me) (st := []) (as := [.int (i32 (p))]) rfl rfl rfl o_me t_me (by decide) rfl ⟨rfl, rfl, (Nat.le_of_ble_eq_true rfl)⟩ rfl (k_LY_coreOf (dd := d) (R := R) (m := m) (tg := tg) (ln := ln) (F := F) (me := me) (p := p) (hd := by omega) (hC := hC) (o_me := o_me) (t_me := t_me) (h_p := by omega) (c_NP := c_NP) (kk := kk) (c_SB := c_SB) (c_T3 := c_T3)) (fun o V_q hq => ?_)
  obtain ⟨m4, tg4, ln4, F5, r6, rfl, rfl, hx7, hC8, hM9, b10, p11, p12, c13, c14, c15, -⟩ | ⟨m16, tg16, ln16, F16, x16, rfl, rfl, hx16, hC16, hM16, ho16, ht16, p17, p18, c19, c20, c21, -⟩ := hq
  rotate_left
  · rcases ht16 with ht16 | ht16
    ·
      refine Or.inr (Or.inr (Or.inr ⟨_, _, rfl, cx_exc (c := 15) ho16 ht16 (by decide), rfl, ?_⟩))
      exact Or.inr ⟨m16, tg16, ln16, F16, x16, rfl, rfl, Ex_t hX0 hx16, hC16, Fq_t (ln := ln) (ln1 := ln) hM0 hX0 hM16 (by decide) (Or.inl rfl), (And.intro ho16 ht16).1, Or.inl ((And.intro ho16 ht16).2), by omega, by omega, c19, SB_m c20 (by omega), c21, trivial⟩
    ·
      refine Or.inr (Or.inr (Or.inr ⟨_, _, rfl, cx_exc (c := 16) ho16 ht16 (by decide), rfl, ?_⟩))
      exact Or.inr ⟨m16, tg16, ln16, F16, x16, rfl, rfl, Ex_t hX0 hx16, hC16, Fq_t (ln := ln) (ln1 := ln) hM0 hX0 hM16 (by decide) (Or.inl rfl), (And.intro ho16 ht16).1, Or.inr (Or.inl ((And.intro ho16 ht16).2)), by omega, by omega, c19, SB_m c20 (by omega), c21, trivial⟩
  have hM22 : Fq 0 [] m tg F F5 := Fq_t (ln := ln) (ln1 := ln) hM0 hX0 hM9 (by decide) (Or.inl rfl)
  have ho23 : own m4 (me) ∧ tg4 (me) = 1 := Ex_o hx7 ⟨o_me, t_me⟩
  have hX24 := Ex_t hX0 hx7
  refine Or.inr (Or.inl ⟨_, rfl, ?_⟩)
  refine jx_ld (pc_q := 6) (l_q := jSto1 L0 3 (rv (r6))) (st_q := []) rfl (js_rvn (by decide)) ?_
  obtain ⟨L25, eL25⟩ : ∃ q : jL, q = jSto1 L0 3 (rv (r6)) := ⟨_, rfl⟩
  rw [← eL25]
  have g26 : jGet L25 0 = some (rv (me)) := eL25 ▸ jg_nr (by decide) g1
  have g27 : jGet L25 1 = some (.int (i32 (p))) := eL25 ▸ jg_ne (by decide) g2 rfl
  have g28 : jGet L25 2 = some (.int (i32 (wh))) := eL25 ▸ jg_ne (by decide) g3 rfl
  have g29 : jGet L25 3 = some (rv (r6)) := eL25 ▸ jg_eq
  clear eL25
  refine jx_ld (pc_q := 7) (l_q := L25) (st_q := [.int (i32 (wh))]) rfl (jl_iloadn g28) ?_
  by_cases h30 : wh = 0
  · refine jx_swe (tg := 36) h30 rfl rfl rfl rfl ?_
    refine jx_ld (pc_q := 37) (l_q := L25) (st_q := [rv (r6)]) rfl (jl_rvn g29) ?_
    refine cx_gr (pc_q := 40) (c := 2) (q := 1) (v := F5 (r6) (1 : Int)) rfl rfl (by decide) (by decide) rfl rfl b10.1 b10.2 rfl ?_
    have y31 : own m4 (F5 (r6) (1 : Int)) ∧ tg4 (F5 (r6) (1 : Int)) = 20 ∧ ((0 : Int) ≠ 0 → ln4 (F5 (r6) (1 : Int)) = 0) := by have z := HC_n (c := 2) (q := 1) hC8 b10.1 b10.2 (own_z b10.1) (by decide) rfl; rw [show F5 (r6) ((1 : Nat) : Int) = F5 (r6) (1 : Int) from rfl] at z; exact ⟨z.1, z.2.1, z.2.2.1⟩
    have b32 := HC_l hC8 y31.1 y31.2.1 (by decide)
    refine cx_len (pc_q := 41) rfl rfl y31.1 (by rw [y31.2.1]; decide) (by omega) ?_
    refine jx_rt (v := some (.int (i32 (ln4 (F5 (r6) (1 : Int)))))) rfl rfl rfl rfl rfl rfl ?_
    exact Or.inl ⟨m4, tg4, ln4, F5, (ln4 (F5 (r6) (1 : Int))), rfl, rfl, hX24, hC8, hM22, by omega, by omega, by omega, c13, SB_m c14 (by omega), c15, trivial⟩
  by_cases h33 : wh = 1
  · refine jx_swe (tg := 42) h33 rfl rfl rfl rfl ?_
    refine jx_ld (pc_q := 43) (l_q := L25) (st_q := [rv (r6)]) rfl (jl_rvn g29) ?_
    refine cx_gr (pc_q := 46) (c := 2) (q := 4) (v := F5 (r6) (4 : Int)) rfl rfl (by decide) (by decide) rfl rfl b10.1 b10.2 rfl ?_
    have y34 : own m4 (F5 (r6) (4 : Int)) ∧ tg4 (F5 (r6) (4 : Int)) = 21 ∧ ((0 : Int) ≠ 0 → ln4 (F5 (r6) (4 : Int)) = 0) := by have z := HC_n (c := 2) (q := 4) hC8 b10.1 b10.2 (own_z b10.1) (by decide) rfl; rw [show F5 (r6) ((4 : Nat) : Int) = F5 (r6) (4 : Int) from rfl] at z; exact ⟨z.1, z.2.1, z.2.2.1⟩
    have b35 := HC_l hC8 y34.1 y34.2.1 (by decide)
    refine cx_len (pc_q := 47) rfl rfl y34.1 (by rw [y34.2.1]; decide) (by omega) ?_
    refine jx_ar (pc_q := 49) (st_q := [.int (i32 (16)), .int (i32 (ln4 (F5 (r6) (4 : Int))))]) rfl rfl rfl rfl ?_
    refine jx_sub (pc_q := 50) rfl rfl ?_
    refine jx_rt (v := some (.int (i32 ((ln4 (F5 (r6) (4 : Int)) - 16))))) rfl rfl rfl rfl rfl rfl ?_
    exact Or.inl ⟨m4, tg4, ln4, F5, ((ln4 (F5 (r6) (4 : Int)) - 16)), rfl, rfl, hX24, hC8, hM22, by omega, by omega, by omega, c13, SB_m c14 (by omega), c15, trivial⟩
  by_cases h36 : wh = 2
  · refine jx_swe (tg := 51) h36 rfl rfl rfl rfl ?_
    refine jx_ld (pc_q := 52) (l_q := L25) (st_q := [rv (r6)]) rfl (jl_rvn g29) ?_
    refine cx_gi (pc_q := 55) (c := 2) (q := 2) (v := F5 (r6) (2 : Int)) rfl rfl (by decide) (by decide) (Or.inl rfl) rfl b10.1 b10.2 rfl ?_
    have b37 : (-2147483648 : Int) ≤ F5 (r6) (2 : Int) ∧ F5 (r6) (2 : Int) ≤ 2147483647 := by have z := HC_i (c := 2) (q := 2) hC8 b10.1 b10.2 (by decide) rfl; rw [show F5 (r6) ((2 : Nat) : Int) = F5 (r6) (2 : Int) from rfl] at z; exact z
    refine jx_rt (v := some (.int (i32 (F5 (r6) (2 : Int))))) rfl rfl rfl rfl rfl rfl ?_
    exact Or.inl ⟨m4, tg4, ln4, F5, (F5 (r6) (2 : Int)), rfl, rfl, hX24, hC8, hM22, by omega, by omega, by omega, c13, SB_m c14 (by omega), c15, trivial⟩
  by_cases h38 : wh = 3
  · refine jx_swe (tg := 56) h38 rfl rfl rfl rfl ?_
    refine jx_ld (pc_q := 57) (l_q := L25) (st_q := [rv (r6)]) rfl (jl_rvn g29) ?_
    refine cx_gi (pc_q := 60) (c := 2) (q := 3) (v := F5 (r6) (3 : Int)) rfl rfl (by decide) (by decide) (Or.inl rfl) rfl b10.1 b10.2 rfl ?_
    have b39 : (-2147483648 : Int) ≤ F5 (r6) (3 : Int) ∧ F5 (r6) (3 : Int) ≤ 2147483647 := by have z := HC_i (c := 2) (q := 3) hC8 b10.1 b10.2 (by decide) rfl; rw [show F5 (r6) ((3 : Nat) : Int) = F5 (r6) (3 : Int) from rfl] at z; exact z
    refine jx_rt (v := some (.int (i32 (F5 (r6) (3 : Int))))) rfl rfl rfl rfl rfl rfl ?_
    exact Or.inl ⟨m4, tg4, ln4, F5, (F5 (r6) (3 : Int)), rfl, rfl, hX24, hC8, hM22, by omega, by omega, by omega, c13, SB_m c14 (by omega), c15, trivial⟩
  refine jx_swt (tg := 61) (by omega) (by omega) rfl (by omega) rfl ?_
  refine cx_thr2 (c := 13) rfl rfl rfl rfl ⟨by decide, by decide, (Nat.le_of_ble_eq_true rfl), rfl, rfl, rfl⟩ rfl rfl hC8 (fun x40 m40 tg40 ln40 F40 en40 em40 ho40 hx40 hC40 hf40 hs40 => ?_)
  have ex40 : 64 + (m : Int) ≤ (x40 : Int) := by have := hX24.1; omega
  have c41 : SB m40 tg40 F40 ((kk)) := SB_n c14 hC8.1 hx40 en40 em40 hf40 ho40.2 (Or.inl (by decide))
  have c42 : T3 m40 tg40 := T3_n c15 hC8.1 hx40 en40 em40 ho40.2 (by decide)
  have c43 : NP m40 tg40 F40 := NP_nn hC8 c13 hx40 en40 em40 (fun b i ob => hf40 b i (ne_n ob en40)) (fun w => absurd (ho40.2.symm.trans w) (by decide)) (fun w => absurd (ho40.2.symm.trans w) (by decide)) (fun w => absurd (ho40.2.symm.trans w) (by decide))
  have lm44 := hx40.1
  exact Or.inr ⟨m40, tg40, ln40, F40, x40, rfl, rfl, Ex_t hX24 hx40, hC40, Fq_n hM22 hf40 ex40, ho40.1, Or.inr (Or.inr (ho40.2)), by omega, by omega, c43, SB_m c41 (by omega), c42, trivial⟩
set_option maxRecDepth 20000 in
set_option maxHeartbeats 4000000 in
theorem k_LY_code {X : jX} {dd : Nat} {R : Nat → jC} {m : Nat} {tg ln : Int → Int} {F : Int → Int → Int} {kk : Int} {me p k : Int} (hd : 3 ≤ dd) (hC : HC 0 m tg ln F) (o_me : own m me) (t_me : tg me = 1) (h_p : (-2147483648 : Int) ≤ p ∧ p ≤ 2147483647) (h_k : (-2147483648 : Int) ≤ k ∧ k ≤ 2147483647) (c_NP : NP m tg F) (c_SB : SB m tg F (kk)) (c_T3 : T3 m tg) : wk X dd 25 [rv me, .int (i32 p), .int (i32 k)] (cV R m tg ln F) (fun o V_q => (∃ (m_q : Nat) (tg_q ln_q : Int → Int) (F_q : Int → Int → Int) (r : Int), V_q = cV R m_q tg_q ln_q F_q ∧ o = .inl (some (.int (i32 r))) ∧ Ex m tg ln m_q tg_q ln_q ∧ HC 0 m_q tg_q ln_q F_q ∧ Fq 0 [] m tg F F_q ∧ (-2147483648 ≤ r ∧ r ≤ 2147483647) ∧ (szD m_q tg_q ln_q = szD m tg ln) ∧ ((m_q : Int) = (m : Int)) ∧ (NP m_q tg_q F_q) ∧ (SB m_q tg_q F_q (kk)) ∧ (T3 m_q tg_q) ∧ True) ∨ (∃ (m_q : Nat) (tg_q ln_q : Int → Int) (F_q : Int → Int → Int) (x : Nat), V_q = cV R m_q tg_q ln_q F_q ∧ o = .inr x ∧ Ex m tg ln m_q tg_q ln_q ∧ HC 0 m_q tg_q ln_q F_q ∧ Fq 0 [] m tg F F_q ∧ (own m_q (x : Int)) ∧ (tg_q (x : Int) = 16 ∨ tg_q (x : Int) = 17 ∨ tg_q (x : Int) = 18) ∧ (szD m_q tg_q ln_q = szD m tg ln + 25) ∧ ((m_q : Int) = (m : Int) + 1) ∧ (NP m_q tg_q F_q) ∧ (SB m_q tg_q F_q (kk)) ∧ (T3 m_q tg_q) ∧ True)) := by
  obtain ⟨d, rfl⟩ : ∃ d, dd = d + 1 := ⟨dd - 1, by omega⟩
  refine wk_of (e := jm25) rfl (by rw [jS_r, jS_i, jS_i, jS_0]; exact Nat.le_of_ble_eq_true rfl) ?_
  rw [la_r, la_i, la_i, la_0]
  show wj X d jm25 (0, [(0, rv (me)), (1, .int (i32 (p))), (2, .int (i32 (k)))], [], cV R m tg ln F) _
  have hM0 : Fq 0 [] m tg F F := Fq_r
  have hX0 : Ex m tg ln m tg ln := Ex_r
  obtain ⟨L0, eL0⟩ : ∃ q : jL, q = [(0, rv (me)), (1, .int (i32 (p))), (2, .int (i32 (k)))] := ⟨_, rfl⟩
  rw [← eL0]
  have g1 : jGet L0 0 = some (rv (me)) := eL0 ▸ (rfl : jGet [(0, rv (me)), (1, .int (i32 (p))), (2, .int (i32 (k)))] 0 = some (rv (me)))
  have g2 : jGet L0 1 = some (.int (i32 (p))) := eL0 ▸ (rfl : jGet [(0, rv (me)), (1, .int (i32 (p))), (2, .int (i32 (k)))] 1 = some (.int (i32 (p))))
  have g3 : jGet L0 2 = some (.int (i32 (k))) := eL0 ▸ (rfl : jGet [(0, rv (me)), (1, .int (i32 (p))), (2, .int (i32 (k)))] 2 = some (.int (i32 (k))))
  clear eL0
  refine jx_ld (pc_q := 1) (l_q := L0) (st_q := [rv (me)]) rfl (jl_rvn g1) ?_
  refine jx_ld (pc_q := 2) (l_q := L0) (st_q := [.int (i32 (p)), rv (me)]) rfl (jl_iloadn g2) ?_
  refine cx_vi (c := 0) (a := me) (st := []) (as := [.int (i32 (p))]) rfl rfl rfl o_me t_me (by decide) rfl ⟨rfl, rfl, (Nat.le_of_ble_eq_true rfl)⟩ rfl (k_LY_coreOf (dd := d) (R := R) (m := m) (tg := tg) (ln := ln) (F := F) (me := me) (p := p) (hd := by omega) (hC := hC) (o_me := o_me) (t_me := t_me) (h_p := by omega) (c_NP := c_NP) (kk := kk) (c_SB := c_SB) (c_T3 := c_T3)) (fun o V_q hq => ?_)
  obtain ⟨m4, tg4, ln4, F5, r6, rfl, rfl, hx7, hC8, hM9, b10, p11, p12, c13, c14, c15, -⟩ | ⟨m16, tg16, ln16, F16, x16, rfl, rfl, hx16, hC16, hM16, ho16, ht16, p17, p18, c19, c20, c21, -⟩ := hq
  rotate_left
  · rcases ht16 with ht16 | ht16
    ·
      refine Or.inr (Or.inr (Or.inr ⟨_, _, rfl, cx_exc (c := 15) ho16 ht16 (by decide), rfl, ?_⟩))
      exact Or.inr ⟨m16, tg16, ln16, F16, x16, rfl, rfl, Ex_t hX0 hx16, hC16, Fq_t (ln := ln) (ln1 := ln) hM0 hX0 hM16 (by decide) (Or.inl rfl), (And.intro ho16 ht16).1, Or.inl ((And.intro ho16 ht16).2), by omega, by omega, c19, SB_m c20 (by omega), c21, trivial⟩
    ·
      refine Or.inr (Or.inr (Or.inr ⟨_, _, rfl, cx_exc (c := 16) ho16 ht16 (by decide), rfl, ?_⟩))
      exact Or.inr ⟨m16, tg16, ln16, F16, x16, rfl, rfl, Ex_t hX0 hx16, hC16, Fq_t (ln := ln) (ln1 := ln) hM0 hX0 hM16 (by decide) (Or.inl rfl), (And.intro ho16 ht16).1, Or.inr (Or.inl ((And.intro ho16 ht16).2)), by omega, by omega, c19, SB_m c20 (by omega), c21, trivial⟩
  have hM22 : Fq 0 [] m tg F F5 := Fq_t (ln := ln) (ln1 := ln) hM0 hX0 hM9 (by decide) (Or.inl rfl)
  have ho23 : own m4 (me) ∧ tg4 (me) = 1 := Ex_o hx7 ⟨o_me, t_me⟩
  have hX24 := Ex_t hX0 hx7
  refine Or.inr (Or.inl ⟨_, rfl, ?_⟩)
  refine jx_ld (pc_q := 6) (l_q := jSto1 L0 3 (rv (r6))) (st_q := []) rfl (js_rvn (by decide)) ?_
  obtain ⟨L25, eL25⟩ : ∃ q : jL, q = jSto1 L0 3 (rv (r6)) := ⟨_, rfl⟩
  rw [← eL25]
  have g26 : jGet L25 0 = some (rv (me)) := eL25 ▸ jg_nr (by decide) g1
  have g27 : jGet L25 1 = some (.int (i32 (p))) := eL25 ▸ jg_ne (by decide) g2 rfl
  have g28 : jGet L25 2 = some (.int (i32 (k))) := eL25 ▸ jg_ne (by decide) g3 rfl
  have g29 : jGet L25 3 = some (rv (r6)) := eL25 ▸ jg_eq
  clear eL25
  refine jx_ld (pc_q := 7) (l_q := L25) (st_q := [.int (i32 (k))]) rfl (jl_iloadn g28) ?_
  refine jx_if_lt (pc_q := 10) (tg := 19) rfl rfl rfl (by omega) (by omega) (fun h30 => ?_) (fun h30 => ?_)
  · have _q := h30
    refine cx_thr2 (c := 17) rfl rfl rfl rfl ⟨by decide, by decide, (Nat.le_of_ble_eq_true rfl), rfl, rfl, rfl⟩ rfl rfl hC8 (fun x31 m31 tg31 ln31 F31 en31 em31 ho31 hx31 hC31 hf31 hs31 => ?_)
    have ex31 : 64 + (m : Int) ≤ (x31 : Int) := by have := hX24.1; omega
    have c32 : SB m31 tg31 F31 ((kk)) := SB_n c14 hC8.1 hx31 en31 em31 hf31 ho31.2 (Or.inl (by decide))
    have c33 : T3 m31 tg31 := T3_n c15 hC8.1 hx31 en31 em31 ho31.2 (by decide)
    have c34 : NP m31 tg31 F31 := NP_nn hC8 c13 hx31 en31 em31 (fun b i ob => hf31 b i (ne_n ob en31)) (fun w => absurd (ho31.2.symm.trans w) (by decide)) (fun w => absurd (ho31.2.symm.trans w) (by decide)) (fun w => absurd (ho31.2.symm.trans w) (by decide))
    have lm35 := hx31.1
    exact Or.inr ⟨m31, tg31, ln31, F31, x31, rfl, rfl, Ex_t hX24 hx31, hC31, Fq_n hM22 hf31 ex31, ho31.1, Or.inr (Or.inr (ho31.2)), by omega, by omega, c34, SB_m c32 (by omega), c33, trivial⟩
  · have _q := h30
    refine jx_ld (pc_q := 11) (l_q := L25) (st_q := [.int (i32 (k))]) rfl (jl_iloadn g28) ?_
    refine jx_ld (pc_q := 12) (l_q := L25) (st_q := [rv (r6), .int (i32 (k))]) rfl (jl_rvn g29) ?_
    refine cx_gr (pc_q := 15) (c := 2) (q := 1) (v := F5 (r6) (1 : Int)) rfl rfl (by decide) (by decide) rfl rfl b10.1 b10.2 rfl ?_
    have y36 : own m4 (F5 (r6) (1 : Int)) ∧ tg4 (F5 (r6) (1 : Int)) = 20 ∧ ((0 : Int) ≠ 0 → ln4 (F5 (r6) (1 : Int)) = 0) := by have z := HC_n (c := 2) (q := 1) hC8 b10.1 b10.2 (own_z b10.1) (by decide) rfl; rw [show F5 (r6) ((1 : Nat) : Int) = F5 (r6) (1 : Int) from rfl] at z; exact ⟨z.1, z.2.1, z.2.2.1⟩
    have b37 := HC_l hC8 y36.1 y36.2.1 (by decide)
    refine cx_len (pc_q := 16) rfl rfl y36.1 (by rw [y36.2.1]; decide) (by omega) ?_
    refine jx_icmp_lt (pc_q := 19) (tg := 29) rfl rfl rfl (by omega) (by omega) (by omega) (by omega) (fun h38 => ?_) (fun h38 => ?_)
    · have _q := h38
      refine jx_ld (pc_q := 30) (l_q := L25) (st_q := [rv (r6)]) rfl (jl_rvn g29) ?_
      refine cx_gr (pc_q := 33) (c := 2) (q := 1) (v := F5 (r6) (1 : Int)) rfl rfl (by decide) (by decide) rfl rfl b10.1 b10.2 rfl ?_
      refine jx_ld (pc_q := 34) (l_q := L25) (st_q := [.int (i32 (k)), rv (F5 (r6) (1 : Int))]) rfl (jl_iloadn g28) ?_
      refine cx_bal (pc_q := 35) (z := k) rfl rfl y36.1 (Or.inl y36.2.1) (by omega) (by omega) (by omega) ?_
      have b39 : (-2147483648 : Int) ≤ F5 (F5 (r6) (1 : Int)) (k) ∧ F5 (F5 (r6) (1 : Int)) (k) ≤ 2147483647 := by have z := HC_ei (j := k) hC8 y36.1 (by rw [y36.2.1]; decide) (by omega); exact z
      refine jx_ar (pc_q := 38) (st_q := [.int (i32 (255)), .int (i32 (F5 (F5 (r6) (1 : Int)) (k)))]) rfl rfl rfl rfl ?_
      refine jx_and (pc_q := 39) rfl rfl ?_
      obtain ⟨z40, ez40⟩ : ∃ q, q = (i32 (F5 (F5 (r6) (1 : Int)) (k)) &&& i32 (255)).toInt := ⟨_, rfl⟩
      rw [← ez40]
      have bz40 : (-2147483648 : Int) ≤ z40 ∧ z40 ≤ 2147483647 := ez40 ▸ i32_rg _
      have cz40 : 0 ≤ z40 ∧ z40 ≤ 255 := ez40 ▸ and_le (by decide) (by decide)
      clear ez40
      refine jx_rt (v := some (.int (i32 (z40)))) rfl rfl rfl rfl rfl rfl ?_
      exact Or.inl ⟨m4, tg4, ln4, F5, (z40), rfl, rfl, hX24, hC8, hM22, by omega, by omega, by omega, c13, SB_m c14 (by omega), c15, trivial⟩
    · have _q := h38
      refine cx_thr2 (c := 17) rfl rfl rfl rfl ⟨by decide, by decide, (Nat.le_of_ble_eq_true rfl), rfl, rfl, rfl⟩ rfl rfl hC8 (fun x41 m41 tg41 ln41 F41 en41 em41 ho41 hx41 hC41 hf41 hs41 => ?_)
      have ex41 : 64 + (m : Int) ≤ (x41 : Int) := by have := hX24.1; omega
      have c42 : SB m41 tg41 F41 ((kk)) := SB_n c14 hC8.1 hx41 en41 em41 hf41 ho41.2 (Or.inl (by decide))
      have c43 : T3 m41 tg41 := T3_n c15 hC8.1 hx41 en41 em41 ho41.2 (by decide)
      have c44 : NP m41 tg41 F41 := NP_nn hC8 c13 hx41 en41 em41 (fun b i ob => hf41 b i (ne_n ob en41)) (fun w => absurd (ho41.2.symm.trans w) (by decide)) (fun w => absurd (ho41.2.symm.trans w) (by decide)) (fun w => absurd (ho41.2.symm.trans w) (by decide))
      have lm45 := hx41.1
      exact Or.inr ⟨m41, tg41, ln41, F41, x41, rfl, rfl, Ex_t hX24 hx41, hC41, Fq_n hM22 hf41 ex41, ho41.1, Or.inr (Or.inr (ho41.2)), by omega, by omega, c44, SB_m c42 (by omega), c43, trivial⟩
set_option maxRecDepth 20000 in
set_option maxHeartbeats 4000000 in
theorem k_LY_instruction {X : jX} {dd : Nat} {R : Nat → jC} {m : Nat} {tg ln : Int → Int} {F : Int → Int → Int} {kk : Int} {me p k wh : Int} (hd : 3 ≤ dd) (hC : HC 0 m tg ln F) (o_me : own m me) (t_me : tg me = 1) (h_p : (-2147483648 : Int) ≤ p ∧ p ≤ 2147483647) (h_k : (-2147483648 : Int) ≤ k ∧ k ≤ 2147483647) (h_wh : (-2147483648 : Int) ≤ wh ∧ wh ≤ 2147483647) (c_NP : NP m tg F) (c_SB : SB m tg F (kk)) (c_T3 : T3 m tg) : wk X dd 26 [rv me, .int (i32 p), .int (i32 k), .int (i32 wh)] (cV R m tg ln F) (fun o V_q => (∃ (m_q : Nat) (tg_q ln_q : Int → Int) (F_q : Int → Int → Int) (r : Int), V_q = cV R m_q tg_q ln_q F_q ∧ o = .inl (some (.int (i32 r))) ∧ Ex m tg ln m_q tg_q ln_q ∧ HC 0 m_q tg_q ln_q F_q ∧ Fq 0 [] m tg F F_q ∧ (-2147483648 ≤ r ∧ r ≤ 2147483647) ∧ (szD m_q tg_q ln_q = szD m tg ln) ∧ ((m_q : Int) = (m : Int)) ∧ (NP m_q tg_q F_q) ∧ (SB m_q tg_q F_q (kk)) ∧ (T3 m_q tg_q) ∧ True) ∨ (∃ (m_q : Nat) (tg_q ln_q : Int → Int) (F_q : Int → Int → Int) (x : Nat), V_q = cV R m_q tg_q ln_q F_q ∧ o = .inr x ∧ Ex m tg ln m_q tg_q ln_q ∧ HC 0 m_q tg_q ln_q F_q ∧ Fq 0 [] m tg F F_q ∧ (own m_q (x : Int)) ∧ (tg_q (x : Int) = 16 ∨ tg_q (x : Int) = 17 ∨ tg_q (x : Int) = 18 ∨ tg_q (x : Int) = 14) ∧ (szD m_q tg_q ln_q = szD m tg ln + 25) ∧ ((m_q : Int) = (m : Int) + 1) ∧ (NP m_q tg_q F_q) ∧ (SB m_q tg_q F_q (kk)) ∧ (T3 m_q tg_q) ∧ True)) := by
  obtain ⟨d, rfl⟩ : ∃ d, dd = d + 1 := ⟨dd - 1, by omega⟩
  refine wk_of (e := jm26) rfl (by rw [jS_r, jS_i, jS_i, jS_i, jS_0]; exact Nat.le_of_ble_eq_true rfl) ?_
  rw [la_r, la_i, la_i, la_i, la_0]
  show wj X d jm26 (0, [(0, rv (me)), (1, .int (i32 (p))), (2, .int (i32 (k))), (3, .int (i32 (wh)))], [], cV R m tg ln F) _
  have hM0 : Fq 0 [] m tg F F := Fq_r
  have hX0 : Ex m tg ln m tg ln := Ex_r
  obtain ⟨L0, eL0⟩ : ∃ q : jL, q = [(0, rv (me)), (1, .int (i32 (p))), (2, .int (i32 (k))), (3, .int (i32 (wh)))] := ⟨_, rfl⟩
  rw [← eL0]
  have g1 : jGet L0 0 = some (rv (me)) := eL0 ▸ (rfl : jGet [(0, rv (me)), (1, .int (i32 (p))), (2, .int (i32 (k))), (3, .int (i32 (wh)))] 0 = some (rv (me)))
  have g2 : jGet L0 1 = some (.int (i32 (p))) := eL0 ▸ (rfl : jGet [(0, rv (me)), (1, .int (i32 (p))), (2, .int (i32 (k))), (3, .int (i32 (wh)))] 1 = some (.int (i32 (p))))
  have g3 : jGet L0 2 = some (.int (i32 (k))) := eL0 ▸ (rfl : jGet [(0, rv (me)), (1, .int (i32 (p))), (2, .int (i32 (k))), (3, .int (i32 (wh)))] 2 = some (.int (i32 (k))))
  have g4 : jGet L0 3 = some (.int (i32 (wh))) := eL0 ▸ (rfl : jGet [(0, rv (me)), (1, .int (i32 (p))), (2, .int (i32 (k))), (3, .int (i32 (wh)))] 3 = some (.int (i32 (wh))))
  clear eL0
  refine jx_ld (pc_q := 1) (l_q := L0) (st_q := [rv (me)]) rfl (jl_rvn g1) ?_
  refine jx_ld (pc_q := 2) (l_q := L0) (st_q := [.int (i32 (p)), rv (me)]) rfl (jl_iloadn g2) ?_
  refine cx_vi (c := 0) (a := me) (st := []) (as := [.int (i32 (p))]) rfl rfl rfl o_me t_me (by decide) rfl ⟨rfl, rfl, (Nat.le_of_ble_eq_true rfl)⟩ rfl (k_LY_coreOf (dd := d) (R := R) (m := m) (tg := tg) (ln := ln) (F := F) (me := me) (p := p) (hd := by omega) (hC := hC) (o_me := o_me) (t_me := t_me) (h_p := by omega) (c_NP := c_NP) (kk := kk) (c_SB := c_SB) (c_T3 := c_T3)) (fun o V_q hq => ?_)
  obtain ⟨m5, tg5, ln5, F6, r7, rfl, rfl, hx8, hC9, hM10, b11, p12, p13, c14, c15, c16, -⟩ | ⟨m17, tg17, ln17, F17, x17, rfl, rfl, hx17, hC17, hM17, ho17, ht17, p18, p19, c20, c21, c22, -⟩ := hq
  rotate_left
  · rcases ht17 with ht17 | ht17
    ·
      refine Or.inr (Or.inr (Or.inr ⟨_, _, rfl, cx_exc (c := 15) ho17 ht17 (by decide), rfl, ?_⟩))
      exact Or.inr ⟨m17, tg17, ln17, F17, x17, rfl, rfl, Ex_t hX0 hx17, hC17, Fq_t (ln := ln) (ln1 := ln) hM0 hX0 hM17 (by decide) (Or.inl rfl), (And.intro ho17 ht17).1, Or.inl ((And.intro ho17 ht17).2), by omega, by omega, c20, SB_m c21 (by omega), c22, trivial⟩
    ·
      refine Or.inr (Or.inr (Or.inr ⟨_, _, rfl, cx_exc (c := 16) ho17 ht17 (by decide), rfl, ?_⟩))
      exact Or.inr ⟨m17, tg17, ln17, F17, x17, rfl, rfl, Ex_t hX0 hx17, hC17, Fq_t (ln := ln) (ln1 := ln) hM0 hX0 hM17 (by decide) (Or.inl rfl), (And.intro ho17 ht17).1, Or.inr (Or.inl ((And.intro ho17 ht17).2)), by omega, by omega, c20, SB_m c21 (by omega), c22, trivial⟩
  have hM23 : Fq 0 [] m tg F F6 := Fq_t (ln := ln) (ln1 := ln) hM0 hX0 hM10 (by decide) (Or.inl rfl)
  have ho24 : own m5 (me) ∧ tg5 (me) = 1 := Ex_o hx8 ⟨o_me, t_me⟩
  have hX25 := Ex_t hX0 hx8
  refine Or.inr (Or.inl ⟨_, rfl, ?_⟩)
  refine jx_ld (pc_q := 7) (l_q := jSto1 L0 4 (rv (r7))) (st_q := []) rfl (js_rv (by decide)) ?_
  obtain ⟨L26, eL26⟩ : ∃ q : jL, q = jSto1 L0 4 (rv (r7)) := ⟨_, rfl⟩
  rw [← eL26]
  have g27 : jGet L26 0 = some (rv (me)) := eL26 ▸ jg_nr (by decide) g1
  have g28 : jGet L26 1 = some (.int (i32 (p))) := eL26 ▸ jg_ne (by decide) g2 rfl
  have g29 : jGet L26 2 = some (.int (i32 (k))) := eL26 ▸ jg_ne (by decide) g3 rfl
  have g30 : jGet L26 3 = some (.int (i32 (wh))) := eL26 ▸ jg_ne (by decide) g4 rfl
  have g31 : jGet L26 4 = some (rv (r7)) := eL26 ▸ jg_eq
  clear eL26
  refine jx_ld (pc_q := 8) (l_q := L26) (st_q := [.int (i32 (k))]) rfl (jl_iloadn g29) ?_
  refine jx_if_lt (pc_q := 11) (tg := 21) rfl rfl rfl (by omega) (by omega) (fun h32 => ?_) (fun h32 => ?_)
  · have _q := h32
    refine cx_thr2 (c := 17) rfl rfl rfl rfl ⟨by decide, by decide, (Nat.le_of_ble_eq_true rfl), rfl, rfl, rfl⟩ rfl rfl hC9 (fun x33 m33 tg33 ln33 F33 en33 em33 ho33 hx33 hC33 hf33 hs33 => ?_)
    have ex33 : 64 + (m : Int) ≤ (x33 : Int) := by have := hX25.1; omega
    have c34 : SB m33 tg33 F33 ((kk)) := SB_n c15 hC9.1 hx33 en33 em33 hf33 ho33.2 (Or.inl (by decide))
    have c35 : T3 m33 tg33 := T3_n c16 hC9.1 hx33 en33 em33 ho33.2 (by decide)
    have c36 : NP m33 tg33 F33 := NP_nn hC9 c14 hx33 en33 em33 (fun b i ob => hf33 b i (ne_n ob en33)) (fun w => absurd (ho33.2.symm.trans w) (by decide)) (fun w => absurd (ho33.2.symm.trans w) (by decide)) (fun w => absurd (ho33.2.symm.trans w) (by decide))
    have lm37 := hx33.1
    exact Or.inr ⟨m33, tg33, ln33, F33, x33, rfl, rfl, Ex_t hX25 hx33, hC33, Fq_n hM23 hf33 ex33, ho33.1, Or.inr (Or.inr (Or.inl (ho33.2))), by omega, by omega, c36, SB_m c34 (by omega), c35, trivial⟩
  · have _q := h32
    refine jx_ld (pc_q := 12) (l_q := L26) (st_q := [.int (i32 (k))]) rfl (jl_iloadn g29) ?_
    refine jx_ld (pc_q := 14) (l_q := L26) (st_q := [rv (r7), .int (i32 (k))]) rfl (jl_rv g31) ?_
    refine cx_gr (pc_q := 17) (c := 2) (q := 1) (v := F6 (r7) (1 : Int)) rfl rfl (by decide) (by decide) rfl rfl b11.1 b11.2 rfl ?_
    have y38 : own m5 (F6 (r7) (1 : Int)) ∧ tg5 (F6 (r7) (1 : Int)) = 20 ∧ ((0 : Int) ≠ 0 → ln5 (F6 (r7) (1 : Int)) = 0) := by have z := HC_n (c := 2) (q := 1) hC9 b11.1 b11.2 (own_z b11.1) (by decide) rfl; rw [show F6 (r7) ((1 : Nat) : Int) = F6 (r7) (1 : Int) from rfl] at z; exact ⟨z.1, z.2.1, z.2.2.1⟩
    have b39 := HC_l hC9 y38.1 y38.2.1 (by decide)
    refine cx_len (pc_q := 18) rfl rfl y38.1 (by rw [y38.2.1]; decide) (by omega) ?_
    refine jx_icmp_lt (pc_q := 21) (tg := 31) rfl rfl rfl (by omega) (by omega) (by omega) (by omega) (fun h40 => ?_) (fun h40 => ?_)
    · have _q := h40
      refine jx_ld (pc_q := 32) (l_q := L26) (st_q := [.int (i32 (wh))]) rfl (jl_iloadn g30) ?_
      refine jx_if_lt (pc_q := 35) (tg := 40) rfl rfl rfl (by omega) (by omega) (fun h41 => ?_) (fun h41 => ?_)
      · have _q := h41
        refine cx_thr2 (c := 13) rfl rfl rfl rfl ⟨by decide, by decide, (Nat.le_of_ble_eq_true rfl), rfl, rfl, rfl⟩ rfl rfl hC9 (fun x42 m42 tg42 ln42 F42 en42 em42 ho42 hx42 hC42 hf42 hs42 => ?_)
        have ex42 : 64 + (m : Int) ≤ (x42 : Int) := by have := hX25.1; omega
        have c43 : SB m42 tg42 F42 ((kk)) := SB_n c15 hC9.1 hx42 en42 em42 hf42 ho42.2 (Or.inl (by decide))
        have c44 : T3 m42 tg42 := T3_n c16 hC9.1 hx42 en42 em42 ho42.2 (by decide)
        have c45 : NP m42 tg42 F42 := NP_nn hC9 c14 hx42 en42 em42 (fun b i ob => hf42 b i (ne_n ob en42)) (fun w => absurd (ho42.2.symm.trans w) (by decide)) (fun w => absurd (ho42.2.symm.trans w) (by decide)) (fun w => absurd (ho42.2.symm.trans w) (by decide))
        have lm46 := hx42.1
        exact Or.inr ⟨m42, tg42, ln42, F42, x42, rfl, rfl, Ex_t hX25 hx42, hC42, Fq_n hM23 hf42 ex42, ho42.1, Or.inr (Or.inr (Or.inr (ho42.2))), by omega, by omega, c45, SB_m c43 (by omega), c44, trivial⟩
      · have _q := h41
        refine jx_ld (pc_q := 36) (l_q := L26) (st_q := [.int (i32 (wh))]) rfl (jl_iloadn g30) ?_
        refine jx_ar (pc_q := 37) (st_q := [.int (i32 (2)), .int (i32 (wh))]) rfl rfl rfl rfl ?_
        refine jx_icmp_le (pc_q := 40) (tg := 50) rfl rfl rfl (by omega) (by omega) (by decide) (by decide) (fun h47 => ?_) (fun h47 => ?_)
        · have _q := h47
          refine jx_ld (pc_q := 52) (l_q := L26) (st_q := [rv (r7)]) rfl (jl_rv g31) ?_
          refine jx_ld (pc_q := 53) (l_q := L26) (st_q := [.int (i32 (k)), rv (r7)]) rfl (jl_iloadn g29) ?_
          refine jx_ld (pc_q := 54) (l_q := L26) (st_q := [.int (i32 (wh)), .int (i32 (k)), rv (r7)]) rfl (jl_iloadn g30) ?_
          refine cx_vi (c := 2) (a := r7) (st := []) (as := [.int (i32 (k)), .int (i32 (wh))]) rfl rfl rfl b11.1 b11.2 (by decide) rfl ⟨rfl, rfl, (Nat.le_of_ble_eq_true rfl)⟩ rfl (k_LCore_decode (dd := d) (R := R) (m := m5) (tg := tg5) (ln := ln5) (F := F6) (me := r7) (k := k) (what := wh) (hd := by omega) (hC := hC9) (o_me := b11.1) (t_me := b11.2) (h_k := by omega) (h_what := by omega)) (fun o V_q hq => ?_)
          obtain ⟨r48, rfl, rfl, b49, -⟩ := hq
          refine Or.inr (Or.inl ⟨_, rfl, ?_⟩)
          refine jx_rt (v := some (.int (i32 (r48)))) rfl rfl rfl rfl rfl rfl ?_
          exact Or.inl ⟨m5, tg5, ln5, F6, (r48), rfl, rfl, hX25, hC9, hM23, by omega, by omega, by omega, c14, SB_m c15 (by omega), c16, trivial⟩
        · have _q := h47
          refine cx_thr2 (c := 13) rfl rfl rfl rfl ⟨by decide, by decide, (Nat.le_of_ble_eq_true rfl), rfl, rfl, rfl⟩ rfl rfl hC9 (fun x50 m50 tg50 ln50 F50 en50 em50 ho50 hx50 hC50 hf50 hs50 => ?_)
          have ex50 : 64 + (m : Int) ≤ (x50 : Int) := by have := hX25.1; omega
          have c51 : SB m50 tg50 F50 ((kk)) := SB_n c15 hC9.1 hx50 en50 em50 hf50 ho50.2 (Or.inl (by decide))
          have c52 : T3 m50 tg50 := T3_n c16 hC9.1 hx50 en50 em50 ho50.2 (by decide)
          have c53 : NP m50 tg50 F50 := NP_nn hC9 c14 hx50 en50 em50 (fun b i ob => hf50 b i (ne_n ob en50)) (fun w => absurd (ho50.2.symm.trans w) (by decide)) (fun w => absurd (ho50.2.symm.trans w) (by decide)) (fun w => absurd (ho50.2.symm.trans w) (by decide))
          have lm54 := hx50.1
          exact Or.inr ⟨m50, tg50, ln50, F50, x50, rfl, rfl, Ex_t hX25 hx50, hC50, Fq_n hM23 hf50 ex50, ho50.1, Or.inr (Or.inr (Or.inr (ho50.2))), by omega, by omega, c53, SB_m c51 (by omega), c52, trivial⟩
    · have _q := h40
      refine cx_thr2 (c := 17) rfl rfl rfl rfl ⟨by decide, by decide, (Nat.le_of_ble_eq_true rfl), rfl, rfl, rfl⟩ rfl rfl hC9 (fun x55 m55 tg55 ln55 F55 en55 em55 ho55 hx55 hC55 hf55 hs55 => ?_)
      have ex55 : 64 + (m : Int) ≤ (x55 : Int) := by have := hX25.1; omega
      have c56 : SB m55 tg55 F55 ((kk)) := SB_n c15 hC9.1 hx55 en55 em55 hf55 ho55.2 (Or.inl (by decide))
      have c57 : T3 m55 tg55 := T3_n c16 hC9.1 hx55 en55 em55 ho55.2 (by decide)
      have c58 : NP m55 tg55 F55 := NP_nn hC9 c14 hx55 en55 em55 (fun b i ob => hf55 b i (ne_n ob en55)) (fun w => absurd (ho55.2.symm.trans w) (by decide)) (fun w => absurd (ho55.2.symm.trans w) (by decide)) (fun w => absurd (ho55.2.symm.trans w) (by decide))
      have lm59 := hx55.1
      exact Or.inr ⟨m55, tg55, ln55, F55, x55, rfl, rfl, Ex_t hX25 hx55, hC55, Fq_n hM23 hf55 ex55, ho55.1, Or.inr (Or.inr (Or.inl (ho55.2))), by omega, by omega, c58, SB_m c56 (by omega), c57, trivial⟩
set_option maxRecDepth 20000 in
set_option maxHeartbeats 4000000 in
theorem k_LY_link {X : jX} {dd : Nat} {R : Nat → jC} {m : Nat} {tg ln : Int → Int} {F : Int → Int → Int} {kk : Int} {me l wh : Int} (hd : 2 ≤ dd) (hC : HC 0 m tg ln F) (o_me : own m me) (t_me : tg me = 1) (h_l : (-2147483648 : Int) ≤ l ∧ l ≤ 2147483647) (h_wh : (-2147483648 : Int) ≤ wh ∧ wh ≤ 2147483647) (c_NP : NP m tg F) (c_SB : SB m tg F (kk)) (c_T3 : T3 m tg) : wk X dd 27 [rv me, .int (i32 l), .int (i32 wh)] (cV R m tg ln F) (fun o V_q => (∃ (m_q : Nat) (tg_q ln_q : Int → Int) (F_q : Int → Int → Int) (r : Int), V_q = cV R m_q tg_q ln_q F_q ∧ o = .inl (some (.int (i32 r))) ∧ Ex m tg ln m_q tg_q ln_q ∧ HC 0 m_q tg_q ln_q F_q ∧ Fq 0 [] m tg F F_q ∧ (-2147483648 ≤ r ∧ r ≤ 2147483647) ∧ (szD m_q tg_q ln_q = szD m tg ln) ∧ ((m_q : Int) = (m : Int)) ∧ (NP m_q tg_q F_q) ∧ (SB m_q tg_q F_q (kk)) ∧ (T3 m_q tg_q) ∧ True) ∨ (∃ (m_q : Nat) (tg_q ln_q : Int → Int) (F_q : Int → Int → Int) (x : Nat), V_q = cV R m_q tg_q ln_q F_q ∧ o = .inr x ∧ Ex m tg ln m_q tg_q ln_q ∧ HC 0 m_q tg_q ln_q F_q ∧ Fq 0 [] m tg F F_q ∧ (own m_q (x : Int)) ∧ (tg_q (x : Int) = 16 ∨ tg_q (x : Int) = 18 ∨ tg_q (x : Int) = 14) ∧ (szD m_q tg_q ln_q = szD m tg ln + 25) ∧ ((m_q : Int) = (m : Int) + 1) ∧ (NP m_q tg_q F_q) ∧ (SB m_q tg_q F_q (kk)) ∧ (T3 m_q tg_q) ∧ True)) := by
  obtain ⟨d, rfl⟩ : ∃ d, dd = d + 1 := ⟨dd - 1, by omega⟩
  refine wk_of (e := jm27) rfl (by rw [jS_r, jS_i, jS_i, jS_0]; exact Nat.le_of_ble_eq_true rfl) ?_
  rw [la_r, la_i, la_i, la_0]
  show wj X d jm27 (0, [(0, rv (me)), (1, .int (i32 (l))), (2, .int (i32 (wh)))], [], cV R m tg ln F) _
  have hM0 : Fq 0 [] m tg F F := Fq_r
  have hX0 : Ex m tg ln m tg ln := Ex_r
  obtain ⟨L0, eL0⟩ : ∃ q : jL, q = [(0, rv (me)), (1, .int (i32 (l))), (2, .int (i32 (wh)))] := ⟨_, rfl⟩
  rw [← eL0]
  have g1 : jGet L0 0 = some (rv (me)) := eL0 ▸ (rfl : jGet [(0, rv (me)), (1, .int (i32 (l))), (2, .int (i32 (wh)))] 0 = some (rv (me)))
  have g2 : jGet L0 1 = some (.int (i32 (l))) := eL0 ▸ (rfl : jGet [(0, rv (me)), (1, .int (i32 (l))), (2, .int (i32 (wh)))] 1 = some (.int (i32 (l))))
  have g3 : jGet L0 2 = some (.int (i32 (wh))) := eL0 ▸ (rfl : jGet [(0, rv (me)), (1, .int (i32 (l))), (2, .int (i32 (wh)))] 2 = some (.int (i32 (wh))))
  clear eL0
  refine jx_ld (pc_q := 1) (l_q := L0) (st_q := [rv (me)]) rfl (jl_rvn g1) ?_
  refine cx_vi (c := 0) (a := me) (st := []) (as := []) rfl rfl rfl o_me t_me (by decide) rfl ⟨rfl, rfl, (Nat.le_of_ble_eq_true rfl)⟩ rfl (k_LY_loaded (dd := d) (R := R) (m := m) (tg := tg) (ln := ln) (F := F) (me := me) (hd := by omega) (hC := hC) (o_me := o_me) (t_me := t_me) (c_NP := c_NP) (kk := kk) (c_SB := c_SB) (c_T3 := c_T3)) (fun o V_q hq => ?_)
  obtain ⟨m4, tg4, ln4, F5, r6, rfl, rfl, hx7, hC8, hM9, b10, p11, p12, c13, c14, c15, -⟩ | ⟨m16, tg16, ln16, F16, x16, rfl, rfl, hx16, hC16, hM16, ho16, ht16, p17, p18, c19, c20, c21, -⟩ := hq
  rotate_left
  ·
    refine Or.inr (Or.inr (Or.inr ⟨_, _, rfl, cx_exc (c := 15) ho16 ht16 (by decide), rfl, ?_⟩))
    exact Or.inr ⟨m16, tg16, ln16, F16, x16, rfl, rfl, Ex_t hX0 hx16, hC16, Fq_t (ln := ln) (ln1 := ln) hM0 hX0 hM16 (by decide) (Or.inl rfl), (And.intro ho16 ht16).1, Or.inl ((And.intro ho16 ht16).2), by omega, by omega, c19, SB_m c20 (by omega), c21, trivial⟩
  have hM22 : Fq 0 [] m tg F F5 := Fq_t (ln := ln) (ln1 := ln) hM0 hX0 hM9 (by decide) (Or.inl rfl)
  have ho23 : own m4 (me) ∧ tg4 (me) = 1 := Ex_o hx7 ⟨o_me, t_me⟩
  have hX24 := Ex_t hX0 hx7
  refine Or.inr (Or.inl ⟨_, rfl, ?_⟩)
  refine jx_ld (pc_q := 5) (l_q := L0) (st_q := [.int (i32 (l)), rv (r6)]) rfl (jl_iloadn g2) ?_
  refine cx_vi (c := 5) (a := r6) (st := []) (as := [.int (i32 (l))]) rfl rfl rfl b10.1 b10.2 (by decide) rfl ⟨rfl, rfl, (Nat.le_of_ble_eq_true rfl)⟩ rfl (k_LMachine_linkAt (dd := d) (R := R) (m := m4) (tg := tg4) (ln := ln4) (F := F5) (me := r6) (a0 := l) (hd := by omega) (hC := hC8) (o_me := b10.1) (t_me := b10.2) (h_a0 := by omega)) (fun o V_q hq => ?_)
  obtain ⟨r25, rfl, rfl, b26, -⟩ := hq
  refine Or.inr (Or.inl ⟨_, rfl, ?_⟩)
  refine jx_ld (pc_q := 9) (l_q := jSto1 L0 3 (rv (r25))) (st_q := []) rfl (js_rvn (by decide)) ?_
  obtain ⟨L27, eL27⟩ : ∃ q : jL, q = jSto1 L0 3 (rv (r25)) := ⟨_, rfl⟩
  rw [← eL27]
  have g28 : jGet L27 0 = some (rv (me)) := eL27 ▸ jg_nr (by decide) g1
  have g29 : jGet L27 1 = some (.int (i32 (l))) := eL27 ▸ jg_ne (by decide) g2 rfl
  have g30 : jGet L27 2 = some (.int (i32 (wh))) := eL27 ▸ jg_ne (by decide) g3 rfl
  have g31 : jGet L27 3 = some (rv (r25)) := eL27 ▸ jg_eq
  clear eL27
  refine jx_ld (pc_q := 10) (l_q := L27) (st_q := [rv (r25)]) rfl (jl_rvn g31) ?_
  refine cx_non (pc_q := 13) (tg_q := 23) rfl rfl rfl (fun h32 => ?_) (fun h32 => ?_)
  · have _q := h32
    have ho33 : own m4 (r25) ∧ tg4 (r25) = 5 := b26.resolve_left h32
    refine jx_ld (pc_q := 24) (l_q := L27) (st_q := [.int (i32 (wh))]) rfl (jl_iloadn g30) ?_
    by_cases h34 : wh = 0
    · refine jx_swe (tg := 64) h34 rfl rfl rfl rfl ?_
      refine jx_ld (pc_q := 65) (l_q := L27) (st_q := [rv (r25)]) rfl (jl_rvn g31) ?_
      refine cx_gi (pc_q := 68) (c := 4) (q := 0) (v := F5 (r25) (0 : Int)) rfl rfl (by decide) (by decide) (Or.inl rfl) rfl ho33.1 ho33.2 rfl ?_
      have b35 : (-2147483648 : Int) ≤ F5 (r25) (0 : Int) ∧ F5 (r25) (0 : Int) ≤ 2147483647 := by have z := HC_i (c := 4) (q := 0) hC8 ho33.1 ho33.2 (by decide) rfl; rw [show F5 (r25) ((0 : Nat) : Int) = F5 (r25) (0 : Int) from rfl] at z; exact z
      refine jx_rt (v := some (.int (i32 (F5 (r25) (0 : Int))))) rfl rfl rfl rfl rfl rfl ?_
      exact Or.inl ⟨m4, tg4, ln4, F5, (F5 (r25) (0 : Int)), rfl, rfl, hX24, hC8, hM22, by omega, by omega, by omega, c13, SB_m c14 (by omega), c15, trivial⟩
    by_cases h36 : wh = 1
    · refine jx_swe (tg := 69) h36 rfl rfl rfl rfl ?_
      refine jx_ld (pc_q := 70) (l_q := L27) (st_q := [rv (r25)]) rfl (jl_rvn g31) ?_
      refine cx_gi (pc_q := 73) (c := 4) (q := 1) (v := F5 (r25) (1 : Int)) rfl rfl (by decide) (by decide) (Or.inl rfl) rfl ho33.1 ho33.2 rfl ?_
      have b37 : (-2147483648 : Int) ≤ F5 (r25) (1 : Int) ∧ F5 (r25) (1 : Int) ≤ 2147483647 := by have z := HC_i (c := 4) (q := 1) hC8 ho33.1 ho33.2 (by decide) rfl; rw [show F5 (r25) ((1 : Nat) : Int) = F5 (r25) (1 : Int) from rfl] at z; exact z
      refine jx_rt (v := some (.int (i32 (F5 (r25) (1 : Int))))) rfl rfl rfl rfl rfl rfl ?_
      exact Or.inl ⟨m4, tg4, ln4, F5, (F5 (r25) (1 : Int)), rfl, rfl, hX24, hC8, hM22, by omega, by omega, by omega, c13, SB_m c14 (by omega), c15, trivial⟩
    by_cases h38 : wh = 2
    · refine jx_swe (tg := 74) h38 rfl rfl rfl rfl ?_
      refine jx_ld (pc_q := 75) (l_q := L27) (st_q := [rv (r25)]) rfl (jl_rvn g31) ?_
      refine cx_gi (pc_q := 78) (c := 4) (q := 5) (v := F5 (r25) (5 : Int)) rfl rfl (by decide) (by decide) (Or.inr rfl) rfl ho33.1 ho33.2 rfl ?_
      have b39 : (0 : Int) ≤ F5 (r25) (5 : Int) ∧ F5 (r25) (5 : Int) ≤ 1 := by have z := HC_i (c := 4) (q := 5) hC8 ho33.1 ho33.2 (by decide) rfl; rw [show F5 (r25) ((5 : Nat) : Int) = F5 (r25) (5 : Int) from rfl] at z; exact z
      refine jx_if_eq (pc_q := 81) (tg := 85) rfl rfl rfl (by omega) (by omega) (fun h40 => ?_) (fun h40 => ?_)
      · have _q := h40
        refine jx_ld (pc_q := 86) (l_q := L27) (st_q := [rv (r25)]) rfl (jl_rvn g31) ?_
        refine cx_gi (pc_q := 89) (c := 4) (q := 4) (v := F5 (r25) (4 : Int)) rfl rfl (by decide) (by decide) (Or.inl rfl) rfl ho33.1 ho33.2 rfl ?_
        have b41 : (-2147483648 : Int) ≤ F5 (r25) (4 : Int) ∧ F5 (r25) (4 : Int) ≤ 2147483647 := by have z := HC_i (c := 4) (q := 4) hC8 ho33.1 ho33.2 (by decide) rfl; rw [show F5 (r25) ((4 : Nat) : Int) = F5 (r25) (4 : Int) from rfl] at z; exact z
        refine jx_rt (v := some (.int (i32 (F5 (r25) (4 : Int))))) rfl rfl rfl rfl rfl rfl ?_
        exact Or.inl ⟨m4, tg4, ln4, F5, (F5 (r25) (4 : Int)), rfl, rfl, hX24, hC8, hM22, by omega, by omega, by omega, c13, SB_m c14 (by omega), c15, trivial⟩
      · have _q := h40
        refine jx_ar (pc_q := 82) (st_q := [.int (i32 (0))]) rfl rfl rfl rfl ?_
        refine jx_go (tg := 89) rfl rfl ?_
        refine jx_rt (v := some (.int (i32 (0)))) rfl rfl rfl rfl rfl rfl ?_
        exact Or.inl ⟨m4, tg4, ln4, F5, (0), rfl, rfl, hX24, hC8, hM22, by omega, by omega, by omega, c13, SB_m c14 (by omega), c15, trivial⟩
    by_cases h42 : wh = 3
    · refine jx_swe (tg := 90) h42 rfl rfl rfl rfl ?_
      refine jx_ld (pc_q := 91) (l_q := L27) (st_q := [rv (r25)]) rfl (jl_rvn g31) ?_
      refine cx_gi (pc_q := 94) (c := 4) (q := 6) (v := F5 (r25) (6 : Int)) rfl rfl (by decide) (by decide) (Or.inr rfl) rfl ho33.1 ho33.2 rfl ?_
      have b43 : (0 : Int) ≤ F5 (r25) (6 : Int) ∧ F5 (r25) (6 : Int) ≤ 1 := by have z := HC_i (c := 4) (q := 6) hC8 ho33.1 ho33.2 (by decide) rfl; rw [show F5 (r25) ((6 : Nat) : Int) = F5 (r25) (6 : Int) from rfl] at z; exact z
      refine jx_if_eq (pc_q := 97) (tg := 101) rfl rfl rfl (by omega) (by omega) (fun h44 => ?_) (fun h44 => ?_)
      · have _q := h44
        refine jx_ar (pc_q := 102) (st_q := [.int (i32 (0))]) rfl rfl rfl rfl ?_
        refine jx_rt (v := some (.int (i32 (0)))) rfl rfl rfl rfl rfl rfl ?_
        exact Or.inl ⟨m4, tg4, ln4, F5, (0), rfl, rfl, hX24, hC8, hM22, by omega, by omega, by omega, c13, SB_m c14 (by omega), c15, trivial⟩
      · have _q := h44
        refine jx_ar (pc_q := 98) (st_q := [.int (i32 (1))]) rfl rfl rfl rfl ?_
        refine jx_go (tg := 102) rfl rfl ?_
        refine jx_rt (v := some (.int (i32 (1)))) rfl rfl rfl rfl rfl rfl ?_
        exact Or.inl ⟨m4, tg4, ln4, F5, (1), rfl, rfl, hX24, hC8, hM22, by omega, by omega, by omega, c13, SB_m c14 (by omega), c15, trivial⟩
    by_cases h45 : wh = 4
    · refine jx_swe (tg := 103) h45 rfl rfl rfl rfl ?_
      refine jx_ld (pc_q := 104) (l_q := L27) (st_q := [rv (r25)]) rfl (jl_rvn g31) ?_
      refine cx_gi (pc_q := 107) (c := 4) (q := 3) (v := F5 (r25) (3 : Int)) rfl rfl (by decide) (by decide) (Or.inr rfl) rfl ho33.1 ho33.2 rfl ?_
      have b46 : (0 : Int) ≤ F5 (r25) (3 : Int) ∧ F5 (r25) (3 : Int) ≤ 1 := by have z := HC_i (c := 4) (q := 3) hC8 ho33.1 ho33.2 (by decide) rfl; rw [show F5 (r25) ((3 : Nat) : Int) = F5 (r25) (3 : Int) from rfl] at z; exact z
      refine jx_if_eq (pc_q := 110) (tg := 114) rfl rfl rfl (by omega) (by omega) (fun h47 => ?_) (fun h47 => ?_)
      · have _q := h47
        refine jx_ar (pc_q := 115) (st_q := [.int (i32 (0))]) rfl rfl rfl rfl ?_
        refine jx_rt (v := some (.int (i32 (0)))) rfl rfl rfl rfl rfl rfl ?_
        exact Or.inl ⟨m4, tg4, ln4, F5, (0), rfl, rfl, hX24, hC8, hM22, by omega, by omega, by omega, c13, SB_m c14 (by omega), c15, trivial⟩
      · have _q := h47
        refine jx_ar (pc_q := 111) (st_q := [.int (i32 (1))]) rfl rfl rfl rfl ?_
        refine jx_go (tg := 115) rfl rfl ?_
        refine jx_rt (v := some (.int (i32 (1)))) rfl rfl rfl rfl rfl rfl ?_
        exact Or.inl ⟨m4, tg4, ln4, F5, (1), rfl, rfl, hX24, hC8, hM22, by omega, by omega, by omega, c13, SB_m c14 (by omega), c15, trivial⟩
    by_cases h48 : wh = 5
    · refine jx_swe (tg := 116) h48 rfl rfl rfl rfl ?_
      refine jx_ld (pc_q := 117) (l_q := L27) (st_q := [rv (r25)]) rfl (jl_rvn g31) ?_
      refine cx_gi (pc_q := 120) (c := 4) (q := 2) (v := F5 (r25) (2 : Int)) rfl rfl (by decide) (by decide) (Or.inl rfl) rfl ho33.1 ho33.2 rfl ?_
      have b49 : (-2147483648 : Int) ≤ F5 (r25) (2 : Int) ∧ F5 (r25) (2 : Int) ≤ 2147483647 := by have z := HC_i (c := 4) (q := 2) hC8 ho33.1 ho33.2 (by decide) rfl; rw [show F5 (r25) ((2 : Nat) : Int) = F5 (r25) (2 : Int) from rfl] at z; exact z
      refine jx_rt (v := some (.int (i32 (F5 (r25) (2 : Int))))) rfl rfl rfl rfl rfl rfl ?_
      exact Or.inl ⟨m4, tg4, ln4, F5, (F5 (r25) (2 : Int)), rfl, rfl, hX24, hC8, hM22, by omega, by omega, by omega, c13, SB_m c14 (by omega), c15, trivial⟩
    refine jx_swt (tg := 121) (by omega) (by omega) rfl (by omega) rfl ?_
    refine cx_thr2 (c := 13) rfl rfl rfl rfl ⟨by decide, by decide, (Nat.le_of_ble_eq_true rfl), rfl, rfl, rfl⟩ rfl rfl hC8 (fun x50 m50 tg50 ln50 F50 en50 em50 ho50 hx50 hC50 hf50 hs50 => ?_)
    have ex50 : 64 + (m : Int) ≤ (x50 : Int) := by have := hX24.1; omega
    have c51 : SB m50 tg50 F50 ((kk)) := SB_n c14 hC8.1 hx50 en50 em50 hf50 ho50.2 (Or.inl (by decide))
    have c52 : T3 m50 tg50 := T3_n c15 hC8.1 hx50 en50 em50 ho50.2 (by decide)
    have c53 : NP m50 tg50 F50 := NP_nn hC8 c13 hx50 en50 em50 (fun b i ob => hf50 b i (ne_n ob en50)) (fun w => absurd (ho50.2.symm.trans w) (by decide)) (fun w => absurd (ho50.2.symm.trans w) (by decide)) (fun w => absurd (ho50.2.symm.trans w) (by decide))
    have lm54 := hx50.1
    exact Or.inr ⟨m50, tg50, ln50, F50, x50, rfl, rfl, Ex_t hX24 hx50, hC50, Fq_n hM22 hf50 ex50, ho50.1, Or.inr (Or.inr (ho50.2)), by omega, by omega, c53, SB_m c51 (by omega), c52, trivial⟩
  · have _q := h32
    refine cx_thr2 (c := 17) rfl rfl rfl rfl ⟨by decide, by decide, (Nat.le_of_ble_eq_true rfl), rfl, rfl, rfl⟩ rfl rfl hC8 (fun x55 m55 tg55 ln55 F55 en55 em55 ho55 hx55 hC55 hf55 hs55 => ?_)
    have ex55 : 64 + (m : Int) ≤ (x55 : Int) := by have := hX24.1; omega
    have c56 : SB m55 tg55 F55 ((kk)) := SB_n c14 hC8.1 hx55 en55 em55 hf55 ho55.2 (Or.inl (by decide))
    have c57 : T3 m55 tg55 := T3_n c15 hC8.1 hx55 en55 em55 ho55.2 (by decide)
    have c58 : NP m55 tg55 F55 := NP_nn hC8 c13 hx55 en55 em55 (fun b i ob => hf55 b i (ne_n ob en55)) (fun w => absurd (ho55.2.symm.trans w) (by decide)) (fun w => absurd (ho55.2.symm.trans w) (by decide)) (fun w => absurd (ho55.2.symm.trans w) (by decide))
    have lm59 := hx55.1
    exact Or.inr ⟨m55, tg55, ln55, F55, x55, rfl, rfl, Ex_t hX24 hx55, hC55, Fq_n hM22 hf55 ex55, ho55.1, Or.inr (Or.inl (ho55.2)), by omega, by omega, c58, SB_m c56 (by omega), c57, trivial⟩
set_option maxRecDepth 20000 in
set_option maxHeartbeats 4000000 in
theorem k_LY_outcome {X : jX} {dd : Nat} {R : Nat → jC} {m : Nat} {tg ln : Int → Int} {F : Int → Int → Int} {kk : Int} {me : Int} (hd : 3 ≤ dd) (hC : HC 0 m tg ln F) (o_me : own m me) (t_me : tg me = 1) (c_NP : NP m tg F) (c_SB : SB m tg F (kk)) (c_T3 : T3 m tg) : wk X dd 33 [rv me] (cV R m tg ln F) (fun o V_q => (∃ (m_q : Nat) (tg_q ln_q : Int → Int) (F_q : Int → Int → Int) (r : Int), V_q = cV R m_q tg_q ln_q F_q ∧ o = .inl (some (.int (i32 r))) ∧ Ex m tg ln m_q tg_q ln_q ∧ HC 0 m_q tg_q ln_q F_q ∧ Fq 0 [] m tg F F_q ∧ (-2147483648 ≤ r ∧ r ≤ 2147483647) ∧ (szD m_q tg_q ln_q = szD m tg ln) ∧ ((m_q : Int) = (m : Int)) ∧ (NP m_q tg_q F_q) ∧ (SB m_q tg_q F_q (kk)) ∧ (T3 m_q tg_q) ∧ True) ∨ (∃ (m_q : Nat) (tg_q ln_q : Int → Int) (F_q : Int → Int → Int) (x : Nat), V_q = cV R m_q tg_q ln_q F_q ∧ o = .inr x ∧ Ex m tg ln m_q tg_q ln_q ∧ HC 0 m_q tg_q ln_q F_q ∧ Fq 0 [] m tg F F_q ∧ (own m_q (x : Int)) ∧ (tg_q (x : Int) = 16) ∧ (szD m_q tg_q ln_q = szD m tg ln + 25) ∧ ((m_q : Int) = (m : Int) + 1) ∧ (NP m_q tg_q F_q) ∧ (SB m_q tg_q F_q (kk)) ∧ (T3 m_q tg_q) ∧ True)) := by
  obtain ⟨d, rfl⟩ : ∃ d, dd = d + 1 := ⟨dd - 1, by omega⟩
  refine wk_of (e := jm33) rfl (by rw [jS_r, jS_0]; exact Nat.le_of_ble_eq_true rfl) ?_
  rw [la_r, la_0]
  show wj X d jm33 (0, [(0, rv (me))], [], cV R m tg ln F) _
  have hM0 : Fq 0 [] m tg F F := Fq_r
  have hX0 : Ex m tg ln m tg ln := Ex_r
  obtain ⟨L0, eL0⟩ : ∃ q : jL, q = [(0, rv (me))] := ⟨_, rfl⟩
  rw [← eL0]
  have g1 : jGet L0 0 = some (rv (me)) := eL0 ▸ (rfl : jGet [(0, rv (me))] 0 = some (rv (me)))
  clear eL0
  refine jx_ld (pc_q := 1) (l_q := L0) (st_q := [rv (me)]) rfl (jl_rvn g1) ?_
  refine cx_vi (c := 0) (a := me) (st := []) (as := []) rfl rfl rfl o_me t_me (by decide) rfl ⟨rfl, rfl, (Nat.le_of_ble_eq_true rfl)⟩ rfl (k_LY_loaded (dd := d) (R := R) (m := m) (tg := tg) (ln := ln) (F := F) (me := me) (hd := by omega) (hC := hC) (o_me := o_me) (t_me := t_me) (c_NP := c_NP) (kk := kk) (c_SB := c_SB) (c_T3 := c_T3)) (fun o V_q hq => ?_)
  obtain ⟨m2, tg2, ln2, F3, r4, rfl, rfl, hx5, hC6, hM7, b8, p9, p10, c11, c12, c13, -⟩ | ⟨m14, tg14, ln14, F14, x14, rfl, rfl, hx14, hC14, hM14, ho14, ht14, p15, p16, c17, c18, c19, -⟩ := hq
  rotate_left
  ·
    refine Or.inr (Or.inr (Or.inr ⟨_, _, rfl, cx_exc (c := 15) ho14 ht14 (by decide), rfl, ?_⟩))
    exact Or.inr ⟨m14, tg14, ln14, F14, x14, rfl, rfl, Ex_t hX0 hx14, hC14, Fq_t (ln := ln) (ln1 := ln) hM0 hX0 hM14 (by decide) (Or.inl rfl), (And.intro ho14 ht14).1, (And.intro ho14 ht14).2, by omega, by omega, c17, SB_m c18 (by omega), c19, trivial⟩
  have hM20 : Fq 0 [] m tg F F3 := Fq_t (ln := ln) (ln1 := ln) hM0 hX0 hM7 (by decide) (Or.inl rfl)
  have ho21 : own m2 (me) ∧ tg2 (me) = 1 := Ex_o hx5 ⟨o_me, t_me⟩
  have hX22 := Ex_t hX0 hx5
  refine Or.inr (Or.inl ⟨_, rfl, ?_⟩)
  refine cx_vi (c := 5) (a := r4) (st := []) (as := []) rfl rfl rfl b8.1 b8.2 (by decide) rfl ⟨rfl, rfl, (Nat.le_of_ble_eq_true rfl)⟩ rfl (k_LMachine_result (dd := d) (R := R) (m := m2) (tg := tg2) (ln := ln2) (F := F3) (me := r4) (hd := by omega) (hC := hC6) (o_me := b8.1) (t_me := b8.2)) (fun o V_q hq => ?_)
  obtain ⟨r23, rfl, rfl, b24, -⟩ := hq
  refine Or.inr (Or.inl ⟨_, rfl, ?_⟩)
  refine jx_rt (v := some (.int (i32 (r23)))) rfl rfl rfl rfl rfl rfl ?_
  exact Or.inl ⟨m2, tg2, ln2, F3, (r23), rfl, rfl, hX22, hC6, hM20, by omega, by omega, by omega, c11, SB_m c12 (by omega), c13, trivial⟩
set_option maxRecDepth 20000 in
set_option maxHeartbeats 4000000 in
theorem k_LY_core {X : jX} {dd : Nat} {R : Nat → jC} {m : Nat} {tg ln : Int → Int} {F : Int → Int → Int} {kk : Int} {me p wh : Int} (hd : 3 ≤ dd) (hC : HC 0 m tg ln F) (o_me : own m me) (t_me : tg me = 1) (h_p : (-2147483648 : Int) ≤ p ∧ p ≤ 2147483647) (h_wh : (-2147483648 : Int) ≤ wh ∧ wh ≤ 2147483647) (c_NP : NP m tg F) (c_SB : SB m tg F (kk)) (c_T3 : T3 m tg) : wk X dd 34 [rv me, .int (i32 p), .int (i32 wh)] (cV R m tg ln F) (fun o V_q => (∃ (m_q : Nat) (tg_q ln_q : Int → Int) (F_q : Int → Int → Int) (r : Int), V_q = cV R m_q tg_q ln_q F_q ∧ o = .inl (some (.int (i32 r))) ∧ Ex m tg ln m_q tg_q ln_q ∧ HC 0 m_q tg_q ln_q F_q ∧ Fq 0 [] m tg F F_q ∧ (-2147483648 ≤ r ∧ r ≤ 2147483647) ∧ (szD m_q tg_q ln_q = szD m tg ln) ∧ ((m_q : Int) = (m : Int)) ∧ (NP m_q tg_q F_q) ∧ (SB m_q tg_q F_q (kk)) ∧ (T3 m_q tg_q) ∧ True) ∨ (∃ (m_q : Nat) (tg_q ln_q : Int → Int) (F_q : Int → Int → Int) (x : Nat), V_q = cV R m_q tg_q ln_q F_q ∧ o = .inr x ∧ Ex m tg ln m_q tg_q ln_q ∧ HC 0 m_q tg_q ln_q F_q ∧ Fq 0 [] m tg F F_q ∧ (own m_q (x : Int)) ∧ (tg_q (x : Int) = 16 ∨ tg_q (x : Int) = 17 ∨ tg_q (x : Int) = 14) ∧ (szD m_q tg_q ln_q = szD m tg ln + 25) ∧ ((m_q : Int) = (m : Int) + 1) ∧ (NP m_q tg_q F_q) ∧ (SB m_q tg_q F_q (kk)) ∧ (T3 m_q tg_q) ∧ True)) := by
  obtain ⟨d, rfl⟩ : ∃ d, dd = d + 1 := ⟨dd - 1, by omega⟩
  refine wk_of (e := jm34) rfl (by rw [jS_r, jS_i, jS_i, jS_0]; exact Nat.le_of_ble_eq_true rfl) ?_
  rw [la_r, la_i, la_i, la_0]
  show wj X d jm34 (0, [(0, rv (me)), (1, .int (i32 (p))), (2, .int (i32 (wh)))], [], cV R m tg ln F) _
  have hM0 : Fq 0 [] m tg F F := Fq_r
  have hX0 : Ex m tg ln m tg ln := Ex_r
  obtain ⟨L0, eL0⟩ : ∃ q : jL, q = [(0, rv (me)), (1, .int (i32 (p))), (2, .int (i32 (wh)))] := ⟨_, rfl⟩
  rw [← eL0]
  have g1 : jGet L0 0 = some (rv (me)) := eL0 ▸ (rfl : jGet [(0, rv (me)), (1, .int (i32 (p))), (2, .int (i32 (wh)))] 0 = some (rv (me)))
  have g2 : jGet L0 1 = some (.int (i32 (p))) := eL0 ▸ (rfl : jGet [(0, rv (me)), (1, .int (i32 (p))), (2, .int (i32 (wh)))] 1 = some (.int (i32 (p))))
  have g3 : jGet L0 2 = some (.int (i32 (wh))) := eL0 ▸ (rfl : jGet [(0, rv (me)), (1, .int (i32 (p))), (2, .int (i32 (wh)))] 2 = some (.int (i32 (wh))))
  clear eL0
  refine jx_ld (pc_q := 1) (l_q := L0) (st_q := [rv (me)]) rfl (jl_rvn g1) ?_
  refine jx_ld (pc_q := 2) (l_q := L0) (st_q := [.int (i32 (p)), rv (me)]) rfl (jl_iloadn g2) ?_
  refine cx_vi (c := 0) (a := me) (st := []) (as := [.int (i32 (p))]) rfl rfl rfl o_me t_me (by decide) rfl ⟨rfl, rfl, (Nat.le_of_ble_eq_true rfl)⟩ rfl (k_LY_coreOf (dd := d) (R := R) (m := m) (tg := tg) (ln := ln) (F := F) (me := me) (p := p) (hd := by omega) (hC := hC) (o_me := o_me) (t_me := t_me) (h_p := by omega) (c_NP := c_NP) (kk := kk) (c_SB := c_SB) (c_T3 := c_T3)) (fun o V_q hq => ?_)
  obtain ⟨m4, tg4, ln4, F5, r6, rfl, rfl, hx7, hC8, hM9, b10, p11, p12, c13, c14, c15, -⟩ | ⟨m16, tg16, ln16, F16, x16, rfl, rfl, hx16, hC16, hM16, ho16, ht16, p17, p18, c19, c20, c21, -⟩ := hq
  rotate_left
  · rcases ht16 with ht16 | ht16
    ·
      refine Or.inr (Or.inr (Or.inr ⟨_, _, rfl, cx_exc (c := 15) ho16 ht16 (by decide), rfl, ?_⟩))
      exact Or.inr ⟨m16, tg16, ln16, F16, x16, rfl, rfl, Ex_t hX0 hx16, hC16, Fq_t (ln := ln) (ln1 := ln) hM0 hX0 hM16 (by decide) (Or.inl rfl), (And.intro ho16 ht16).1, Or.inl ((And.intro ho16 ht16).2), by omega, by omega, c19, SB_m c20 (by omega), c21, trivial⟩
    ·
      refine Or.inr (Or.inr (Or.inr ⟨_, _, rfl, cx_exc (c := 16) ho16 ht16 (by decide), rfl, ?_⟩))
      exact Or.inr ⟨m16, tg16, ln16, F16, x16, rfl, rfl, Ex_t hX0 hx16, hC16, Fq_t (ln := ln) (ln1 := ln) hM0 hX0 hM16 (by decide) (Or.inl rfl), (And.intro ho16 ht16).1, Or.inr (Or.inl ((And.intro ho16 ht16).2)), by omega, by omega, c19, SB_m c20 (by omega), c21, trivial⟩
  have hM22 : Fq 0 [] m tg F F5 := Fq_t (ln := ln) (ln1 := ln) hM0 hX0 hM9 (by decide) (Or.inl rfl)
  have ho23 : own m4 (me) ∧ tg4 (me) = 1 := Ex_o hx7 ⟨o_me, t_me⟩
  have hX24 := Ex_t hX0 hx7
  refine Or.inr (Or.inl ⟨_, rfl, ?_⟩)
  refine jx_ld (pc_q := 6) (l_q := jSto1 L0 3 (rv (r6))) (st_q := []) rfl (js_rvn (by decide)) ?_
  obtain ⟨L25, eL25⟩ : ∃ q : jL, q = jSto1 L0 3 (rv (r6)) := ⟨_, rfl⟩
  rw [← eL25]
  have g26 : jGet L25 0 = some (rv (me)) := eL25 ▸ jg_nr (by decide) g1
  have g27 : jGet L25 1 = some (.int (i32 (p))) := eL25 ▸ jg_ne (by decide) g2 rfl
  have g28 : jGet L25 2 = some (.int (i32 (wh))) := eL25 ▸ jg_ne (by decide) g3 rfl
  have g29 : jGet L25 3 = some (rv (r6)) := eL25 ▸ jg_eq
  clear eL25
  refine jx_ld (pc_q := 7) (l_q := L25) (st_q := [.int (i32 (wh))]) rfl (jl_iloadn g28) ?_
  refine jx_if_lt (pc_q := 10) (tg := 16) rfl rfl rfl (by omega) (by omega) (fun h30 => ?_) (fun h30 => ?_)
  · have _q := h30
    refine cx_thr2 (c := 13) rfl rfl rfl rfl ⟨by decide, by decide, (Nat.le_of_ble_eq_true rfl), rfl, rfl, rfl⟩ rfl rfl hC8 (fun x31 m31 tg31 ln31 F31 en31 em31 ho31 hx31 hC31 hf31 hs31 => ?_)
    have ex31 : 64 + (m : Int) ≤ (x31 : Int) := by have := hX24.1; omega
    have c32 : SB m31 tg31 F31 ((kk)) := SB_n c14 hC8.1 hx31 en31 em31 hf31 ho31.2 (Or.inl (by decide))
    have c33 : T3 m31 tg31 := T3_n c15 hC8.1 hx31 en31 em31 ho31.2 (by decide)
    have c34 : NP m31 tg31 F31 := NP_nn hC8 c13 hx31 en31 em31 (fun b i ob => hf31 b i (ne_n ob en31)) (fun w => absurd (ho31.2.symm.trans w) (by decide)) (fun w => absurd (ho31.2.symm.trans w) (by decide)) (fun w => absurd (ho31.2.symm.trans w) (by decide))
    have lm35 := hx31.1
    exact Or.inr ⟨m31, tg31, ln31, F31, x31, rfl, rfl, Ex_t hX24 hx31, hC31, Fq_n hM22 hf31 ex31, ho31.1, Or.inr (Or.inr (ho31.2)), by omega, by omega, c34, SB_m c32 (by omega), c33, trivial⟩
  · have _q := h30
    refine jx_ld (pc_q := 11) (l_q := L25) (st_q := [.int (i32 (wh))]) rfl (jl_iloadn g28) ?_
    refine jx_ar (pc_q := 13) (st_q := [.int (i32 (12)), .int (i32 (wh))]) rfl rfl rfl rfl ?_
    refine jx_icmp_le (pc_q := 16) (tg := 26) rfl rfl rfl (by omega) (by omega) (by decide) (by decide) (fun h36 => ?_) (fun h36 => ?_)
    · have _q := h36
      refine jx_ld (pc_q := 27) (l_q := L25) (st_q := [.int (i32 (wh))]) rfl (jl_iloadn g28) ?_
      refine jx_ar (pc_q := 28) (st_q := [.int (i32 (5)), .int (i32 (wh))]) rfl rfl rfl rfl ?_
      refine jx_icmp_le (pc_q := 31) (tg := 37) rfl rfl rfl (by omega) (by omega) (by decide) (by decide) (fun h37 => ?_) (fun h37 => ?_)
      · have _q := h37
        refine jx_ld (pc_q := 38) (l_q := L25) (st_q := [rv (r6)]) rfl (jl_rvn g29) ?_
        refine jx_ld (pc_q := 39) (l_q := L25) (st_q := [.int (i32 (wh)), rv (r6)]) rfl (jl_iloadn g28) ?_
        refine cx_vi (c := 2) (a := r6) (st := []) (as := [.int (i32 (wh))]) rfl rfl rfl b10.1 b10.2 (by decide) rfl ⟨rfl, rfl, (Nat.le_of_ble_eq_true rfl)⟩ rfl (k_LCore_register (dd := d) (R := R) (m := m4) (tg := tg4) (ln := ln4) (F := F5) (me := r6) (a0 := wh) (hd := by omega) (hC := hC8) (o_me := b10.1) (t_me := b10.2) (h_a0 := by omega)) (fun o V_q hq => ?_)
        obtain ⟨r38, rfl, rfl, b39, -⟩ := hq
        refine Or.inr (Or.inl ⟨_, rfl, ?_⟩)
        refine jx_go (tg := 50) rfl rfl ?_
        refine jx_rt (v := some (.int (i32 (r38)))) rfl rfl rfl rfl rfl rfl ?_
        exact Or.inl ⟨m4, tg4, ln4, F5, (r38), rfl, rfl, hX24, hC8, hM22, by omega, by omega, by omega, c13, SB_m c14 (by omega), c15, trivial⟩
      · have _q := h37
        refine jx_ld (pc_q := 32) (l_q := L25) (st_q := [.int (i32 (wh))]) rfl (jl_iloadn g28) ?_
        refine jx_ar (pc_q := 34) (st_q := [.int (i32 (12)), .int (i32 (wh))]) rfl rfl rfl rfl ?_
        refine jx_icmp_ne (pc_q := 37) (tg := 45) rfl rfl rfl (by omega) (by omega) (by decide) (by decide) (fun h40 => ?_) (fun h40 => ?_)
        · have _q := h40
          refine jx_ld (pc_q := 46) (l_q := L25) (st_q := [rv (r6)]) rfl (jl_rvn g29) ?_
          refine jx_ld (pc_q := 47) (l_q := L25) (st_q := [.int (i32 (wh)), rv (r6)]) rfl (jl_iloadn g28) ?_
          refine cx_vi (c := 2) (a := r6) (st := []) (as := [.int (i32 (wh))]) rfl rfl rfl b10.1 b10.2 (by decide) rfl ⟨rfl, rfl, (Nat.le_of_ble_eq_true rfl)⟩ rfl (k_LCore_state (dd := d) (R := R) (m := m4) (tg := tg4) (ln := ln4) (F := F5) (me := r6) (a0 := wh) (hd := by omega) (hC := hC8) (o_me := b10.1) (t_me := b10.2) (h_a0 := by omega)) (fun o V_q hq => ?_)
          obtain ⟨r41, rfl, rfl, b42, -⟩ := hq
          refine Or.inr (Or.inl ⟨_, rfl, ?_⟩)
          refine jx_rt (v := some (.int (i32 (r41)))) rfl rfl rfl rfl rfl rfl ?_
          exact Or.inl ⟨m4, tg4, ln4, F5, (r41), rfl, rfl, hX24, hC8, hM22, by omega, by omega, by omega, c13, SB_m c14 (by omega), c15, trivial⟩
        · have _q := h40
          refine jx_ld (pc_q := 38) (l_q := L25) (st_q := [rv (r6)]) rfl (jl_rvn g29) ?_
          refine jx_ld (pc_q := 39) (l_q := L25) (st_q := [.int (i32 (wh)), rv (r6)]) rfl (jl_iloadn g28) ?_
          refine cx_vi (c := 2) (a := r6) (st := []) (as := [.int (i32 (wh))]) rfl rfl rfl b10.1 b10.2 (by decide) rfl ⟨rfl, rfl, (Nat.le_of_ble_eq_true rfl)⟩ rfl (k_LCore_register (dd := d) (R := R) (m := m4) (tg := tg4) (ln := ln4) (F := F5) (me := r6) (a0 := wh) (hd := by omega) (hC := hC8) (o_me := b10.1) (t_me := b10.2) (h_a0 := by omega)) (fun o V_q hq => ?_)
          obtain ⟨r43, rfl, rfl, b44, -⟩ := hq
          refine Or.inr (Or.inl ⟨_, rfl, ?_⟩)
          refine jx_go (tg := 50) rfl rfl ?_
          refine jx_rt (v := some (.int (i32 (r43)))) rfl rfl rfl rfl rfl rfl ?_
          exact Or.inl ⟨m4, tg4, ln4, F5, (r43), rfl, rfl, hX24, hC8, hM22, by omega, by omega, by omega, c13, SB_m c14 (by omega), c15, trivial⟩
    · have _q := h36
      refine cx_thr2 (c := 13) rfl rfl rfl rfl ⟨by decide, by decide, (Nat.le_of_ble_eq_true rfl), rfl, rfl, rfl⟩ rfl rfl hC8 (fun x45 m45 tg45 ln45 F45 en45 em45 ho45 hx45 hC45 hf45 hs45 => ?_)
      have ex45 : 64 + (m : Int) ≤ (x45 : Int) := by have := hX24.1; omega
      have c46 : SB m45 tg45 F45 ((kk)) := SB_n c14 hC8.1 hx45 en45 em45 hf45 ho45.2 (Or.inl (by decide))
      have c47 : T3 m45 tg45 := T3_n c15 hC8.1 hx45 en45 em45 ho45.2 (by decide)
      have c48 : NP m45 tg45 F45 := NP_nn hC8 c13 hx45 en45 em45 (fun b i ob => hf45 b i (ne_n ob en45)) (fun w => absurd (ho45.2.symm.trans w) (by decide)) (fun w => absurd (ho45.2.symm.trans w) (by decide)) (fun w => absurd (ho45.2.symm.trans w) (by decide))
      have lm49 := hx45.1
      exact Or.inr ⟨m45, tg45, ln45, F45, x45, rfl, rfl, Ex_t hX24 hx45, hC45, Fq_n hM22 hf45 ex45, ho45.1, Or.inr (Or.inr (ho45.2)), by omega, by omega, c48, SB_m c46 (by omega), c47, trivial⟩
set_option maxRecDepth 20000 in
set_option maxHeartbeats 4000000 in
theorem k_LY_ready {X : jX} {dd : Nat} {R : Nat → jC} {m : Nat} {tg ln : Int → Int} {F : Int → Int → Int} {kk : Int} {me p i : Int} (hd : 3 ≤ dd) (hC : HC 0 m tg ln F) (o_me : own m me) (t_me : tg me = 1) (h_p : (-2147483648 : Int) ≤ p ∧ p ≤ 2147483647) (h_i : (-2147483648 : Int) ≤ i ∧ i ≤ 2147483647) (c_NP : NP m tg F) (c_SB : SB m tg F (kk)) (c_T3 : T3 m tg) : wk X dd 35 [rv me, .int (i32 p), .int (i32 i)] (cV R m tg ln F) (fun o V_q => (∃ (m_q : Nat) (tg_q ln_q : Int → Int) (F_q : Int → Int → Int) (r : Int), V_q = cV R m_q tg_q ln_q F_q ∧ o = .inl (some (.int (i32 r))) ∧ Ex m tg ln m_q tg_q ln_q ∧ HC 0 m_q tg_q ln_q F_q ∧ Fq 0 [] m tg F F_q ∧ (-2147483648 ≤ r ∧ r ≤ 2147483647) ∧ (szD m_q tg_q ln_q = szD m tg ln) ∧ ((m_q : Int) = (m : Int)) ∧ (NP m_q tg_q F_q) ∧ (SB m_q tg_q F_q (kk)) ∧ (T3 m_q tg_q) ∧ True) ∨ (∃ (m_q : Nat) (tg_q ln_q : Int → Int) (F_q : Int → Int → Int) (x : Nat), V_q = cV R m_q tg_q ln_q F_q ∧ o = .inr x ∧ Ex m tg ln m_q tg_q ln_q ∧ HC 0 m_q tg_q ln_q F_q ∧ Fq 0 [] m tg F F_q ∧ (own m_q (x : Int)) ∧ (tg_q (x : Int) = 16 ∨ tg_q (x : Int) = 17 ∨ tg_q (x : Int) = 18) ∧ (szD m_q tg_q ln_q = szD m tg ln + 25) ∧ ((m_q : Int) = (m : Int) + 1) ∧ (NP m_q tg_q F_q) ∧ (SB m_q tg_q F_q (kk)) ∧ (T3 m_q tg_q) ∧ True)) := by
  obtain ⟨d, rfl⟩ : ∃ d, dd = d + 1 := ⟨dd - 1, by omega⟩
  refine wk_of (e := jm35) rfl (by rw [jS_r, jS_i, jS_i, jS_0]; exact Nat.le_of_ble_eq_true rfl) ?_
  rw [la_r, la_i, la_i, la_0]
  show wj X d jm35 (0, [(0, rv (me)), (1, .int (i32 (p))), (2, .int (i32 (i)))], [], cV R m tg ln F) _
  have hM0 : Fq 0 [] m tg F F := Fq_r
  have hX0 : Ex m tg ln m tg ln := Ex_r
  obtain ⟨L0, eL0⟩ : ∃ q : jL, q = [(0, rv (me)), (1, .int (i32 (p))), (2, .int (i32 (i)))] := ⟨_, rfl⟩
  rw [← eL0]
  have g1 : jGet L0 0 = some (rv (me)) := eL0 ▸ (rfl : jGet [(0, rv (me)), (1, .int (i32 (p))), (2, .int (i32 (i)))] 0 = some (rv (me)))
  have g2 : jGet L0 1 = some (.int (i32 (p))) := eL0 ▸ (rfl : jGet [(0, rv (me)), (1, .int (i32 (p))), (2, .int (i32 (i)))] 1 = some (.int (i32 (p))))
  have g3 : jGet L0 2 = some (.int (i32 (i))) := eL0 ▸ (rfl : jGet [(0, rv (me)), (1, .int (i32 (p))), (2, .int (i32 (i)))] 2 = some (.int (i32 (i))))
  clear eL0
  refine jx_ld (pc_q := 1) (l_q := L0) (st_q := [rv (me)]) rfl (jl_rvn g1) ?_
  refine jx_ld (pc_q := 2) (l_q := L0) (st_q := [.int (i32 (p)), rv (me)]) rfl (jl_iloadn g2) ?_
  refine cx_vi (c := 0) (a := me) (st := []) (as := [.int (i32 (p))]) rfl rfl rfl o_me t_me (by decide) rfl ⟨rfl, rfl, (Nat.le_of_ble_eq_true rfl)⟩ rfl (k_LY_coreOf (dd := d) (R := R) (m := m) (tg := tg) (ln := ln) (F := F) (me := me) (p := p) (hd := by omega) (hC := hC) (o_me := o_me) (t_me := t_me) (h_p := by omega) (c_NP := c_NP) (kk := kk) (c_SB := c_SB) (c_T3 := c_T3)) (fun o V_q hq => ?_)
  obtain ⟨m4, tg4, ln4, F5, r6, rfl, rfl, hx7, hC8, hM9, b10, p11, p12, c13, c14, c15, -⟩ | ⟨m16, tg16, ln16, F16, x16, rfl, rfl, hx16, hC16, hM16, ho16, ht16, p17, p18, c19, c20, c21, -⟩ := hq
  rotate_left
  · rcases ht16 with ht16 | ht16
    ·
      refine Or.inr (Or.inr (Or.inr ⟨_, _, rfl, cx_exc (c := 15) ho16 ht16 (by decide), rfl, ?_⟩))
      exact Or.inr ⟨m16, tg16, ln16, F16, x16, rfl, rfl, Ex_t hX0 hx16, hC16, Fq_t (ln := ln) (ln1 := ln) hM0 hX0 hM16 (by decide) (Or.inl rfl), (And.intro ho16 ht16).1, Or.inl ((And.intro ho16 ht16).2), by omega, by omega, c19, SB_m c20 (by omega), c21, trivial⟩
    ·
      refine Or.inr (Or.inr (Or.inr ⟨_, _, rfl, cx_exc (c := 16) ho16 ht16 (by decide), rfl, ?_⟩))
      exact Or.inr ⟨m16, tg16, ln16, F16, x16, rfl, rfl, Ex_t hX0 hx16, hC16, Fq_t (ln := ln) (ln1 := ln) hM0 hX0 hM16 (by decide) (Or.inl rfl), (And.intro ho16 ht16).1, Or.inr (Or.inl ((And.intro ho16 ht16).2)), by omega, by omega, c19, SB_m c20 (by omega), c21, trivial⟩
  have hM22 : Fq 0 [] m tg F F5 := Fq_t (ln := ln) (ln1 := ln) hM0 hX0 hM9 (by decide) (Or.inl rfl)
  have ho23 : own m4 (me) ∧ tg4 (me) = 1 := Ex_o hx7 ⟨o_me, t_me⟩
  have hX24 := Ex_t hX0 hx7
  refine Or.inr (Or.inl ⟨_, rfl, ?_⟩)
  refine jx_ld (pc_q := 6) (l_q := jSto1 L0 3 (rv (r6))) (st_q := []) rfl (js_rvn (by decide)) ?_
  obtain ⟨L25, eL25⟩ : ∃ q : jL, q = jSto1 L0 3 (rv (r6)) := ⟨_, rfl⟩
  rw [← eL25]
  have g26 : jGet L25 0 = some (rv (me)) := eL25 ▸ jg_nr (by decide) g1
  have g27 : jGet L25 1 = some (.int (i32 (p))) := eL25 ▸ jg_ne (by decide) g2 rfl
  have g28 : jGet L25 2 = some (.int (i32 (i))) := eL25 ▸ jg_ne (by decide) g3 rfl
  have g29 : jGet L25 3 = some (rv (r6)) := eL25 ▸ jg_eq
  clear eL25
  refine jx_ld (pc_q := 7) (l_q := L25) (st_q := [.int (i32 (i))]) rfl (jl_iloadn g28) ?_
  refine jx_if_lt (pc_q := 10) (tg := 27) rfl rfl rfl (by omega) (by omega) (fun h30 => ?_) (fun h30 => ?_)
  · have _q := h30
    refine cx_thr2 (c := 17) rfl rfl rfl rfl ⟨by decide, by decide, (Nat.le_of_ble_eq_true rfl), rfl, rfl, rfl⟩ rfl rfl hC8 (fun x31 m31 tg31 ln31 F31 en31 em31 ho31 hx31 hC31 hf31 hs31 => ?_)
    have ex31 : 64 + (m : Int) ≤ (x31 : Int) := by have := hX24.1; omega
    have c32 : SB m31 tg31 F31 ((kk)) := SB_n c14 hC8.1 hx31 en31 em31 hf31 ho31.2 (Or.inl (by decide))
    have c33 : T3 m31 tg31 := T3_n c15 hC8.1 hx31 en31 em31 ho31.2 (by decide)
    have c34 : NP m31 tg31 F31 := NP_nn hC8 c13 hx31 en31 em31 (fun b i ob => hf31 b i (ne_n ob en31)) (fun w => absurd (ho31.2.symm.trans w) (by decide)) (fun w => absurd (ho31.2.symm.trans w) (by decide)) (fun w => absurd (ho31.2.symm.trans w) (by decide))
    have lm35 := hx31.1
    exact Or.inr ⟨m31, tg31, ln31, F31, x31, rfl, rfl, Ex_t hX24 hx31, hC31, Fq_n hM22 hf31 ex31, ho31.1, Or.inr (Or.inr (ho31.2)), by omega, by omega, c34, SB_m c32 (by omega), c33, trivial⟩
  · have _q := h30
    refine jx_ld (pc_q := 11) (l_q := L25) (st_q := [.int (i32 (i))]) rfl (jl_iloadn g28) ?_
    refine jx_ld (pc_q := 12) (l_q := L25) (st_q := [rv (r6), .int (i32 (i))]) rfl (jl_rvn g29) ?_
    refine cx_gi (pc_q := 15) (c := 2) (q := 16) (v := F5 (r6) (16 : Int)) rfl rfl (by decide) (by decide) (Or.inl rfl) rfl b10.1 b10.2 rfl ?_
    have b36 : (-2147483648 : Int) ≤ F5 (r6) (16 : Int) ∧ F5 (r6) (16 : Int) ≤ 2147483647 := by have z := HC_i (c := 2) (q := 16) hC8 b10.1 b10.2 (by decide) rfl; rw [show F5 (r6) ((16 : Nat) : Int) = F5 (r6) (16 : Int) from rfl] at z; exact z
    have x37 := (hC8.2.2.2.2.2 (r6) b10.1 (own_z b10.1)).2 b10.2
    refine jx_icmp_ge (pc_q := 18) (tg := 27) rfl rfl rfl (by omega) (by omega) (by omega) (by omega) (fun h38 => ?_) (fun h38 => ?_)
    · have _q := h38
      refine cx_thr2 (c := 17) rfl rfl rfl rfl ⟨by decide, by decide, (Nat.le_of_ble_eq_true rfl), rfl, rfl, rfl⟩ rfl rfl hC8 (fun x39 m39 tg39 ln39 F39 en39 em39 ho39 hx39 hC39 hf39 hs39 => ?_)
      have ex39 : 64 + (m : Int) ≤ (x39 : Int) := by have := hX24.1; omega
      have c40 : SB m39 tg39 F39 ((kk)) := SB_n c14 hC8.1 hx39 en39 em39 hf39 ho39.2 (Or.inl (by decide))
      have c41 : T3 m39 tg39 := T3_n c15 hC8.1 hx39 en39 em39 ho39.2 (by decide)
      have c42 : NP m39 tg39 F39 := NP_nn hC8 c13 hx39 en39 em39 (fun b i ob => hf39 b i (ne_n ob en39)) (fun w => absurd (ho39.2.symm.trans w) (by decide)) (fun w => absurd (ho39.2.symm.trans w) (by decide)) (fun w => absurd (ho39.2.symm.trans w) (by decide))
      have lm43 := hx39.1
      exact Or.inr ⟨m39, tg39, ln39, F39, x39, rfl, rfl, Ex_t hX24 hx39, hC39, Fq_n hM22 hf39 ex39, ho39.1, Or.inr (Or.inr (ho39.2)), by omega, by omega, c42, SB_m c40 (by omega), c41, trivial⟩
    · have _q := h38
      refine jx_ld (pc_q := 19) (l_q := L25) (st_q := [.int (i32 (i))]) rfl (jl_iloadn g28) ?_
      refine jx_ld (pc_q := 20) (l_q := L25) (st_q := [rv (r6), .int (i32 (i))]) rfl (jl_rvn g29) ?_
      refine cx_gr (pc_q := 23) (c := 2) (q := 15) (v := F5 (r6) (15 : Int)) rfl rfl (by decide) (by decide) rfl rfl b10.1 b10.2 rfl ?_
      have y44 : own m4 (F5 (r6) (15 : Int)) ∧ tg4 (F5 (r6) (15 : Int)) = 21 ∧ ((0 : Int) ≠ 0 → ln4 (F5 (r6) (15 : Int)) = 0) := by have z := HC_n (c := 2) (q := 15) hC8 b10.1 b10.2 (own_z b10.1) (by decide) rfl; rw [show F5 (r6) ((15 : Nat) : Int) = F5 (r6) (15 : Int) from rfl] at z; exact ⟨z.1, z.2.1, z.2.2.1⟩
      have b45 := HC_l hC8 y44.1 y44.2.1 (by decide)
      refine cx_len (pc_q := 24) rfl rfl y44.1 (by rw [y44.2.1]; decide) (by omega) ?_
      refine jx_icmp_lt (pc_q := 27) (tg := 37) rfl rfl rfl (by omega) (by omega) (by omega) (by omega) (fun h46 => ?_) (fun h46 => ?_)
      · have _q := h46
        refine jx_ld (pc_q := 38) (l_q := L25) (st_q := [rv (r6)]) rfl (jl_rvn g29) ?_
        refine cx_gr (pc_q := 41) (c := 2) (q := 15) (v := F5 (r6) (15 : Int)) rfl rfl (by decide) (by decide) rfl rfl b10.1 b10.2 rfl ?_
        refine jx_ld (pc_q := 42) (l_q := L25) (st_q := [.int (i32 (i)), rv (F5 (r6) (15 : Int))]) rfl (jl_iloadn g28) ?_
        refine cx_ial (pc_q := 43) (z := i) rfl rfl y44.1 y44.2.1 (by omega) (by omega) (by omega) ?_
        have b47 : (-2147483648 : Int) ≤ F5 (F5 (r6) (15 : Int)) (i) ∧ F5 (F5 (r6) (15 : Int)) (i) ≤ 2147483647 := by have z := HC_ei (j := i) hC8 y44.1 (by rw [y44.2.1]; decide) (by omega); exact z
        refine jx_rt (v := some (.int (i32 (F5 (F5 (r6) (15 : Int)) (i))))) rfl rfl rfl rfl rfl rfl ?_
        exact Or.inl ⟨m4, tg4, ln4, F5, (F5 (F5 (r6) (15 : Int)) (i)), rfl, rfl, hX24, hC8, hM22, by omega, by omega, by omega, c13, SB_m c14 (by omega), c15, trivial⟩
      · have _q := h46
        refine cx_thr2 (c := 17) rfl rfl rfl rfl ⟨by decide, by decide, (Nat.le_of_ble_eq_true rfl), rfl, rfl, rfl⟩ rfl rfl hC8 (fun x48 m48 tg48 ln48 F48 en48 em48 ho48 hx48 hC48 hf48 hs48 => ?_)
        have ex48 : 64 + (m : Int) ≤ (x48 : Int) := by have := hX24.1; omega
        have c49 : SB m48 tg48 F48 ((kk)) := SB_n c14 hC8.1 hx48 en48 em48 hf48 ho48.2 (Or.inl (by decide))
        have c50 : T3 m48 tg48 := T3_n c15 hC8.1 hx48 en48 em48 ho48.2 (by decide)
        have c51 : NP m48 tg48 F48 := NP_nn hC8 c13 hx48 en48 em48 (fun b i ob => hf48 b i (ne_n ob en48)) (fun w => absurd (ho48.2.symm.trans w) (by decide)) (fun w => absurd (ho48.2.symm.trans w) (by decide)) (fun w => absurd (ho48.2.symm.trans w) (by decide))
        have lm52 := hx48.1
        exact Or.inr ⟨m48, tg48, ln48, F48, x48, rfl, rfl, Ex_t hX24 hx48, hC48, Fq_n hM22 hf48 ex48, ho48.1, Or.inr (Or.inr (ho48.2)), by omega, by omega, c51, SB_m c49 (by omega), c50, trivial⟩
set_option maxRecDepth 20000 in
set_option maxHeartbeats 4000000 in
theorem k_LY_word {X : jX} {dd : Nat} {R : Nat → jC} {m : Nat} {tg ln : Int → Int} {F : Int → Int → Int} {kk : Int} {me p ad : Int} (hd : 3 ≤ dd) (hC : HC 0 m tg ln F) (o_me : own m me) (t_me : tg me = 1) (h_p : (-2147483648 : Int) ≤ p ∧ p ≤ 2147483647) (h_ad : (-2147483648 : Int) ≤ ad ∧ ad ≤ 2147483647) (c_NP : NP m tg F) (c_SB : SB m tg F (kk)) (c_T3 : T3 m tg) : wk X dd 36 [rv me, .int (i32 p), .int (i32 ad)] (cV R m tg ln F) (fun o V_q => (∃ (m_q : Nat) (tg_q ln_q : Int → Int) (F_q : Int → Int → Int) (r : Int), V_q = cV R m_q tg_q ln_q F_q ∧ o = .inl (some (.int (i32 r))) ∧ Ex m tg ln m_q tg_q ln_q ∧ HC 0 m_q tg_q ln_q F_q ∧ Fq 0 [] m tg F F_q ∧ (-2147483648 ≤ r ∧ r ≤ 2147483647) ∧ (szD m_q tg_q ln_q = szD m tg ln) ∧ ((m_q : Int) = (m : Int)) ∧ (NP m_q tg_q F_q) ∧ (SB m_q tg_q F_q (kk)) ∧ (T3 m_q tg_q) ∧ True) ∨ (∃ (m_q : Nat) (tg_q ln_q : Int → Int) (F_q : Int → Int → Int) (x : Nat), V_q = cV R m_q tg_q ln_q F_q ∧ o = .inr x ∧ Ex m tg ln m_q tg_q ln_q ∧ HC 0 m_q tg_q ln_q F_q ∧ Fq 0 [] m tg F F_q ∧ (own m_q (x : Int)) ∧ (tg_q (x : Int) = 16 ∨ tg_q (x : Int) = 17 ∨ tg_q (x : Int) = 18) ∧ (szD m_q tg_q ln_q = szD m tg ln + 25) ∧ ((m_q : Int) = (m : Int) + 1) ∧ (NP m_q tg_q F_q) ∧ (SB m_q tg_q F_q (kk)) ∧ (T3 m_q tg_q) ∧ True)) := by
  obtain ⟨d, rfl⟩ : ∃ d, dd = d + 1 := ⟨dd - 1, by omega⟩
  refine wk_of (e := jm36) rfl (by rw [jS_r, jS_i, jS_i, jS_0]; exact Nat.le_of_ble_eq_true rfl) ?_
  rw [la_r, la_i, la_i, la_0]
  show wj X d jm36 (0, [(0, rv (me)), (1, .int (i32 (p))), (2, .int (i32 (ad)))], [], cV R m tg ln F) _
  have hM0 : Fq 0 [] m tg F F := Fq_r
  have hX0 : Ex m tg ln m tg ln := Ex_r
  obtain ⟨L0, eL0⟩ : ∃ q : jL, q = [(0, rv (me)), (1, .int (i32 (p))), (2, .int (i32 (ad)))] := ⟨_, rfl⟩
  rw [← eL0]
  have g1 : jGet L0 0 = some (rv (me)) := eL0 ▸ (rfl : jGet [(0, rv (me)), (1, .int (i32 (p))), (2, .int (i32 (ad)))] 0 = some (rv (me)))
  have g2 : jGet L0 1 = some (.int (i32 (p))) := eL0 ▸ (rfl : jGet [(0, rv (me)), (1, .int (i32 (p))), (2, .int (i32 (ad)))] 1 = some (.int (i32 (p))))
  have g3 : jGet L0 2 = some (.int (i32 (ad))) := eL0 ▸ (rfl : jGet [(0, rv (me)), (1, .int (i32 (p))), (2, .int (i32 (ad)))] 2 = some (.int (i32 (ad))))
  clear eL0
  refine jx_ld (pc_q := 1) (l_q := L0) (st_q := [rv (me)]) rfl (jl_rvn g1) ?_
  refine jx_ld (pc_q := 2) (l_q := L0) (st_q := [.int (i32 (p)), rv (me)]) rfl (jl_iloadn g2) ?_
  refine cx_vi (c := 0) (a := me) (st := []) (as := [.int (i32 (p))]) rfl rfl rfl o_me t_me (by decide) rfl ⟨rfl, rfl, (Nat.le_of_ble_eq_true rfl)⟩ rfl (k_LY_coreOf (dd := d) (R := R) (m := m) (tg := tg) (ln := ln) (F := F) (me := me) (p := p) (hd := by omega) (hC := hC) (o_me := o_me) (t_me := t_me) (h_p := by omega) (c_NP := c_NP) (kk := kk) (c_SB := c_SB) (c_T3 := c_T3)) (fun o V_q hq => ?_)
  obtain ⟨m4, tg4, ln4, F5, r6, rfl, rfl, hx7, hC8, hM9, b10, p11, p12, c13, c14, c15, -⟩ | ⟨m16, tg16, ln16, F16, x16, rfl, rfl, hx16, hC16, hM16, ho16, ht16, p17, p18, c19, c20, c21, -⟩ := hq
  rotate_left
  · rcases ht16 with ht16 | ht16
    ·
      refine Or.inr (Or.inr (Or.inr ⟨_, _, rfl, cx_exc (c := 15) ho16 ht16 (by decide), rfl, ?_⟩))
      exact Or.inr ⟨m16, tg16, ln16, F16, x16, rfl, rfl, Ex_t hX0 hx16, hC16, Fq_t (ln := ln) (ln1 := ln) hM0 hX0 hM16 (by decide) (Or.inl rfl), (And.intro ho16 ht16).1, Or.inl ((And.intro ho16 ht16).2), by omega, by omega, c19, SB_m c20 (by omega), c21, trivial⟩
    ·
      refine Or.inr (Or.inr (Or.inr ⟨_, _, rfl, cx_exc (c := 16) ho16 ht16 (by decide), rfl, ?_⟩))
      exact Or.inr ⟨m16, tg16, ln16, F16, x16, rfl, rfl, Ex_t hX0 hx16, hC16, Fq_t (ln := ln) (ln1 := ln) hM0 hX0 hM16 (by decide) (Or.inl rfl), (And.intro ho16 ht16).1, Or.inr (Or.inl ((And.intro ho16 ht16).2)), by omega, by omega, c19, SB_m c20 (by omega), c21, trivial⟩
  have hM22 : Fq 0 [] m tg F F5 := Fq_t (ln := ln) (ln1 := ln) hM0 hX0 hM9 (by decide) (Or.inl rfl)
  have ho23 : own m4 (me) ∧ tg4 (me) = 1 := Ex_o hx7 ⟨o_me, t_me⟩
  have hX24 := Ex_t hX0 hx7
  refine Or.inr (Or.inl ⟨_, rfl, ?_⟩)
  refine jx_ld (pc_q := 6) (l_q := jSto1 L0 3 (rv (r6))) (st_q := []) rfl (js_rvn (by decide)) ?_
  obtain ⟨L25, eL25⟩ : ∃ q : jL, q = jSto1 L0 3 (rv (r6)) := ⟨_, rfl⟩
  rw [← eL25]
  have g26 : jGet L25 0 = some (rv (me)) := eL25 ▸ jg_nr (by decide) g1
  have g27 : jGet L25 1 = some (.int (i32 (p))) := eL25 ▸ jg_ne (by decide) g2 rfl
  have g28 : jGet L25 2 = some (.int (i32 (ad))) := eL25 ▸ jg_ne (by decide) g3 rfl
  have g29 : jGet L25 3 = some (rv (r6)) := eL25 ▸ jg_eq
  clear eL25
  refine jx_ld (pc_q := 7) (l_q := L25) (st_q := [.int (i32 (ad))]) rfl (jl_iloadn g28) ?_
  refine jx_if_lt (pc_q := 10) (tg := 19) rfl rfl rfl (by omega) (by omega) (fun h30 => ?_) (fun h30 => ?_)
  · have _q := h30
    refine cx_thr2 (c := 17) rfl rfl rfl rfl ⟨by decide, by decide, (Nat.le_of_ble_eq_true rfl), rfl, rfl, rfl⟩ rfl rfl hC8 (fun x31 m31 tg31 ln31 F31 en31 em31 ho31 hx31 hC31 hf31 hs31 => ?_)
    have ex31 : 64 + (m : Int) ≤ (x31 : Int) := by have := hX24.1; omega
    have c32 : SB m31 tg31 F31 ((kk)) := SB_n c14 hC8.1 hx31 en31 em31 hf31 ho31.2 (Or.inl (by decide))
    have c33 : T3 m31 tg31 := T3_n c15 hC8.1 hx31 en31 em31 ho31.2 (by decide)
    have c34 : NP m31 tg31 F31 := NP_nn hC8 c13 hx31 en31 em31 (fun b i ob => hf31 b i (ne_n ob en31)) (fun w => absurd (ho31.2.symm.trans w) (by decide)) (fun w => absurd (ho31.2.symm.trans w) (by decide)) (fun w => absurd (ho31.2.symm.trans w) (by decide))
    have lm35 := hx31.1
    exact Or.inr ⟨m31, tg31, ln31, F31, x31, rfl, rfl, Ex_t hX24 hx31, hC31, Fq_n hM22 hf31 ex31, ho31.1, Or.inr (Or.inr (ho31.2)), by omega, by omega, c34, SB_m c32 (by omega), c33, trivial⟩
  · have _q := h30
    refine jx_ld (pc_q := 11) (l_q := L25) (st_q := [.int (i32 (ad))]) rfl (jl_iloadn g28) ?_
    refine jx_ld (pc_q := 12) (l_q := L25) (st_q := [rv (r6), .int (i32 (ad))]) rfl (jl_rvn g29) ?_
    refine cx_gr (pc_q := 15) (c := 2) (q := 4) (v := F5 (r6) (4 : Int)) rfl rfl (by decide) (by decide) rfl rfl b10.1 b10.2 rfl ?_
    have y36 : own m4 (F5 (r6) (4 : Int)) ∧ tg4 (F5 (r6) (4 : Int)) = 21 ∧ ((0 : Int) ≠ 0 → ln4 (F5 (r6) (4 : Int)) = 0) := by have z := HC_n (c := 2) (q := 4) hC8 b10.1 b10.2 (own_z b10.1) (by decide) rfl; rw [show F5 (r6) ((4 : Nat) : Int) = F5 (r6) (4 : Int) from rfl] at z; exact ⟨z.1, z.2.1, z.2.2.1⟩
    have b37 := HC_l hC8 y36.1 y36.2.1 (by decide)
    refine cx_len (pc_q := 16) rfl rfl y36.1 (by rw [y36.2.1]; decide) (by omega) ?_
    refine jx_icmp_lt (pc_q := 19) (tg := 29) rfl rfl rfl (by omega) (by omega) (by omega) (by omega) (fun h38 => ?_) (fun h38 => ?_)
    · have _q := h38
      refine jx_ld (pc_q := 30) (l_q := L25) (st_q := [rv (r6)]) rfl (jl_rvn g29) ?_
      refine cx_gr (pc_q := 33) (c := 2) (q := 4) (v := F5 (r6) (4 : Int)) rfl rfl (by decide) (by decide) rfl rfl b10.1 b10.2 rfl ?_
      refine jx_ld (pc_q := 34) (l_q := L25) (st_q := [.int (i32 (ad)), rv (F5 (r6) (4 : Int))]) rfl (jl_iloadn g28) ?_
      refine cx_ial (pc_q := 35) (z := ad) rfl rfl y36.1 y36.2.1 (by omega) (by omega) (by omega) ?_
      have b39 : (-2147483648 : Int) ≤ F5 (F5 (r6) (4 : Int)) (ad) ∧ F5 (F5 (r6) (4 : Int)) (ad) ≤ 2147483647 := by have z := HC_ei (j := ad) hC8 y36.1 (by rw [y36.2.1]; decide) (by omega); exact z
      refine jx_rt (v := some (.int (i32 (F5 (F5 (r6) (4 : Int)) (ad))))) rfl rfl rfl rfl rfl rfl ?_
      exact Or.inl ⟨m4, tg4, ln4, F5, (F5 (F5 (r6) (4 : Int)) (ad)), rfl, rfl, hX24, hC8, hM22, by omega, by omega, by omega, c13, SB_m c14 (by omega), c15, trivial⟩
    · have _q := h38
      refine cx_thr2 (c := 17) rfl rfl rfl rfl ⟨by decide, by decide, (Nat.le_of_ble_eq_true rfl), rfl, rfl, rfl⟩ rfl rfl hC8 (fun x40 m40 tg40 ln40 F40 en40 em40 ho40 hx40 hC40 hf40 hs40 => ?_)
      have ex40 : 64 + (m : Int) ≤ (x40 : Int) := by have := hX24.1; omega
      have c41 : SB m40 tg40 F40 ((kk)) := SB_n c14 hC8.1 hx40 en40 em40 hf40 ho40.2 (Or.inl (by decide))
      have c42 : T3 m40 tg40 := T3_n c15 hC8.1 hx40 en40 em40 ho40.2 (by decide)
      have c43 : NP m40 tg40 F40 := NP_nn hC8 c13 hx40 en40 em40 (fun b i ob => hf40 b i (ne_n ob en40)) (fun w => absurd (ho40.2.symm.trans w) (by decide)) (fun w => absurd (ho40.2.symm.trans w) (by decide)) (fun w => absurd (ho40.2.symm.trans w) (by decide))
      have lm44 := hx40.1
      exact Or.inr ⟨m40, tg40, ln40, F40, x40, rfl, rfl, Ex_t hX24 hx40, hC40, Fq_n hM22 hf40 ex40, ho40.1, Or.inr (Or.inr (ho40.2)), by omega, by omega, c43, SB_m c41 (by omega), c42, trivial⟩
set_option maxRecDepth 20000 in
set_option maxHeartbeats 4000000 in
theorem k_LY_output {X : jX} {dd : Nat} {R : Nat → jC} {m : Nat} {tg ln : Int → Int} {F : Int → Int → Int} {kk : Int} {me i : Int} (hd : 2 ≤ dd) (hC : HC 0 m tg ln F) (o_me : own m me) (t_me : tg me = 1) (h_i : (-2147483648 : Int) ≤ i ∧ i ≤ 2147483647) (c_NP : NP m tg F) (c_SB : SB m tg F (kk)) (c_T3 : T3 m tg) : wk X dd 37 [rv me, .int (i32 i)] (cV R m tg ln F) (fun o V_q => (∃ (m_q : Nat) (tg_q ln_q : Int → Int) (F_q : Int → Int → Int) (r : Int), V_q = cV R m_q tg_q ln_q F_q ∧ o = .inl (some (.int (i32 r))) ∧ Ex m tg ln m_q tg_q ln_q ∧ HC 0 m_q tg_q ln_q F_q ∧ Fq 0 [] m tg F F_q ∧ (-2147483648 ≤ r ∧ r ≤ 2147483647) ∧ (szD m_q tg_q ln_q = szD m tg ln) ∧ ((m_q : Int) = (m : Int)) ∧ (NP m_q tg_q F_q) ∧ (SB m_q tg_q F_q (kk)) ∧ (T3 m_q tg_q) ∧ True) ∨ (∃ (m_q : Nat) (tg_q ln_q : Int → Int) (F_q : Int → Int → Int) (x : Nat), V_q = cV R m_q tg_q ln_q F_q ∧ o = .inr x ∧ Ex m tg ln m_q tg_q ln_q ∧ HC 0 m_q tg_q ln_q F_q ∧ Fq 0 [] m tg F F_q ∧ (own m_q (x : Int)) ∧ (tg_q (x : Int) = 16 ∨ tg_q (x : Int) = 18) ∧ (szD m_q tg_q ln_q = szD m tg ln + 25) ∧ ((m_q : Int) = (m : Int) + 1) ∧ (NP m_q tg_q F_q) ∧ (SB m_q tg_q F_q (kk)) ∧ (T3 m_q tg_q) ∧ True)) := by
  obtain ⟨d, rfl⟩ : ∃ d, dd = d + 1 := ⟨dd - 1, by omega⟩
  refine wk_of (e := jm37) rfl (by rw [jS_r, jS_i, jS_0]; exact Nat.le_of_ble_eq_true rfl) ?_
  rw [la_r, la_i, la_0]
  show wj X d jm37 (0, [(0, rv (me)), (1, .int (i32 (i)))], [], cV R m tg ln F) _
  have hM0 : Fq 0 [] m tg F F := Fq_r
  have hX0 : Ex m tg ln m tg ln := Ex_r
  obtain ⟨L0, eL0⟩ : ∃ q : jL, q = [(0, rv (me)), (1, .int (i32 (i)))] := ⟨_, rfl⟩
  rw [← eL0]
  have g1 : jGet L0 0 = some (rv (me)) := eL0 ▸ (rfl : jGet [(0, rv (me)), (1, .int (i32 (i)))] 0 = some (rv (me)))
  have g2 : jGet L0 1 = some (.int (i32 (i))) := eL0 ▸ (rfl : jGet [(0, rv (me)), (1, .int (i32 (i)))] 1 = some (.int (i32 (i))))
  clear eL0
  refine jx_ld (pc_q := 1) (l_q := L0) (st_q := [rv (me)]) rfl (jl_rvn g1) ?_
  refine cx_vi (c := 0) (a := me) (st := []) (as := []) rfl rfl rfl o_me t_me (by decide) rfl ⟨rfl, rfl, (Nat.le_of_ble_eq_true rfl)⟩ rfl (k_LY_loaded (dd := d) (R := R) (m := m) (tg := tg) (ln := ln) (F := F) (me := me) (hd := by omega) (hC := hC) (o_me := o_me) (t_me := t_me) (c_NP := c_NP) (kk := kk) (c_SB := c_SB) (c_T3 := c_T3)) (fun o V_q hq => ?_)
  obtain ⟨m3, tg3, ln3, F4, r5, rfl, rfl, hx6, hC7, hM8, b9, p10, p11, c12, c13, c14, -⟩ | ⟨m15, tg15, ln15, F15, x15, rfl, rfl, hx15, hC15, hM15, ho15, ht15, p16, p17, c18, c19, c20, -⟩ := hq
  rotate_left
  ·
    refine Or.inr (Or.inr (Or.inr ⟨_, _, rfl, cx_exc (c := 15) ho15 ht15 (by decide), rfl, ?_⟩))
    exact Or.inr ⟨m15, tg15, ln15, F15, x15, rfl, rfl, Ex_t hX0 hx15, hC15, Fq_t (ln := ln) (ln1 := ln) hM0 hX0 hM15 (by decide) (Or.inl rfl), (And.intro ho15 ht15).1, Or.inl ((And.intro ho15 ht15).2), by omega, by omega, c18, SB_m c19 (by omega), c20, trivial⟩
  have hM21 : Fq 0 [] m tg F F4 := Fq_t (ln := ln) (ln1 := ln) hM0 hX0 hM8 (by decide) (Or.inl rfl)
  have ho22 : own m3 (me) ∧ tg3 (me) = 1 := Ex_o hx6 ⟨o_me, t_me⟩
  have hX23 := Ex_t hX0 hx6
  refine Or.inr (Or.inl ⟨_, rfl, ?_⟩)
  refine jx_ld (pc_q := 5) (l_q := jSto1 L0 2 (rv (r5))) (st_q := []) rfl (js_rvn (by decide)) ?_
  obtain ⟨L24, eL24⟩ : ∃ q : jL, q = jSto1 L0 2 (rv (r5)) := ⟨_, rfl⟩
  rw [← eL24]
  have g25 : jGet L24 0 = some (rv (me)) := eL24 ▸ jg_nr (by decide) g1
  have g26 : jGet L24 1 = some (.int (i32 (i))) := eL24 ▸ jg_ne (by decide) g2 rfl
  have g27 : jGet L24 2 = some (rv (r5)) := eL24 ▸ jg_eq
  clear eL24
  refine jx_ld (pc_q := 6) (l_q := L24) (st_q := [.int (i32 (i))]) rfl (jl_iloadn g26) ?_
  refine jx_if_lt (pc_q := 9) (tg := 26) rfl rfl rfl (by omega) (by omega) (fun h28 => ?_) (fun h28 => ?_)
  · have _q := h28
    refine cx_thr2 (c := 17) rfl rfl rfl rfl ⟨by decide, by decide, (Nat.le_of_ble_eq_true rfl), rfl, rfl, rfl⟩ rfl rfl hC7 (fun x29 m29 tg29 ln29 F29 en29 em29 ho29 hx29 hC29 hf29 hs29 => ?_)
    have ex29 : 64 + (m : Int) ≤ (x29 : Int) := by have := hX23.1; omega
    have c30 : SB m29 tg29 F29 ((kk)) := SB_n c13 hC7.1 hx29 en29 em29 hf29 ho29.2 (Or.inl (by decide))
    have c31 : T3 m29 tg29 := T3_n c14 hC7.1 hx29 en29 em29 ho29.2 (by decide)
    have c32 : NP m29 tg29 F29 := NP_nn hC7 c12 hx29 en29 em29 (fun b i ob => hf29 b i (ne_n ob en29)) (fun w => absurd (ho29.2.symm.trans w) (by decide)) (fun w => absurd (ho29.2.symm.trans w) (by decide)) (fun w => absurd (ho29.2.symm.trans w) (by decide))
    have lm33 := hx29.1
    exact Or.inr ⟨m29, tg29, ln29, F29, x29, rfl, rfl, Ex_t hX23 hx29, hC29, Fq_n hM21 hf29 ex29, ho29.1, Or.inr (ho29.2), by omega, by omega, c32, SB_m c30 (by omega), c31, trivial⟩
  · have _q := h28
    refine jx_ld (pc_q := 10) (l_q := L24) (st_q := [.int (i32 (i))]) rfl (jl_iloadn g26) ?_
    refine jx_ld (pc_q := 11) (l_q := L24) (st_q := [rv (r5), .int (i32 (i))]) rfl (jl_rvn g27) ?_
    refine cx_gi (pc_q := 14) (c := 5) (q := 6) (v := F4 (r5) (6 : Int)) rfl rfl (by decide) (by decide) (Or.inl rfl) rfl b9.1 b9.2 rfl ?_
    have b34 : (0 : Int) ≤ F4 (r5) (6 : Int) ∧ F4 (r5) (6 : Int) ≤ 2147483647 := by have z := HC_i (c := 5) (q := 6) hC7 b9.1 b9.2 (by decide) rfl; rw [show F4 (r5) ((6 : Nat) : Int) = F4 (r5) (6 : Int) from rfl] at z; exact z
    refine jx_icmp_ge (pc_q := 17) (tg := 26) rfl rfl rfl (by omega) (by omega) (by omega) (by omega) (fun h35 => ?_) (fun h35 => ?_)
    · have _q := h35
      refine cx_thr2 (c := 17) rfl rfl rfl rfl ⟨by decide, by decide, (Nat.le_of_ble_eq_true rfl), rfl, rfl, rfl⟩ rfl rfl hC7 (fun x36 m36 tg36 ln36 F36 en36 em36 ho36 hx36 hC36 hf36 hs36 => ?_)
      have ex36 : 64 + (m : Int) ≤ (x36 : Int) := by have := hX23.1; omega
      have c37 : SB m36 tg36 F36 ((kk)) := SB_n c13 hC7.1 hx36 en36 em36 hf36 ho36.2 (Or.inl (by decide))
      have c38 : T3 m36 tg36 := T3_n c14 hC7.1 hx36 en36 em36 ho36.2 (by decide)
      have c39 : NP m36 tg36 F36 := NP_nn hC7 c12 hx36 en36 em36 (fun b i ob => hf36 b i (ne_n ob en36)) (fun w => absurd (ho36.2.symm.trans w) (by decide)) (fun w => absurd (ho36.2.symm.trans w) (by decide)) (fun w => absurd (ho36.2.symm.trans w) (by decide))
      have lm40 := hx36.1
      exact Or.inr ⟨m36, tg36, ln36, F36, x36, rfl, rfl, Ex_t hX23 hx36, hC36, Fq_n hM21 hf36 ex36, ho36.1, Or.inr (ho36.2), by omega, by omega, c39, SB_m c37 (by omega), c38, trivial⟩
    · have _q := h35
      refine jx_ld (pc_q := 18) (l_q := L24) (st_q := [.int (i32 (i))]) rfl (jl_iloadn g26) ?_
      refine jx_ld (pc_q := 19) (l_q := L24) (st_q := [rv (r5), .int (i32 (i))]) rfl (jl_rvn g27) ?_
      refine cx_gr (pc_q := 22) (c := 5) (q := 5) (v := F4 (r5) (5 : Int)) rfl rfl (by decide) (by decide) rfl rfl b9.1 b9.2 rfl ?_
      have y41 : own m3 (F4 (r5) (5 : Int)) ∧ tg3 (F4 (r5) (5 : Int)) = 21 ∧ ((1000 : Int) ≠ 0 → ln3 (F4 (r5) (5 : Int)) = 1000) := by have z := HC_n (c := 5) (q := 5) hC7 b9.1 b9.2 (own_z b9.1) (by decide) rfl; rw [show F4 (r5) ((5 : Nat) : Int) = F4 (r5) (5 : Int) from rfl] at z; exact ⟨z.1, z.2.1, z.2.2.1⟩
      have ly41 : ln3 (F4 (r5) (5 : Int)) = 1000 := y41.2.2 (by decide)
      have b42 := HC_l hC7 y41.1 y41.2.1 (by decide)
      refine cx_len (pc_q := 23) rfl rfl y41.1 (by rw [y41.2.1]; decide) (by omega) ?_
      refine jx_icmp_lt (pc_q := 26) (tg := 36) rfl rfl rfl (by omega) (by omega) (by omega) (by omega) (fun h43 => ?_) (fun h43 => ?_)
      · have _q := h43
        refine jx_ld (pc_q := 37) (l_q := L24) (st_q := [rv (r5)]) rfl (jl_rvn g27) ?_
        refine cx_gr (pc_q := 40) (c := 5) (q := 5) (v := F4 (r5) (5 : Int)) rfl rfl (by decide) (by decide) rfl rfl b9.1 b9.2 rfl ?_
        refine jx_ld (pc_q := 41) (l_q := L24) (st_q := [.int (i32 (i)), rv (F4 (r5) (5 : Int))]) rfl (jl_iloadn g26) ?_
        refine cx_ial (pc_q := 42) (z := i) rfl rfl y41.1 y41.2.1 (by omega) (by omega) (by omega) ?_
        have b44 : (-2147483648 : Int) ≤ F4 (F4 (r5) (5 : Int)) (i) ∧ F4 (F4 (r5) (5 : Int)) (i) ≤ 2147483647 := by have z := HC_ei (j := i) hC7 y41.1 (by rw [y41.2.1]; decide) (by omega); exact z
        refine jx_rt (v := some (.int (i32 (F4 (F4 (r5) (5 : Int)) (i))))) rfl rfl rfl rfl rfl rfl ?_
        exact Or.inl ⟨m3, tg3, ln3, F4, (F4 (F4 (r5) (5 : Int)) (i)), rfl, rfl, hX23, hC7, hM21, by omega, by omega, by omega, c12, SB_m c13 (by omega), c14, trivial⟩
      · have _q := h43
        refine cx_thr2 (c := 17) rfl rfl rfl rfl ⟨by decide, by decide, (Nat.le_of_ble_eq_true rfl), rfl, rfl, rfl⟩ rfl rfl hC7 (fun x45 m45 tg45 ln45 F45 en45 em45 ho45 hx45 hC45 hf45 hs45 => ?_)
        have ex45 : 64 + (m : Int) ≤ (x45 : Int) := by have := hX23.1; omega
        have c46 : SB m45 tg45 F45 ((kk)) := SB_n c13 hC7.1 hx45 en45 em45 hf45 ho45.2 (Or.inl (by decide))
        have c47 : T3 m45 tg45 := T3_n c14 hC7.1 hx45 en45 em45 ho45.2 (by decide)
        have c48 : NP m45 tg45 F45 := NP_nn hC7 c12 hx45 en45 em45 (fun b i ob => hf45 b i (ne_n ob en45)) (fun w => absurd (ho45.2.symm.trans w) (by decide)) (fun w => absurd (ho45.2.symm.trans w) (by decide)) (fun w => absurd (ho45.2.symm.trans w) (by decide))
        have lm49 := hx45.1
        exact Or.inr ⟨m45, tg45, ln45, F45, x45, rfl, rfl, Ex_t hX23 hx45, hC45, Fq_n hM21 hf45 ex45, ho45.1, Or.inr (ho45.2), by omega, by omega, c48, SB_m c46 (by omega), c47, trivial⟩
set_option maxRecDepth 20000 in
set_option maxHeartbeats 4000000 in
theorem k_LY_about {X : jX} {dd : Nat} {R : Nat → jC} {m : Nat} {tg ln : Int → Int} {F : Int → Int → Int} {kk : Int} {me wh : Int} (hd : 2 ≤ dd) (hC : HC 0 m tg ln F) (o_me : own m me) (t_me : tg me = 1) (h_wh : (-2147483648 : Int) ≤ wh ∧ wh ≤ 2147483647) (c_NP : NP m tg F) (c_SB : SB m tg F (kk)) (c_T3 : T3 m tg) : wk X dd 38 [rv me, .int (i32 wh)] (cV R m tg ln F) (fun o V_q => (∃ (m_q : Nat) (tg_q ln_q : Int → Int) (F_q : Int → Int → Int) (r : Int), V_q = cV R m_q tg_q ln_q F_q ∧ o = .inl (some (.int (i32 r))) ∧ Ex m tg ln m_q tg_q ln_q ∧ HC 0 m_q tg_q ln_q F_q ∧ Fq 0 [] m tg F F_q ∧ (-2147483648 ≤ r ∧ r ≤ 2147483647) ∧ (szD m_q tg_q ln_q = szD m tg ln) ∧ ((m_q : Int) = (m : Int)) ∧ (NP m_q tg_q F_q) ∧ (SB m_q tg_q F_q (kk)) ∧ (T3 m_q tg_q) ∧ True) ∨ (∃ (m_q : Nat) (tg_q ln_q : Int → Int) (F_q : Int → Int → Int) (x : Nat), V_q = cV R m_q tg_q ln_q F_q ∧ o = .inr x ∧ Ex m tg ln m_q tg_q ln_q ∧ HC 0 m_q tg_q ln_q F_q ∧ Fq 0 [] m tg F F_q ∧ (own m_q (x : Int)) ∧ (tg_q (x : Int) = 16 ∨ tg_q (x : Int) = 14) ∧ (szD m_q tg_q ln_q = szD m tg ln + 25) ∧ ((m_q : Int) = (m : Int) + 1) ∧ (NP m_q tg_q F_q) ∧ (SB m_q tg_q F_q (kk)) ∧ (T3 m_q tg_q) ∧ True)) := by
  obtain ⟨d, rfl⟩ : ∃ d, dd = d + 1 := ⟨dd - 1, by omega⟩
  refine wk_of (e := jm38) rfl (by rw [jS_r, jS_i, jS_0]; exact Nat.le_of_ble_eq_true rfl) ?_
  rw [la_r, la_i, la_0]
  show wj X d jm38 (0, [(0, rv (me)), (1, .int (i32 (wh)))], [], cV R m tg ln F) _
  have hM0 : Fq 0 [] m tg F F := Fq_r
  have hX0 : Ex m tg ln m tg ln := Ex_r
  obtain ⟨L0, eL0⟩ : ∃ q : jL, q = [(0, rv (me)), (1, .int (i32 (wh)))] := ⟨_, rfl⟩
  rw [← eL0]
  have g1 : jGet L0 0 = some (rv (me)) := eL0 ▸ (rfl : jGet [(0, rv (me)), (1, .int (i32 (wh)))] 0 = some (rv (me)))
  have g2 : jGet L0 1 = some (.int (i32 (wh))) := eL0 ▸ (rfl : jGet [(0, rv (me)), (1, .int (i32 (wh)))] 1 = some (.int (i32 (wh))))
  clear eL0
  refine jx_ld (pc_q := 1) (l_q := L0) (st_q := [rv (me)]) rfl (jl_rvn g1) ?_
  refine cx_vi (c := 0) (a := me) (st := []) (as := []) rfl rfl rfl o_me t_me (by decide) rfl ⟨rfl, rfl, (Nat.le_of_ble_eq_true rfl)⟩ rfl (k_LY_loaded (dd := d) (R := R) (m := m) (tg := tg) (ln := ln) (F := F) (me := me) (hd := by omega) (hC := hC) (o_me := o_me) (t_me := t_me) (c_NP := c_NP) (kk := kk) (c_SB := c_SB) (c_T3 := c_T3)) (fun o V_q hq => ?_)
  obtain ⟨m3, tg3, ln3, F4, r5, rfl, rfl, hx6, hC7, hM8, b9, p10, p11, c12, c13, c14, -⟩ | ⟨m15, tg15, ln15, F15, x15, rfl, rfl, hx15, hC15, hM15, ho15, ht15, p16, p17, c18, c19, c20, -⟩ := hq
  rotate_left
  ·
    refine Or.inr (Or.inr (Or.inr ⟨_, _, rfl, cx_exc (c := 15) ho15 ht15 (by decide), rfl, ?_⟩))
    exact Or.inr ⟨m15, tg15, ln15, F15, x15, rfl, rfl, Ex_t hX0 hx15, hC15, Fq_t (ln := ln) (ln1 := ln) hM0 hX0 hM15 (by decide) (Or.inl rfl), (And.intro ho15 ht15).1, Or.inl ((And.intro ho15 ht15).2), by omega, by omega, c18, SB_m c19 (by omega), c20, trivial⟩
  have hM21 : Fq 0 [] m tg F F4 := Fq_t (ln := ln) (ln1 := ln) hM0 hX0 hM8 (by decide) (Or.inl rfl)
  have ho22 : own m3 (me) ∧ tg3 (me) = 1 := Ex_o hx6 ⟨o_me, t_me⟩
  have hX23 := Ex_t hX0 hx6
  refine Or.inr (Or.inl ⟨_, rfl, ?_⟩)
  refine jx_ld (pc_q := 5) (l_q := jSto1 L0 2 (rv (r5))) (st_q := []) rfl (js_rvn (by decide)) ?_
  obtain ⟨L24, eL24⟩ : ∃ q : jL, q = jSto1 L0 2 (rv (r5)) := ⟨_, rfl⟩
  rw [← eL24]
  have g25 : jGet L24 0 = some (rv (me)) := eL24 ▸ jg_nr (by decide) g1
  have g26 : jGet L24 1 = some (.int (i32 (wh))) := eL24 ▸ jg_ne (by decide) g2 rfl
  have g27 : jGet L24 2 = some (rv (r5)) := eL24 ▸ jg_eq
  clear eL24
  refine jx_ld (pc_q := 6) (l_q := L24) (st_q := [.int (i32 (wh))]) rfl (jl_iloadn g26) ?_
  by_cases h28 : wh = 0
  · refine jx_swe (tg := 48) h28 rfl rfl rfl rfl ?_
    refine jx_ld (pc_q := 49) (l_q := L24) (st_q := [rv (r5)]) rfl (jl_rvn g27) ?_
    refine cx_gr (pc_q := 52) (c := 5) (q := 0) (v := F4 (r5) (0 : Int)) rfl rfl (by decide) (by decide) rfl rfl b9.1 b9.2 rfl ?_
    have y29 : own m3 (F4 (r5) (0 : Int)) ∧ tg3 (F4 (r5) (0 : Int)) = 10 ∧ ((0 : Int) ≠ 0 → ln3 (F4 (r5) (0 : Int)) = 0) := by have z := HC_n (c := 5) (q := 0) hC7 b9.1 b9.2 (own_z b9.1) (by decide) rfl; rw [show F4 (r5) ((0 : Nat) : Int) = F4 (r5) (0 : Int) from rfl] at z; exact ⟨z.1, z.2.1, z.2.2.1⟩
    refine cx_gi (pc_q := 55) (c := 9) (q := 7) (v := F4 (F4 (r5) (0 : Int)) (7 : Int)) rfl rfl (by decide) (by decide) (Or.inl rfl) rfl y29.1 y29.2.1 rfl ?_
    have b30 : (0 : Int) ≤ F4 (F4 (r5) (0 : Int)) (7 : Int) ∧ F4 (F4 (r5) (0 : Int)) (7 : Int) ≤ 12 := by have z := HC_i (c := 9) (q := 7) hC7 y29.1 y29.2.1 (by decide) rfl; rw [show F4 (F4 (r5) (0 : Int)) ((7 : Nat) : Int) = F4 (F4 (r5) (0 : Int)) (7 : Int) from rfl] at z; exact z
    refine jx_rt (v := some (.int (i32 (F4 (F4 (r5) (0 : Int)) (7 : Int))))) rfl rfl rfl rfl rfl rfl ?_
    exact Or.inl ⟨m3, tg3, ln3, F4, (F4 (F4 (r5) (0 : Int)) (7 : Int)), rfl, rfl, hX23, hC7, hM21, by omega, by omega, by omega, c12, SB_m c13 (by omega), c14, trivial⟩
  by_cases h31 : wh = 1
  · refine jx_swe (tg := 56) h31 rfl rfl rfl rfl ?_
    refine jx_ld (pc_q := 57) (l_q := L24) (st_q := [rv (r5)]) rfl (jl_rvn g27) ?_
    refine cx_gi (pc_q := 60) (c := 5) (q := 4) (v := F4 (r5) (4 : Int)) rfl rfl (by decide) (by decide) (Or.inl rfl) rfl b9.1 b9.2 rfl ?_
    have b32 : (-2147483648 : Int) ≤ F4 (r5) (4 : Int) ∧ F4 (r5) (4 : Int) ≤ 2147483647 := by have z := HC_i (c := 5) (q := 4) hC7 b9.1 b9.2 (by decide) rfl; rw [show F4 (r5) ((4 : Nat) : Int) = F4 (r5) (4 : Int) from rfl] at z; exact z
    refine jx_rt (v := some (.int (i32 (F4 (r5) (4 : Int))))) rfl rfl rfl rfl rfl rfl ?_
    exact Or.inl ⟨m3, tg3, ln3, F4, (F4 (r5) (4 : Int)), rfl, rfl, hX23, hC7, hM21, by omega, by omega, by omega, c12, SB_m c13 (by omega), c14, trivial⟩
  by_cases h33 : wh = 2
  · refine jx_swe (tg := 61) h33 rfl rfl rfl rfl ?_
    refine jx_ld (pc_q := 62) (l_q := L24) (st_q := [rv (r5)]) rfl (jl_rvn g27) ?_
    refine cx_gi (pc_q := 65) (c := 5) (q := 6) (v := F4 (r5) (6 : Int)) rfl rfl (by decide) (by decide) (Or.inl rfl) rfl b9.1 b9.2 rfl ?_
    have b34 : (0 : Int) ≤ F4 (r5) (6 : Int) ∧ F4 (r5) (6 : Int) ≤ 2147483647 := by have z := HC_i (c := 5) (q := 6) hC7 b9.1 b9.2 (by decide) rfl; rw [show F4 (r5) ((6 : Nat) : Int) = F4 (r5) (6 : Int) from rfl] at z; exact z
    refine jx_rt (v := some (.int (i32 (F4 (r5) (6 : Int))))) rfl rfl rfl rfl rfl rfl ?_
    exact Or.inl ⟨m3, tg3, ln3, F4, (F4 (r5) (6 : Int)), rfl, rfl, hX23, hC7, hM21, by omega, by omega, by omega, c12, SB_m c13 (by omega), c14, trivial⟩
  by_cases h35 : wh = 3
  · refine jx_swe (tg := 66) h35 rfl rfl rfl rfl ?_
    refine jx_ld (pc_q := 67) (l_q := L24) (st_q := [rv (r5)]) rfl (jl_rvn g27) ?_
    refine cx_gr (pc_q := 70) (c := 5) (q := 0) (v := F4 (r5) (0 : Int)) rfl rfl (by decide) (by decide) rfl rfl b9.1 b9.2 rfl ?_
    have y36 : own m3 (F4 (r5) (0 : Int)) ∧ tg3 (F4 (r5) (0 : Int)) = 10 ∧ ((0 : Int) ≠ 0 → ln3 (F4 (r5) (0 : Int)) = 0) := by have z := HC_n (c := 5) (q := 0) hC7 b9.1 b9.2 (own_z b9.1) (by decide) rfl; rw [show F4 (r5) ((0 : Nat) : Int) = F4 (r5) (0 : Int) from rfl] at z; exact ⟨z.1, z.2.1, z.2.2.1⟩
    refine cx_gi (pc_q := 73) (c := 9) (q := 8) (v := F4 (F4 (r5) (0 : Int)) (8 : Int)) rfl rfl (by decide) (by decide) (Or.inl rfl) rfl y36.1 y36.2.1 rfl ?_
    have b37 : (0 : Int) ≤ F4 (F4 (r5) (0 : Int)) (8 : Int) ∧ F4 (F4 (r5) (0 : Int)) (8 : Int) ≤ 200 := by have z := HC_i (c := 9) (q := 8) hC7 y36.1 y36.2.1 (by decide) rfl; rw [show F4 (F4 (r5) (0 : Int)) ((8 : Nat) : Int) = F4 (F4 (r5) (0 : Int)) (8 : Int) from rfl] at z; exact z
    refine jx_rt (v := some (.int (i32 (F4 (F4 (r5) (0 : Int)) (8 : Int))))) rfl rfl rfl rfl rfl rfl ?_
    exact Or.inl ⟨m3, tg3, ln3, F4, (F4 (F4 (r5) (0 : Int)) (8 : Int)), rfl, rfl, hX23, hC7, hM21, by omega, by omega, by omega, c12, SB_m c13 (by omega), c14, trivial⟩
  by_cases h38 : wh = 4
  · refine jx_swe (tg := 74) h38 rfl rfl rfl rfl ?_
    refine jx_ld (pc_q := 75) (l_q := L24) (st_q := [rv (r5)]) rfl (jl_rvn g27) ?_
    refine cx_gr (pc_q := 78) (c := 5) (q := 0) (v := F4 (r5) (0 : Int)) rfl rfl (by decide) (by decide) rfl rfl b9.1 b9.2 rfl ?_
    have y39 : own m3 (F4 (r5) (0 : Int)) ∧ tg3 (F4 (r5) (0 : Int)) = 10 ∧ ((0 : Int) ≠ 0 → ln3 (F4 (r5) (0 : Int)) = 0) := by have z := HC_n (c := 5) (q := 0) hC7 b9.1 b9.2 (own_z b9.1) (by decide) rfl; rw [show F4 (r5) ((0 : Nat) : Int) = F4 (r5) (0 : Int) from rfl] at z; exact ⟨z.1, z.2.1, z.2.2.1⟩
    refine cx_gi (pc_q := 81) (c := 9) (q := 5) (v := F4 (F4 (r5) (0 : Int)) (5 : Int)) rfl rfl (by decide) (by decide) (Or.inl rfl) rfl y39.1 y39.2.1 rfl ?_
    have b40 : (0 : Int) ≤ F4 (F4 (r5) (0 : Int)) (5 : Int) ∧ F4 (F4 (r5) (0 : Int)) (5 : Int) ≤ 24 := by have z := HC_i (c := 9) (q := 5) hC7 y39.1 y39.2.1 (by decide) rfl; rw [show F4 (F4 (r5) (0 : Int)) ((5 : Nat) : Int) = F4 (F4 (r5) (0 : Int)) (5 : Int) from rfl] at z; exact z
    refine jx_rt (v := some (.int (i32 (F4 (F4 (r5) (0 : Int)) (5 : Int))))) rfl rfl rfl rfl rfl rfl ?_
    exact Or.inl ⟨m3, tg3, ln3, F4, (F4 (F4 (r5) (0 : Int)) (5 : Int)), rfl, rfl, hX23, hC7, hM21, by omega, by omega, by omega, c12, SB_m c13 (by omega), c14, trivial⟩
  by_cases h41 : wh = 5
  · refine jx_swe (tg := 82) h41 rfl rfl rfl rfl ?_
    refine jx_ld (pc_q := 83) (l_q := L24) (st_q := [rv (r5)]) rfl (jl_rvn g27) ?_
    refine cx_gi (pc_q := 86) (c := 5) (q := 7) (v := F4 (r5) (7 : Int)) rfl rfl (by decide) (by decide) (Or.inl rfl) rfl b9.1 b9.2 rfl ?_
    have b42 : (-2147483648 : Int) ≤ F4 (r5) (7 : Int) ∧ F4 (r5) (7 : Int) ≤ 2147483647 := by have z := HC_i (c := 5) (q := 7) hC7 b9.1 b9.2 (by decide) rfl; rw [show F4 (r5) ((7 : Nat) : Int) = F4 (r5) (7 : Int) from rfl] at z; exact z
    refine jx_rt (v := some (.int (i32 (F4 (r5) (7 : Int))))) rfl rfl rfl rfl rfl rfl ?_
    exact Or.inl ⟨m3, tg3, ln3, F4, (F4 (r5) (7 : Int)), rfl, rfl, hX23, hC7, hM21, by omega, by omega, by omega, c12, SB_m c13 (by omega), c14, trivial⟩
  by_cases h43 : wh = 6
  · refine jx_swe (tg := 87) h43 rfl rfl rfl rfl ?_
    refine jx_ld (pc_q := 88) (l_q := L24) (st_q := [rv (r5)]) rfl (jl_rvn g27) ?_
    refine cx_gi (pc_q := 91) (c := 5) (q := 8) (v := F4 (r5) (8 : Int)) rfl rfl (by decide) (by decide) (Or.inl rfl) rfl b9.1 b9.2 rfl ?_
    have b44 : (-2147483648 : Int) ≤ F4 (r5) (8 : Int) ∧ F4 (r5) (8 : Int) ≤ 2147483647 := by have z := HC_i (c := 5) (q := 8) hC7 b9.1 b9.2 (by decide) rfl; rw [show F4 (r5) ((8 : Nat) : Int) = F4 (r5) (8 : Int) from rfl] at z; exact z
    refine jx_rt (v := some (.int (i32 (F4 (r5) (8 : Int))))) rfl rfl rfl rfl rfl rfl ?_
    exact Or.inl ⟨m3, tg3, ln3, F4, (F4 (r5) (8 : Int)), rfl, rfl, hX23, hC7, hM21, by omega, by omega, by omega, c12, SB_m c13 (by omega), c14, trivial⟩
  refine jx_swt (tg := 92) (by omega) (by omega) rfl (by omega) rfl ?_
  refine cx_thr2 (c := 13) rfl rfl rfl rfl ⟨by decide, by decide, (Nat.le_of_ble_eq_true rfl), rfl, rfl, rfl⟩ rfl rfl hC7 (fun x45 m45 tg45 ln45 F45 en45 em45 ho45 hx45 hC45 hf45 hs45 => ?_)
  have ex45 : 64 + (m : Int) ≤ (x45 : Int) := by have := hX23.1; omega
  have c46 : SB m45 tg45 F45 ((kk)) := SB_n c13 hC7.1 hx45 en45 em45 hf45 ho45.2 (Or.inl (by decide))
  have c47 : T3 m45 tg45 := T3_n c14 hC7.1 hx45 en45 em45 ho45.2 (by decide)
  have c48 : NP m45 tg45 F45 := NP_nn hC7 c12 hx45 en45 em45 (fun b i ob => hf45 b i (ne_n ob en45)) (fun w => absurd (ho45.2.symm.trans w) (by decide)) (fun w => absurd (ho45.2.symm.trans w) (by decide)) (fun w => absurd (ho45.2.symm.trans w) (by decide))
  have lm49 := hx45.1
  exact Or.inr ⟨m45, tg45, ln45, F45, x45, rfl, rfl, Ex_t hX23 hx45, hC45, Fq_n hM21 hf45 ex45, ho45.1, Or.inr (ho45.2), by omega, by omega, c48, SB_m c46 (by omega), c47, trivial⟩
