set_option maxRecDepth 20000 in
set_option maxHeartbeats 4000000 in
theorem k_LY_begin {X : jX} {dd : Nat} {R : Nat → jC} {m : Nat} {tg ln : Int → Int} {F : Int → Int → Int} {kk : Int} {me : Int} (hd : 4 ≤ dd) (hC : HC 0 m tg ln F) (o_me : own m me) (t_me : tg me = 1) (p_0 : 0 ≤ kk) (c_NP : NP m tg F) (c_SB : SB m tg F (kk)) (c_T3 : T3 m tg) : wk X dd 28 [rv me] (cV R m tg ln F) (fun o V_q => (∃ (m_q : Nat) (tg_q ln_q : Int → Int) (F_q : Int → Int → Int), V_q = cV R m_q tg_q ln_q F_q ∧ o = .inl none ∧ Ex m tg ln m_q tg_q ln_q ∧ HC 0 m_q tg_q ln_q F_q ∧ Fq 0 [(3, 5), (3, 6), (3, 7), (3, 8), (3, 9), (3, 10), (3, 11), (3, 12), (3, 13), (3, 14), (3, 16), (3, 17), (3, 18), (3, 19), (3, 20), (5, 2), (5, 3), (5, 4), (5, 5), (5, 6), (5, 7), (6, 3), (6, 4), (6, 6), (6, 7), (6, 8), (21, -5)] m tg F F_q ∧ (szD m_q tg_q ln_q = szD m tg ln) ∧ ((m_q : Int) = (m : Int)) ∧ (NP m_q tg_q F_q) ∧ (SB m_q tg_q F_q (kk + 1)) ∧ (T3 m_q tg_q) ∧ True) ∨ (∃ (m_q : Nat) (tg_q ln_q : Int → Int) (F_q : Int → Int → Int) (x : Nat), V_q = cV R m_q tg_q ln_q F_q ∧ o = .inr x ∧ Ex m tg ln m_q tg_q ln_q ∧ HC 0 m_q tg_q ln_q F_q ∧ Fq 0 [(3, 5), (3, 6), (3, 7), (3, 8), (3, 9), (3, 10), (3, 11), (3, 12), (3, 13), (3, 14), (3, 16), (3, 17), (3, 18), (3, 19), (3, 20), (5, 2), (5, 3), (5, 4), (5, 5), (5, 6), (5, 7), (6, 3), (6, 4), (6, 6), (6, 7), (6, 8), (21, -5)] m tg F F_q ∧ (own m_q (x : Int)) ∧ (tg_q (x : Int) = 16) ∧ (szD m_q tg_q ln_q = szD m tg ln + 25) ∧ ((m_q : Int) = (m : Int) + 1) ∧ (NP m_q tg_q F_q) ∧ (SB m_q tg_q F_q (kk + 1)) ∧ (T3 m_q tg_q) ∧ True)) := by
  obtain ⟨d, rfl⟩ : ∃ d, dd = d + 1 := ⟨dd - 1, by omega⟩
  refine wk_of (e := jm28) rfl (by rw [jS_r, jS_0]; exact Nat.le_of_ble_eq_true rfl) ?_
  rw [la_r, la_0]
  show wj X d jm28 (0, [(0, rv (me))], [], cV R m tg ln F) _
  have hM0 : Fq 0 [(3, 5), (3, 6), (3, 7), (3, 8), (3, 9), (3, 10), (3, 11), (3, 12), (3, 13), (3, 14), (3, 16), (3, 17), (3, 18), (3, 19), (3, 20), (5, 2), (5, 3), (5, 4), (5, 5), (5, 6), (5, 7), (6, 3), (6, 4), (6, 6), (6, 7), (6, 8), (21, -5)] m tg F F := Fq_r
  have hX0 : Ex m tg ln m tg ln := Ex_r
  obtain ⟨L0, eL0⟩ : ∃ q : jL, q = [(0, rv (me))] := ⟨_, rfl⟩
  rw [← eL0]
  have g1 : jGet L0 0 = some (rv (me)) := eL0 ▸ (rfl : jGet [(0, rv (me))] 0 = some (rv (me)))
  clear eL0
  refine jx_ld (pc_q := 1) (l_q := L0) (st_q := [rv (me)]) rfl (jl_rvn g1) ?_
  refine cx_vi (c := 0) (a := me) (st := []) (as := []) rfl rfl rfl o_me t_me (by decide) rfl ⟨rfl, rfl, (Nat.le_of_ble_eq_true rfl)⟩ rfl (k_LY_loaded (dd := d) (R := R) (m := m) (tg := tg) (ln := ln) (F := F) (me := me) (hd := by omega) (hC := hC) (o_me := o_me) (t_me := t_me) (c_NP := c_NP) (kk := kk) (c_SB := c_SB) (c_T3 := c_T3)) (fun o V_q hq => ?_)
  obtain ⟨m2, tg2, ln2, F3, r4, rfl, rfl, hx5, hC6, hM7, b8, p9, p10, c11, c12, c13, -⟩ | ⟨m14, tg14, ln14, F14, x14, rfl, rfl, hx14, hC14, hM14, ho14, ht14, p15, p16, c17, c18, c19, -⟩ := hq
  rotate_left
  ·
    refine Or.inr (Or.inr (Or.inr ⟨_, _, rfl, cx_exc (c := 15) ho14 ht14 (by decide), rfl, ?_⟩))
    exact Or.inr ⟨m14, tg14, ln14, F14, x14, rfl, rfl, Ex_t hX0 hx14, hC14, Fq_t (ln := ln) (ln1 := ln) hM0 hX0 hM14 (by decide) (Or.inl rfl), (And.intro ho14 ht14).1, (And.intro ho14 ht14).2, by omega, by omega, c17, SB_m c18 (by omega), c19, trivial⟩
  have hM20 : Fq 0 [(3, 5), (3, 6), (3, 7), (3, 8), (3, 9), (3, 10), (3, 11), (3, 12), (3, 13), (3, 14), (3, 16), (3, 17), (3, 18), (3, 19), (3, 20), (5, 2), (5, 3), (5, 4), (5, 5), (5, 6), (5, 7), (6, 3), (6, 4), (6, 6), (6, 7), (6, 8), (21, -5)] m tg F F3 := Fq_t (ln := ln) (ln1 := ln) hM0 hX0 hM7 (by decide) (Or.inl rfl)
  have ho21 : own m2 (me) ∧ tg2 (me) = 1 := Ex_o hx5 ⟨o_me, t_me⟩
  have hX22 := Ex_t hX0 hx5
  refine Or.inr (Or.inl ⟨_, rfl, ?_⟩)
  refine cx_vi (c := 5) (a := r4) (st := []) (as := []) rfl rfl rfl b8.1 b8.2 (by decide) rfl ⟨rfl, rfl, (Nat.le_of_ble_eq_true rfl)⟩ rfl (k_LMachine_reset (dd := d) (R := R) (m := m2) (tg := tg2) (ln := ln2) (F := F3) (me := r4) (hd := by omega) (hC := hC6) (o_me := b8.1) (t_me := b8.2) (p_0 := by omega) (kk := (kk)) (c_SB := c12)) (fun o V_q hq => ?_)
  obtain ⟨F23, rfl, rfl, hC24, hM25, c26, -⟩ := hq
  have hM27 : Fq 0 [(3, 5), (3, 6), (3, 7), (3, 8), (3, 9), (3, 10), (3, 11), (3, 12), (3, 13), (3, 14), (3, 16), (3, 17), (3, 18), (3, 19), (3, 20), (5, 2), (5, 3), (5, 4), (5, 5), (5, 6), (5, 7), (6, 3), (6, 4), (6, 6), (6, 7), (6, 8), (21, -5)] m tg F F23 := Fq_t (ln := ln) (ln1 := ln2) hM20 hX22 hM25 (by decide) (Or.inl rfl)
  have c28 : NP m2 tg2 F23 := NP_q hC6 c11 hM25 rfl rfl
  refine Or.inl ⟨rfl, ?_⟩
  refine jx_rt (v := none) rfl rfl rfl rfl rfl rfl ?_
  exact Or.inl ⟨m2, tg2, ln2, F23, rfl, rfl, hX22, hC24, hM27, by omega, by omega, c28, SB_m c26 (by omega), c13, trivial⟩
set_option maxRecDepth 20000 in
set_option maxHeartbeats 4000000 in
theorem k_LY_input {X : jX} {dd : Nat} {R : Nat → jC} {m : Nat} {tg ln : Int → Int} {F : Int → Int → Int} {kk : Int} {me v : Int} (hd : 6 ≤ dd) (hC : HC 0 m tg ln F) (o_me : own m me) (t_me : tg me = 1) (h_v : (-2147483648 : Int) ≤ v ∧ v ≤ 2147483647) (c_NP : NP m tg F) (c_SB : SB m tg F (kk)) (c_T3 : T3 m tg) : wk X dd 29 [rv me, .int (i32 v)] (cV R m tg ln F) (fun o V_q => (∃ (m_q : Nat) (tg_q ln_q : Int → Int) (F_q : Int → Int → Int) (r : Int), V_q = cV R m_q tg_q ln_q F_q ∧ o = .inl (some (.int (i32 r))) ∧ Ex m tg ln m_q tg_q ln_q ∧ HC 0 m_q tg_q ln_q F_q ∧ Fq 0 [(3, 5), (3, 6), (3, 7), (3, 8), (3, 9), (3, 10), (3, 11), (3, 12), (3, 16), (3, 17), (3, 19), (3, 20), (6, 3), (6, 4), (21, -5)] m tg F F_q ∧ (-2147483648 ≤ r ∧ r ≤ 2147483647) ∧ (szD m_q tg_q ln_q = szD m tg ln) ∧ ((m_q : Int) = (m : Int)) ∧ (NP m_q tg_q F_q) ∧ (SB m_q tg_q F_q (kk)) ∧ (T3 m_q tg_q) ∧ True) ∨ (∃ (m_q : Nat) (tg_q ln_q : Int → Int) (F_q : Int → Int → Int) (x : Nat), V_q = cV R m_q tg_q ln_q F_q ∧ o = .inr x ∧ Ex m tg ln m_q tg_q ln_q ∧ HC 0 m_q tg_q ln_q F_q ∧ Fq 0 [(3, 5), (3, 6), (3, 7), (3, 8), (3, 9), (3, 10), (3, 11), (3, 12), (3, 16), (3, 17), (3, 19), (3, 20), (6, 3), (6, 4), (21, -5)] m tg F F_q ∧ (own m_q (x : Int)) ∧ (tg_q (x : Int) = 16 ∨ tg_q (x : Int) = 15) ∧ (szD m_q tg_q ln_q = szD m tg ln + 25) ∧ ((m_q : Int) = (m : Int) + 1) ∧ (NP m_q tg_q F_q) ∧ (SB m_q tg_q F_q (kk)) ∧ (T3 m_q tg_q) ∧ True)) := by
  obtain ⟨d, rfl⟩ : ∃ d, dd = d + 1 := ⟨dd - 1, by omega⟩
  refine wk_of (e := jm29) rfl (by rw [jS_r, jS_i, jS_0]; exact Nat.le_of_ble_eq_true rfl) ?_
  rw [la_r, la_i, la_0]
  show wj X d jm29 (0, [(0, rv (me)), (1, .int (i32 (v)))], [], cV R m tg ln F) _
  have hM0 : Fq 0 [(3, 5), (3, 6), (3, 7), (3, 8), (3, 9), (3, 10), (3, 11), (3, 12), (3, 16), (3, 17), (3, 19), (3, 20), (6, 3), (6, 4), (21, -5)] m tg F F := Fq_r
  have hX0 : Ex m tg ln m tg ln := Ex_r
  obtain ⟨L0, eL0⟩ : ∃ q : jL, q = [(0, rv (me)), (1, .int (i32 (v)))] := ⟨_, rfl⟩
  rw [← eL0]
  have g1 : jGet L0 0 = some (rv (me)) := eL0 ▸ (rfl : jGet [(0, rv (me)), (1, .int (i32 (v)))] 0 = some (rv (me)))
  have g2 : jGet L0 1 = some (.int (i32 (v))) := eL0 ▸ (rfl : jGet [(0, rv (me)), (1, .int (i32 (v)))] 1 = some (.int (i32 (v))))
  clear eL0
  refine jx_ld (pc_q := 1) (l_q := L0) (st_q := [rv (me)]) rfl (jl_rvn g1) ?_
  refine cx_vi (c := 0) (a := me) (st := []) (as := []) rfl rfl rfl o_me t_me (by decide) rfl ⟨rfl, rfl, (Nat.le_of_ble_eq_true rfl)⟩ rfl (k_LY_loaded (dd := d) (R := R) (m := m) (tg := tg) (ln := ln) (F := F) (me := me) (hd := by omega) (hC := hC) (o_me := o_me) (t_me := t_me) (c_NP := c_NP) (kk := kk) (c_SB := c_SB) (c_T3 := c_T3)) (fun o V_q hq => ?_)
  obtain ⟨m3, tg3, ln3, F4, r5, rfl, rfl, hx6, hC7, hM8, b9, p10, p11, c12, c13, c14, -⟩ | ⟨m15, tg15, ln15, F15, x15, rfl, rfl, hx15, hC15, hM15, ho15, ht15, p16, p17, c18, c19, c20, -⟩ := hq
  rotate_left
  ·
    refine Or.inr (Or.inr (Or.inr ⟨_, _, rfl, cx_exc (c := 15) ho15 ht15 (by decide), rfl, ?_⟩))
    exact Or.inr ⟨m15, tg15, ln15, F15, x15, rfl, rfl, Ex_t hX0 hx15, hC15, Fq_t (ln := ln) (ln1 := ln) hM0 hX0 hM15 (by decide) (Or.inl rfl), (And.intro ho15 ht15).1, Or.inl ((And.intro ho15 ht15).2), by omega, by omega, c18, SB_m c19 (by omega), c20, trivial⟩
  have hM21 : Fq 0 [(3, 5), (3, 6), (3, 7), (3, 8), (3, 9), (3, 10), (3, 11), (3, 12), (3, 16), (3, 17), (3, 19), (3, 20), (6, 3), (6, 4), (21, -5)] m tg F F4 := Fq_t (ln := ln) (ln1 := ln) hM0 hX0 hM8 (by decide) (Or.inl rfl)
  have ho22 : own m3 (me) ∧ tg3 (me) = 1 := Ex_o hx6 ⟨o_me, t_me⟩
  have hX23 := Ex_t hX0 hx6
  refine Or.inr (Or.inl ⟨_, rfl, ?_⟩)
  refine jx_ld (pc_q := 5) (l_q := jSto1 L0 2 (rv (r5))) (st_q := []) rfl (js_rvn (by decide)) ?_
  obtain ⟨L24, eL24⟩ : ∃ q : jL, q = jSto1 L0 2 (rv (r5)) := ⟨_, rfl⟩
  rw [← eL24]
  have g25 : jGet L24 0 = some (rv (me)) := eL24 ▸ jg_nr (by decide) g1
  have g26 : jGet L24 1 = some (.int (i32 (v))) := eL24 ▸ jg_ne (by decide) g2 rfl
  have g27 : jGet L24 2 = some (rv (r5)) := eL24 ▸ jg_eq
  clear eL24
  refine jx_ld (pc_q := 6) (l_q := L24) (st_q := [rv (r5)]) rfl (jl_rvn g27) ?_
  refine cx_gi (pc_q := 9) (c := 5) (q := 3) (v := F4 (r5) (3 : Int)) rfl rfl (by decide) (by decide) (Or.inl rfl) rfl b9.1 b9.2 rfl ?_
  have b28 : (0 : Int) ≤ F4 (r5) (3 : Int) ∧ F4 (r5) (3 : Int) ≤ 200 := by have z := HC_i (c := 5) (q := 3) hC7 b9.1 b9.2 (by decide) rfl; rw [show F4 (r5) ((3 : Nat) : Int) = F4 (r5) (3 : Int) from rfl] at z; exact z
  refine jx_ld (pc_q := 10) (l_q := L24) (st_q := [rv (r5), .int (i32 (F4 (r5) (3 : Int)))]) rfl (jl_rvn g27) ?_
  refine cx_gr (pc_q := 13) (c := 5) (q := 2) (v := F4 (r5) (2 : Int)) rfl rfl (by decide) (by decide) rfl rfl b9.1 b9.2 rfl ?_
  have y29 : own m3 (F4 (r5) (2 : Int)) ∧ tg3 (F4 (r5) (2 : Int)) = 21 ∧ ((200 : Int) ≠ 0 → ln3 (F4 (r5) (2 : Int)) = 200) := by have z := HC_n (c := 5) (q := 2) hC7 b9.1 b9.2 (own_z b9.1) (by decide) rfl; rw [show F4 (r5) ((2 : Nat) : Int) = F4 (r5) (2 : Int) from rfl] at z; exact ⟨z.1, z.2.1, z.2.2.1⟩
  have ly29 : ln3 (F4 (r5) (2 : Int)) = 200 := y29.2.2 (by decide)
  have b30 := HC_l hC7 y29.1 y29.2.1 (by decide)
  refine cx_len (pc_q := 14) rfl rfl y29.1 (by rw [y29.2.1]; decide) (by omega) ?_
  refine jx_icmp_lt (pc_q := 17) (tg := 27) rfl rfl rfl (by omega) (by omega) (by omega) (by omega) (fun h31 => ?_) (fun h31 => ?_)
  · have _q := h31
    refine jx_ld (pc_q := 28) (l_q := L24) (st_q := [rv (r5)]) rfl (jl_rvn g27) ?_
    refine jx_ld (pc_q := 29) (l_q := L24) (st_q := [.int (i32 (v)), rv (r5)]) rfl (jl_iloadn g26) ?_
    refine cx_vi (c := 5) (a := r5) (st := []) (as := [.int (i32 (v))]) rfl rfl rfl b9.1 b9.2 (by decide) rfl ⟨rfl, rfl, (Nat.le_of_ble_eq_true rfl)⟩ rfl (k_LMachine_offer (dd := d) (R := R) (m := m3) (tg := tg3) (ln := ln3) (F := F4) (me := r5) (v := v) (hd := by omega) (hC := hC7) (o_me := b9.1) (t_me := b9.2) (h_v := by omega)) (fun o V_q hq => ?_)
    obtain ⟨F32, rfl, rfl, hC33, hM34, -⟩ := hq
    have hM35 : Fq 0 [(3, 5), (3, 6), (3, 7), (3, 8), (3, 9), (3, 10), (3, 11), (3, 12), (3, 16), (3, 17), (3, 19), (3, 20), (6, 3), (6, 4), (21, -5)] m tg F F32 := Fq_t (ln := ln) (ln1 := ln3) hM21 hX23 hM34 (by decide) (Or.inl rfl)
    have c36 : NP m3 tg3 F32 := NP_q hC7 c12 hM34 rfl rfl
    have c37 : SB m3 tg3 F32 ((kk)) := SB_q c13 hM34 rfl
    refine Or.inl ⟨rfl, ?_⟩
    refine jx_ld (pc_q := 33) (l_q := L24) (st_q := [rv (r5)]) rfl (jl_rvn g27) ?_
    refine cx_gi (pc_q := 36) (c := 5) (q := 3) (v := F32 (r5) (3 : Int)) rfl rfl (by decide) (by decide) (Or.inl rfl) rfl b9.1 b9.2 rfl ?_
    have b38 : (0 : Int) ≤ F32 (r5) (3 : Int) ∧ F32 (r5) (3 : Int) ≤ 200 := by have z := HC_i (c := 5) (q := 3) hC33 b9.1 b9.2 (by decide) rfl; rw [show F32 (r5) ((3 : Nat) : Int) = F32 (r5) (3 : Int) from rfl] at z; exact z
    refine jx_rt (v := some (.int (i32 (F32 (r5) (3 : Int))))) rfl rfl rfl rfl rfl rfl ?_
    exact Or.inl ⟨m3, tg3, ln3, F32, (F32 (r5) (3 : Int)), rfl, rfl, hX23, hC33, hM35, by omega, by omega, by omega, c36, SB_m c37 (by omega), c14, trivial⟩
  · have _q := h31
    refine cx_thr2 (c := 14) rfl rfl rfl rfl ⟨by decide, by decide, (Nat.le_of_ble_eq_true rfl), rfl, rfl, rfl⟩ rfl rfl hC7 (fun x39 m39 tg39 ln39 F39 en39 em39 ho39 hx39 hC39 hf39 hs39 => ?_)
    have ex39 : 64 + (m : Int) ≤ (x39 : Int) := by have := hX23.1; omega
    have c40 : SB m39 tg39 F39 ((kk)) := SB_n c13 hC7.1 hx39 en39 em39 hf39 ho39.2 (Or.inl (by decide))
    have c41 : T3 m39 tg39 := T3_n c14 hC7.1 hx39 en39 em39 ho39.2 (by decide)
    have c42 : NP m39 tg39 F39 := NP_nn hC7 c12 hx39 en39 em39 (fun b i ob => hf39 b i (ne_n ob en39)) (fun w => absurd (ho39.2.symm.trans w) (by decide)) (fun w => absurd (ho39.2.symm.trans w) (by decide)) (fun w => absurd (ho39.2.symm.trans w) (by decide))
    have lm43 := hx39.1
    exact Or.inr ⟨m39, tg39, ln39, F39, x39, rfl, rfl, Ex_t hX23 hx39, hC39, Fq_n hM21 hf39 ex39, ho39.1, Or.inr (ho39.2), by omega, by omega, c42, SB_m c40 (by omega), c41, trivial⟩
set_option maxRecDepth 20000 in
set_option maxHeartbeats 4000000 in
theorem k_LY_run_at_33 {X : jX} {d : Nat} {R : Nat → jC} {m : Nat} {tg ln : Int → Int} {F : Int → Int → Int} {kk : Int} {me p n : Int} (hd : 7 ≤ d + 1) (hC : HC 0 m tg ln F) (o_me : own m me) (t_me : tg me = 1) (h_p : (-2147483648 : Int) ≤ p ∧ p ≤ 2147483647) (h_n : (-2147483648 : Int) ≤ n ∧ n ≤ 2147483647) (p_0 : 0 ≤ kk) (p_1 : kk ≤ 2000000000) (c_NP : NP m tg F) (c_SB : SB m tg F (kk)) (c_T3 : T3 m tg) : ∀ (mm : Nat) (L : jL) (mx : Nat) (tgx lnx : Int → Int) (Fx : Int → Int → Int) (dn k co : Int), (n - k).toNat = mm → jGet L 0 = some (rv (me)) → jGet L 1 = some (.int (i32 (p))) → jGet L 2 = some (.int (i32 (n))) → jGet L 4 = some (.int (i32 dn)) → jGet L 5 = some (.int (i32 k)) → jGet L 3 = some (rv co) → Ex m tg ln mx tgx lnx → HC 0 mx tgx lnx Fx → Fq 0 [(3, 5), (3, 6), (3, 7), (3, 8), (3, 9), (3, 10), (3, 11), (3, 12), (3, 13), (3, 14), (3, 16), (3, 17), (3, 18), (3, 19), (3, 20), (5, 2), (5, 3), (5, 4), (5, 5), (5, 6), (5, 7), (6, 4), (6, 6), (21, -5)] m tg F Fx → ((-2147483648 : Int) ≤ dn ∧ dn ≤ 2147483647) → ((-2147483648 : Int) ≤ k ∧ k ≤ 2147483647) → (co = 0 ∨ (own mx co ∧ tgx co = 3)) → (szD mx tgx lnx = szD m tg ln) → ((mx : Int) = (m : Int)) → (0 ≤ k) → (n ≤ 5000) → (k ≤ 5000) → (co ≠ 0) → (NP mx tgx Fx) → (SB mx tgx Fx (kk + k)) → (T3 mx tgx) → wj X d jm30 (33, L, [], cV R mx tgx lnx Fx) (fun o V_q => (∃ (m_q : Nat) (tg_q ln_q : Int → Int) (F_q : Int → Int → Int) (r : Int), V_q = cV R m_q tg_q ln_q F_q ∧ o = .inl (some (.int (i32 r))) ∧ Ex m tg ln m_q tg_q ln_q ∧ HC 0 m_q tg_q ln_q F_q ∧ Fq 0 [(3, 5), (3, 6), (3, 7), (3, 8), (3, 9), (3, 10), (3, 11), (3, 12), (3, 13), (3, 14), (3, 16), (3, 17), (3, 18), (3, 19), (3, 20), (5, 2), (5, 3), (5, 4), (5, 5), (5, 6), (5, 7), (6, 4), (6, 6), (21, -5)] m tg F F_q ∧ (-2147483648 ≤ r ∧ r ≤ 2147483647) ∧ (szD m_q tg_q ln_q = szD m tg ln) ∧ ((m_q : Int) = (m : Int)) ∧ (NP m_q tg_q F_q) ∧ (SB m_q tg_q F_q (kk + 5000)) ∧ (T3 m_q tg_q) ∧ True) ∨ (∃ (m_q : Nat) (tg_q ln_q : Int → Int) (F_q : Int → Int → Int) (x : Nat), V_q = cV R m_q tg_q ln_q F_q ∧ o = .inr x ∧ Ex m tg ln m_q tg_q ln_q ∧ HC 0 m_q tg_q ln_q F_q ∧ Fq 0 [(3, 5), (3, 6), (3, 7), (3, 8), (3, 9), (3, 10), (3, 11), (3, 12), (3, 13), (3, 14), (3, 16), (3, 17), (3, 18), (3, 19), (3, 20), (5, 2), (5, 3), (5, 4), (5, 5), (5, 6), (5, 7), (6, 4), (6, 6), (21, -5)] m tg F F_q ∧ (own m_q (x : Int)) ∧ (tg_q (x : Int) = 16 ∨ tg_q (x : Int) = 17 ∨ tg_q (x : Int) = 14) ∧ (szD m_q tg_q ln_q = szD m tg ln + 25) ∧ ((m_q : Int) = (m : Int) + 1) ∧ (NP m_q tg_q F_q) ∧ (SB m_q tg_q F_q (kk + 5000)) ∧ (T3 m_q tg_q) ∧ True)) := by
  intro mm
  induction mm using Nat.strongRecOn with
  | ind mm ih =>
    intro L mx tgx lnx Fx dn k co hmm gL_0 gL_1 gL_2 gL_4 gL_5 gL_3 hXx hCx hMx rx_dn rx_k yx_co iv_0 iv_1 iv_2 iv_3 iv_4 iv_5 cx_NP cx_SB cx_T3
    have hX0 : Ex m tg ln m tg ln := Ex_r
    have ho1 : own mx (me) ∧ tgx (me) = 1 := Ex_o hXx ⟨o_me, t_me⟩
    have hX2 := Ex_t hX0 hXx
    have hz3 : co ≠ 0 := by omega
    have ho4 : own mx (co) ∧ tgx (co) = 3 := yx_co.resolve_left hz3
    refine jx_ld (pc_q := 35) (l_q := L) (st_q := [.int (i32 (k))]) rfl (jl_iload gL_5) ?_
    refine jx_ld (pc_q := 36) (l_q := L) (st_q := [.int (i32 (n)), .int (i32 (k))]) rfl (jl_iloadn gL_2) ?_
    refine jx_icmp_ge (pc_q := 39) (tg := 59) rfl rfl rfl (by omega) (by omega) (by omega) (by omega) (fun h5 => ?_) (fun h5 => ?_)
    · have _q := h5
      refine jx_ld (pc_q := 61) (l_q := L) (st_q := [.int (i32 (dn))]) rfl (jl_iload gL_4) ?_
      refine jx_rt (v := some (.int (i32 (dn)))) rfl rfl rfl rfl rfl rfl ?_
      exact Or.inl ⟨mx, tgx, lnx, Fx, (dn), rfl, rfl, hXx, hCx, hMx, by omega, by omega, by omega, cx_NP, SB_m cx_SB (by omega), cx_T3, trivial⟩
    · have _q := h5
      refine jx_ld (pc_q := 40) (l_q := L) (st_q := [rv (co)]) rfl (jl_rvn gL_3) ?_
      refine cx_gi (pc_q := 43) (c := 2) (q := 11) (v := Fx (co) (11 : Int)) rfl rfl (by decide) (by decide) (Or.inr rfl) rfl ho4.1 ho4.2 rfl ?_
      have b6 : (0 : Int) ≤ Fx (co) (11 : Int) ∧ Fx (co) (11 : Int) ≤ 1 := by have z := HC_i (c := 2) (q := 11) hCx ho4.1 ho4.2 (by decide) rfl; rw [show Fx (co) ((11 : Nat) : Int) = Fx (co) (11 : Int) from rfl] at z; exact z
      refine jx_if_eq (pc_q := 46) (tg := 59) rfl rfl rfl (by omega) (by omega) (fun h7 => ?_) (fun h7 => ?_)
      · have _q := h7
        refine jx_ld (pc_q := 61) (l_q := L) (st_q := [.int (i32 (dn))]) rfl (jl_iload gL_4) ?_
        refine jx_rt (v := some (.int (i32 (dn)))) rfl rfl rfl rfl rfl rfl ?_
        exact Or.inl ⟨mx, tgx, lnx, Fx, (dn), rfl, rfl, hXx, hCx, hMx, by omega, by omega, by omega, cx_NP, SB_m cx_SB (by omega), cx_T3, trivial⟩
      · have _q := h7
        refine jx_ld (pc_q := 47) (l_q := L) (st_q := [rv (co)]) rfl (jl_rvn gL_3) ?_
        refine cx_vi (c := 2) (a := co) (st := []) (as := []) rfl rfl rfl ho4.1 ho4.2 (by decide) rfl ⟨rfl, rfl, (Nat.le_of_ble_eq_true rfl)⟩ rfl (k_LCore_step (dd := d) (R := R) (m := mx) (tg := tgx) (ln := lnx) (F := Fx) (me := co) (hd := by omega) (hC := hCx) (o_me := ho4.1) (t_me := ho4.2) (p_0 := by omega) (kk := kk + k) (c_SB := cx_SB)) (fun o V_q hq => ?_)
        obtain ⟨F8, rfl, rfl, hC9, hM10, c11, -⟩ := hq
        have hM12 : Fq 0 [(3, 5), (3, 6), (3, 7), (3, 8), (3, 9), (3, 10), (3, 11), (3, 12), (3, 13), (3, 14), (3, 16), (3, 17), (3, 18), (3, 19), (3, 20), (5, 2), (5, 3), (5, 4), (5, 5), (5, 6), (5, 7), (6, 4), (6, 6), (21, -5)] m tg F F8 := Fq_t (ln := ln) (ln1 := lnx) hMx hXx hM10 (by decide) (Or.inl rfl)
        have c13 : NP mx tgx F8 := NP_q hCx cx_NP hM10 rfl rfl
        refine Or.inl ⟨rfl, ?_⟩
        refine jx_inc (pc_q := 53) (l_q := jSto1 L 4 (.int (i32 (dn + (1))))) (x := dn) rfl gL_4 (by decide) rfl rfl ?_
        obtain ⟨z14, ez14⟩ : ∃ q, q = (i32 ((dn + (1)))).toInt := ⟨_, rfl⟩
        have bz14 : (-2147483648 : Int) ≤ z14 ∧ z14 ≤ 2147483647 := ez14 ▸ i32_rg _
        rw [show i32 ((dn + (1))) = i32 z14 by rw [ez14, i32_of]]
        clear ez14
        obtain ⟨L15, eL15⟩ : ∃ q : jL, q = jSto1 L 4 (.int (i32 (z14))) := ⟨_, rfl⟩
        rw [← eL15]
        have g16 : jGet L15 0 = some (rv (me)) := eL15 ▸ jg_nr (by decide) gL_0
        have g17 : jGet L15 1 = some (.int (i32 (p))) := eL15 ▸ jg_ne (by decide) gL_1 rfl
        have g18 : jGet L15 2 = some (.int (i32 (n))) := eL15 ▸ jg_ne (by decide) gL_2 rfl
        have g19 : jGet L15 5 = some (.int (i32 (k))) := eL15 ▸ jg_ne (by decide) gL_5 rfl
        have g20 : jGet L15 3 = some (rv (co)) := eL15 ▸ jg_nr (by decide) gL_3
        have g21 : jGet L15 4 = some (.int (i32 (z14))) := eL15 ▸ jg_eq
        clear eL15
        refine jx_inc (pc_q := 56) (l_q := jSto1 L15 5 (.int (i32 (k + (1))))) (x := k) rfl g19 (by decide) rfl rfl ?_
        obtain ⟨L22, eL22⟩ : ∃ q : jL, q = jSto1 L15 5 (.int (i32 ((k + (1))))) := ⟨_, rfl⟩
        rw [← eL22]
        have g23 : jGet L22 0 = some (rv (me)) := eL22 ▸ jg_nr (by decide) g16
        have g24 : jGet L22 1 = some (.int (i32 (p))) := eL22 ▸ jg_ne (by decide) g17 rfl
        have g25 : jGet L22 2 = some (.int (i32 (n))) := eL22 ▸ jg_ne (by decide) g18 rfl
        have g26 : jGet L22 3 = some (rv (co)) := eL22 ▸ jg_nr (by decide) g20
        have g27 : jGet L22 4 = some (.int (i32 (z14))) := eL22 ▸ jg_ne (by decide) g21 rfl
        have g28 : jGet L22 5 = some (.int (i32 ((k + (1))))) := eL22 ▸ jg_eq
        clear eL22
        refine jx_go (tg := 33) rfl rfl ?_
        exact ih _ (by omega) L22 mx tgx lnx F8 (z14) ((k + (1))) (co) rfl g23 g24 g25 g27 g28 g26 hXx hC9 hM12 (by omega) (by omega) (Or.inr ⟨ho4.1, ho4.2⟩) (by omega) (by omega) (by omega) (by omega) (by omega) (own_z ho4.1) c13 (SB_m c11 (by omega)) cx_T3
set_option maxRecDepth 20000 in
set_option maxHeartbeats 4000000 in
theorem k_LY_run {X : jX} {dd : Nat} {R : Nat → jC} {m : Nat} {tg ln : Int → Int} {F : Int → Int → Int} {kk : Int} {me p n : Int} (hd : 7 ≤ dd) (hC : HC 0 m tg ln F) (o_me : own m me) (t_me : tg me = 1) (h_p : (-2147483648 : Int) ≤ p ∧ p ≤ 2147483647) (h_n : (-2147483648 : Int) ≤ n ∧ n ≤ 2147483647) (p_0 : 0 ≤ kk) (p_1 : kk ≤ 2000000000) (c_NP : NP m tg F) (c_SB : SB m tg F (kk)) (c_T3 : T3 m tg) : wk X dd 30 [rv me, .int (i32 p), .int (i32 n)] (cV R m tg ln F) (fun o V_q => (∃ (m_q : Nat) (tg_q ln_q : Int → Int) (F_q : Int → Int → Int) (r : Int), V_q = cV R m_q tg_q ln_q F_q ∧ o = .inl (some (.int (i32 r))) ∧ Ex m tg ln m_q tg_q ln_q ∧ HC 0 m_q tg_q ln_q F_q ∧ Fq 0 [(3, 5), (3, 6), (3, 7), (3, 8), (3, 9), (3, 10), (3, 11), (3, 12), (3, 13), (3, 14), (3, 16), (3, 17), (3, 18), (3, 19), (3, 20), (5, 2), (5, 3), (5, 4), (5, 5), (5, 6), (5, 7), (6, 4), (6, 6), (21, -5)] m tg F F_q ∧ (-2147483648 ≤ r ∧ r ≤ 2147483647) ∧ (szD m_q tg_q ln_q = szD m tg ln) ∧ ((m_q : Int) = (m : Int)) ∧ (NP m_q tg_q F_q) ∧ (SB m_q tg_q F_q (kk + 5000)) ∧ (T3 m_q tg_q) ∧ True) ∨ (∃ (m_q : Nat) (tg_q ln_q : Int → Int) (F_q : Int → Int → Int) (x : Nat), V_q = cV R m_q tg_q ln_q F_q ∧ o = .inr x ∧ Ex m tg ln m_q tg_q ln_q ∧ HC 0 m_q tg_q ln_q F_q ∧ Fq 0 [(3, 5), (3, 6), (3, 7), (3, 8), (3, 9), (3, 10), (3, 11), (3, 12), (3, 13), (3, 14), (3, 16), (3, 17), (3, 18), (3, 19), (3, 20), (5, 2), (5, 3), (5, 4), (5, 5), (5, 6), (5, 7), (6, 4), (6, 6), (21, -5)] m tg F F_q ∧ (own m_q (x : Int)) ∧ (tg_q (x : Int) = 16 ∨ tg_q (x : Int) = 17 ∨ tg_q (x : Int) = 14) ∧ (szD m_q tg_q ln_q = szD m tg ln + 25) ∧ ((m_q : Int) = (m : Int) + 1) ∧ (NP m_q tg_q F_q) ∧ (SB m_q tg_q F_q (kk + 5000)) ∧ (T3 m_q tg_q) ∧ True)) := by
  obtain ⟨d, rfl⟩ : ∃ d, dd = d + 1 := ⟨dd - 1, by omega⟩
  refine wk_of (e := jm30) rfl (by rw [jS_r, jS_i, jS_i, jS_0]; exact Nat.le_of_ble_eq_true rfl) ?_
  rw [la_r, la_i, la_i, la_0]
  show wj X d jm30 (0, [(0, rv (me)), (1, .int (i32 (p))), (2, .int (i32 (n)))], [], cV R m tg ln F) _
  have hM0 : Fq 0 [(3, 5), (3, 6), (3, 7), (3, 8), (3, 9), (3, 10), (3, 11), (3, 12), (3, 13), (3, 14), (3, 16), (3, 17), (3, 18), (3, 19), (3, 20), (5, 2), (5, 3), (5, 4), (5, 5), (5, 6), (5, 7), (6, 4), (6, 6), (21, -5)] m tg F F := Fq_r
  have hX0 : Ex m tg ln m tg ln := Ex_r
  obtain ⟨L0, eL0⟩ : ∃ q : jL, q = [(0, rv (me)), (1, .int (i32 (p))), (2, .int (i32 (n)))] := ⟨_, rfl⟩
  rw [← eL0]
  have g29 : jGet L0 0 = some (rv (me)) := eL0 ▸ (rfl : jGet [(0, rv (me)), (1, .int (i32 (p))), (2, .int (i32 (n)))] 0 = some (rv (me)))
  have g30 : jGet L0 1 = some (.int (i32 (p))) := eL0 ▸ (rfl : jGet [(0, rv (me)), (1, .int (i32 (p))), (2, .int (i32 (n)))] 1 = some (.int (i32 (p))))
  have g31 : jGet L0 2 = some (.int (i32 (n))) := eL0 ▸ (rfl : jGet [(0, rv (me)), (1, .int (i32 (p))), (2, .int (i32 (n)))] 2 = some (.int (i32 (n))))
  clear eL0
  refine jx_ld (pc_q := 1) (l_q := L0) (st_q := [rv (me)]) rfl (jl_rvn g29) ?_
  refine jx_ld (pc_q := 2) (l_q := L0) (st_q := [.int (i32 (p)), rv (me)]) rfl (jl_iloadn g30) ?_
  refine cx_vi (c := 0) (a := me) (st := []) (as := [.int (i32 (p))]) rfl rfl rfl o_me t_me (by decide) rfl ⟨rfl, rfl, (Nat.le_of_ble_eq_true rfl)⟩ rfl (k_LY_coreOf (dd := d) (R := R) (m := m) (tg := tg) (ln := ln) (F := F) (me := me) (p := p) (hd := by omega) (hC := hC) (o_me := o_me) (t_me := t_me) (h_p := by omega) (c_NP := c_NP) (kk := kk) (c_SB := c_SB) (c_T3 := c_T3)) (fun o V_q hq => ?_)
  obtain ⟨m32, tg32, ln32, F33, r34, rfl, rfl, hx35, hC36, hM37, b38, p39, p40, c41, c42, c43, -⟩ | ⟨m44, tg44, ln44, F44, x44, rfl, rfl, hx44, hC44, hM44, ho44, ht44, p45, p46, c47, c48, c49, -⟩ := hq
  rotate_left
  · rcases ht44 with ht44 | ht44
    ·
      refine Or.inr (Or.inr (Or.inr ⟨_, _, rfl, cx_exc (c := 15) ho44 ht44 (by decide), rfl, ?_⟩))
      exact Or.inr ⟨m44, tg44, ln44, F44, x44, rfl, rfl, Ex_t hX0 hx44, hC44, Fq_t (ln := ln) (ln1 := ln) hM0 hX0 hM44 (by decide) (Or.inl rfl), (And.intro ho44 ht44).1, Or.inl ((And.intro ho44 ht44).2), by omega, by omega, c47, SB_m c48 (by omega), c49, trivial⟩
    ·
      refine Or.inr (Or.inr (Or.inr ⟨_, _, rfl, cx_exc (c := 16) ho44 ht44 (by decide), rfl, ?_⟩))
      exact Or.inr ⟨m44, tg44, ln44, F44, x44, rfl, rfl, Ex_t hX0 hx44, hC44, Fq_t (ln := ln) (ln1 := ln) hM0 hX0 hM44 (by decide) (Or.inl rfl), (And.intro ho44 ht44).1, Or.inr (Or.inl ((And.intro ho44 ht44).2)), by omega, by omega, c47, SB_m c48 (by omega), c49, trivial⟩
  have hM50 : Fq 0 [(3, 5), (3, 6), (3, 7), (3, 8), (3, 9), (3, 10), (3, 11), (3, 12), (3, 13), (3, 14), (3, 16), (3, 17), (3, 18), (3, 19), (3, 20), (5, 2), (5, 3), (5, 4), (5, 5), (5, 6), (5, 7), (6, 4), (6, 6), (21, -5)] m tg F F33 := Fq_t (ln := ln) (ln1 := ln) hM0 hX0 hM37 (by decide) (Or.inl rfl)
  have ho51 : own m32 (me) ∧ tg32 (me) = 1 := Ex_o hx35 ⟨o_me, t_me⟩
  have hX52 := Ex_t hX0 hx35
  refine Or.inr (Or.inl ⟨_, rfl, ?_⟩)
  refine jx_ld (pc_q := 6) (l_q := jSto1 L0 3 (rv (r34))) (st_q := []) rfl (js_rvn (by decide)) ?_
  obtain ⟨L53, eL53⟩ : ∃ q : jL, q = jSto1 L0 3 (rv (r34)) := ⟨_, rfl⟩
  rw [← eL53]
  have g54 : jGet L53 0 = some (rv (me)) := eL53 ▸ jg_nr (by decide) g29
  have g55 : jGet L53 1 = some (.int (i32 (p))) := eL53 ▸ jg_ne (by decide) g30 rfl
  have g56 : jGet L53 2 = some (.int (i32 (n))) := eL53 ▸ jg_ne (by decide) g31 rfl
  have g57 : jGet L53 3 = some (rv (r34)) := eL53 ▸ jg_eq
  clear eL53
  refine jx_ld (pc_q := 7) (l_q := L53) (st_q := [.int (i32 (n))]) rfl (jl_iloadn g56) ?_
  refine jx_if_lt (pc_q := 10) (tg := 17) rfl rfl rfl (by omega) (by omega) (fun h58 => ?_) (fun h58 => ?_)
  · have _q := h58
    refine cx_thr2 (c := 13) rfl rfl rfl rfl ⟨by decide, by decide, (Nat.le_of_ble_eq_true rfl), rfl, rfl, rfl⟩ rfl rfl hC36 (fun x59 m59 tg59 ln59 F59 en59 em59 ho59 hx59 hC59 hf59 hs59 => ?_)
    have ex59 : 64 + (m : Int) ≤ (x59 : Int) := by have := hX52.1; omega
    have c60 : SB m59 tg59 F59 ((kk)) := SB_n c42 hC36.1 hx59 en59 em59 hf59 ho59.2 (Or.inl (by decide))
    have c61 : T3 m59 tg59 := T3_n c43 hC36.1 hx59 en59 em59 ho59.2 (by decide)
    have c62 : NP m59 tg59 F59 := NP_nn hC36 c41 hx59 en59 em59 (fun b i ob => hf59 b i (ne_n ob en59)) (fun w => absurd (ho59.2.symm.trans w) (by decide)) (fun w => absurd (ho59.2.symm.trans w) (by decide)) (fun w => absurd (ho59.2.symm.trans w) (by decide))
    have lm63 := hx59.1
    exact Or.inr ⟨m59, tg59, ln59, F59, x59, rfl, rfl, Ex_t hX52 hx59, hC59, Fq_n hM50 hf59 ex59, ho59.1, Or.inr (Or.inr (ho59.2)), by omega, by omega, c62, SB_m c60 (by omega), c61, trivial⟩
  · have _q := h58
    refine jx_ld (pc_q := 11) (l_q := L53) (st_q := [.int (i32 (n))]) rfl (jl_iloadn g56) ?_
    refine jx_ar (pc_q := 14) (st_q := [.int (i32 (5000)), .int (i32 (n))]) rfl rfl rfl rfl ?_
    refine jx_icmp_le (pc_q := 17) (tg := 27) rfl rfl rfl (by omega) (by omega) (by decide) (by decide) (fun h64 => ?_) (fun h64 => ?_)
    · have _q := h64
      refine jx_ar (pc_q := 28) (st_q := [.int (i32 (0))]) rfl rfl rfl rfl ?_
      refine jx_ld (pc_q := 30) (l_q := jSto1 L53 4 (.int (i32 (0)))) (st_q := []) rfl rfl ?_
      obtain ⟨L65, eL65⟩ : ∃ q : jL, q = jSto1 L53 4 (.int (i32 (0))) := ⟨_, rfl⟩
      rw [← eL65]
      have g66 : jGet L65 0 = some (rv (me)) := eL65 ▸ jg_nr (by decide) g54
      have g67 : jGet L65 1 = some (.int (i32 (p))) := eL65 ▸ jg_ne (by decide) g55 rfl
      have g68 : jGet L65 2 = some (.int (i32 (n))) := eL65 ▸ jg_ne (by decide) g56 rfl
      have g69 : jGet L65 3 = some (rv (r34)) := eL65 ▸ jg_nr (by decide) g57
      have g70 : jGet L65 4 = some (.int (i32 (0))) := eL65 ▸ jg_eq
      clear eL65
      refine jx_ar (pc_q := 31) (st_q := [.int (i32 (0))]) rfl rfl rfl rfl ?_
      refine jx_ld (pc_q := 33) (l_q := jSto1 L65 5 (.int (i32 (0)))) (st_q := []) rfl rfl ?_
      obtain ⟨L71, eL71⟩ : ∃ q : jL, q = jSto1 L65 5 (.int (i32 (0))) := ⟨_, rfl⟩
      rw [← eL71]
      have g72 : jGet L71 0 = some (rv (me)) := eL71 ▸ jg_nr (by decide) g66
      have g73 : jGet L71 1 = some (.int (i32 (p))) := eL71 ▸ jg_ne (by decide) g67 rfl
      have g74 : jGet L71 2 = some (.int (i32 (n))) := eL71 ▸ jg_ne (by decide) g68 rfl
      have g75 : jGet L71 3 = some (rv (r34)) := eL71 ▸ jg_nr (by decide) g69
      have g76 : jGet L71 4 = some (.int (i32 (0))) := eL71 ▸ jg_ne (by decide) g70 rfl
      have g77 : jGet L71 5 = some (.int (i32 (0))) := eL71 ▸ jg_eq
      clear eL71
      exact k_LY_run_at_33 (X := X) (d := d) (R := R) (m := m) (tg := tg) (ln := ln) (F := F) (kk := kk) (me := me) (p := p) (n := n) (hd := hd) (hC := hC) (o_me := o_me) (t_me := t_me) (h_p := h_p) (h_n := h_n) (p_0 := p_0) (p_1 := p_1) (c_NP := c_NP) (c_SB := c_SB) (c_T3 := c_T3) _ L71 m32 tg32 ln32 F33 (0) (0) (r34) rfl g72 g73 g74 g76 g77 g75 hX52 hC36 hM50 (by omega) (by omega) (Or.inr ⟨b38.1, b38.2⟩) (by omega) (by omega) (by omega) (by omega) (by omega) (own_z b38.1) c41 (SB_m c42 (by omega)) c43
    · have _q := h64
      refine cx_thr2 (c := 13) rfl rfl rfl rfl ⟨by decide, by decide, (Nat.le_of_ble_eq_true rfl), rfl, rfl, rfl⟩ rfl rfl hC36 (fun x78 m78 tg78 ln78 F78 en78 em78 ho78 hx78 hC78 hf78 hs78 => ?_)
      have ex78 : 64 + (m : Int) ≤ (x78 : Int) := by have := hX52.1; omega
      have c79 : SB m78 tg78 F78 ((kk)) := SB_n c42 hC36.1 hx78 en78 em78 hf78 ho78.2 (Or.inl (by decide))
      have c80 : T3 m78 tg78 := T3_n c43 hC36.1 hx78 en78 em78 ho78.2 (by decide)
      have c81 : NP m78 tg78 F78 := NP_nn hC36 c41 hx78 en78 em78 (fun b i ob => hf78 b i (ne_n ob en78)) (fun w => absurd (ho78.2.symm.trans w) (by decide)) (fun w => absurd (ho78.2.symm.trans w) (by decide)) (fun w => absurd (ho78.2.symm.trans w) (by decide))
      have lm82 := hx78.1
      exact Or.inr ⟨m78, tg78, ln78, F78, x78, rfl, rfl, Ex_t hX52 hx78, hC78, Fq_n hM50 hf78 ex78, ho78.1, Or.inr (Or.inr (ho78.2)), by omega, by omega, c81, SB_m c79 (by omega), c80, trivial⟩
set_option maxRecDepth 20000 in
set_option maxHeartbeats 4000000 in
theorem k_LY_beat_at_31 {X : jX} {d : Nat} {R : Nat → jC} {m : Nat} {tg ln : Int → Int} {F : Int → Int → Int} {kk : Int} {me n : Int} (hd : 7 ≤ d + 1) (hC : HC 0 m tg ln F) (o_me : own m me) (t_me : tg me = 1) (h_n : (-2147483648 : Int) ≤ n ∧ n ≤ 2147483647) (p_0 : 0 ≤ kk) (p_1 : kk ≤ 2000000000) (c_NP : NP m tg F) (c_SB : SB m tg F (kk)) (c_T3 : T3 m tg) : ∀ (mm : Nat) (L : jL) (mx : Nat) (tgx lnx : Int → Int) (Fx : Int → Int → Int) (we k mc : Int), (n - k).toNat = mm → jGet L 0 = some (rv (me)) → jGet L 1 = some (.int (i32 (n))) → jGet L 3 = some (.int (i32 we)) → jGet L 4 = some (.int (i32 k)) → jGet L 2 = some (rv mc) → Ex m tg ln mx tgx lnx → HC 0 mx tgx lnx Fx → Fq 0 [(3, 5), (3, 6), (3, 7), (3, 8), (3, 9), (3, 10), (3, 11), (3, 12), (3, 16), (3, 17), (3, 19), (3, 20), (5, 2), (5, 3), (5, 4), (5, 5), (5, 6), (5, 7), (6, 7), (6, 8), (21, -5)] m tg F Fx → ((-2147483648 : Int) ≤ we ∧ we ≤ 2147483647) → ((-2147483648 : Int) ≤ k ∧ k ≤ 2147483647) → (mc = 0 ∨ (own mx mc ∧ tgx mc = 6)) → (szD mx tgx lnx = szD m tg ln) → ((mx : Int) = (m : Int)) → (0 ≤ k) → (n ≤ 1000) → (k ≤ 1000) → (mc ≠ 0) → (NP mx tgx Fx) → (SB mx tgx Fx (kk)) → (T3 mx tgx) → wj X d jm31 (31, L, [], cV R mx tgx lnx Fx) (fun o V_q => (∃ (m_q : Nat) (tg_q ln_q : Int → Int) (F_q : Int → Int → Int) (r : Int), V_q = cV R m_q tg_q ln_q F_q ∧ o = .inl (some (.int (i32 r))) ∧ Ex m tg ln m_q tg_q ln_q ∧ HC 0 m_q tg_q ln_q F_q ∧ Fq 0 [(3, 5), (3, 6), (3, 7), (3, 8), (3, 9), (3, 10), (3, 11), (3, 12), (3, 16), (3, 17), (3, 19), (3, 20), (5, 2), (5, 3), (5, 4), (5, 5), (5, 6), (5, 7), (6, 7), (6, 8), (21, -5)] m tg F F_q ∧ (-2147483648 ≤ r ∧ r ≤ 2147483647) ∧ (szD m_q tg_q ln_q = szD m tg ln) ∧ ((m_q : Int) = (m : Int)) ∧ (NP m_q tg_q F_q) ∧ (SB m_q tg_q F_q (kk)) ∧ (T3 m_q tg_q) ∧ True) ∨ (∃ (m_q : Nat) (tg_q ln_q : Int → Int) (F_q : Int → Int → Int) (x : Nat), V_q = cV R m_q tg_q ln_q F_q ∧ o = .inr x ∧ Ex m tg ln m_q tg_q ln_q ∧ HC 0 m_q tg_q ln_q F_q ∧ Fq 0 [(3, 5), (3, 6), (3, 7), (3, 8), (3, 9), (3, 10), (3, 11), (3, 12), (3, 16), (3, 17), (3, 19), (3, 20), (5, 2), (5, 3), (5, 4), (5, 5), (5, 6), (5, 7), (6, 7), (6, 8), (21, -5)] m tg F F_q ∧ (own m_q (x : Int)) ∧ (tg_q (x : Int) = 16 ∨ tg_q (x : Int) = 14) ∧ (szD m_q tg_q ln_q = szD m tg ln + 25) ∧ ((m_q : Int) = (m : Int) + 1) ∧ (NP m_q tg_q F_q) ∧ (SB m_q tg_q F_q (kk)) ∧ (T3 m_q tg_q) ∧ True)) := by
  intro mm
  induction mm using Nat.strongRecOn with
  | ind mm ih =>
    intro L mx tgx lnx Fx we k mc hmm gL_0 gL_1 gL_3 gL_4 gL_2 hXx hCx hMx rx_we rx_k yx_mc iv_0 iv_1 iv_2 iv_3 iv_4 iv_5 cx_NP cx_SB cx_T3
    have hX0 : Ex m tg ln m tg ln := Ex_r
    have ho1 : own mx (me) ∧ tgx (me) = 1 := Ex_o hXx ⟨o_me, t_me⟩
    have hX2 := Ex_t hX0 hXx
    have hz3 : mc ≠ 0 := by omega
    have ho4 : own mx (mc) ∧ tgx (mc) = 6 := yx_mc.resolve_left hz3
    refine jx_ld (pc_q := 33) (l_q := L) (st_q := [.int (i32 (k))]) rfl (jl_iload gL_4) ?_
    refine jx_ld (pc_q := 34) (l_q := L) (st_q := [.int (i32 (n)), .int (i32 (k))]) rfl (jl_iloadn gL_1) ?_
    refine jx_icmp_ge (pc_q := 37) (tg := 50) rfl rfl rfl (by omega) (by omega) (by omega) (by omega) (fun h5 => ?_) (fun h5 => ?_)
    · have _q := h5
      refine jx_ld (pc_q := 51) (l_q := L) (st_q := [.int (i32 (we))]) rfl (jl_iloadn gL_3) ?_
      refine jx_rt (v := some (.int (i32 (we)))) rfl rfl rfl rfl rfl rfl ?_
      exact Or.inl ⟨mx, tgx, lnx, Fx, (we), rfl, rfl, hXx, hCx, hMx, by omega, by omega, by omega, cx_NP, SB_m cx_SB (by omega), cx_T3, trivial⟩
    · have _q := h5
      refine jx_ld (pc_q := 38) (l_q := L) (st_q := [.int (i32 (we))]) rfl (jl_iloadn gL_3) ?_
      refine jx_ld (pc_q := 39) (l_q := L) (st_q := [rv (mc), .int (i32 (we))]) rfl (jl_rvn gL_2) ?_
      refine cx_vi (c := 5) (a := mc) (st := [.int (i32 (we))]) (as := []) rfl rfl rfl ho4.1 ho4.2 (by decide) rfl ⟨rfl, rfl, (by rw [jS_i, jS_0]; exact Nat.le_of_ble_eq_true rfl)⟩ rfl (k_LMachine_pulse (dd := d) (R := R) (m := mx) (tg := tgx) (ln := lnx) (F := Fx) (me := mc) (hd := by omega) (hC := hCx) (o_me := ho4.1) (t_me := ho4.2)) (fun o V_q hq => ?_)
      obtain ⟨F6, r7, rfl, rfl, hC8, hM9, b10, -⟩ := hq
      have hM11 : Fq 0 [(3, 5), (3, 6), (3, 7), (3, 8), (3, 9), (3, 10), (3, 11), (3, 12), (3, 16), (3, 17), (3, 19), (3, 20), (5, 2), (5, 3), (5, 4), (5, 5), (5, 6), (5, 7), (6, 7), (6, 8), (21, -5)] m tg F F6 := Fq_t (ln := ln) (ln1 := lnx) hMx hXx hM9 (by decide) (Or.inl rfl)
      have c12 : NP mx tgx F6 := NP_q hCx cx_NP hM9 rfl rfl
      have c13 : SB mx tgx F6 (kk) := SB_q cx_SB hM9 rfl
      refine Or.inr (Or.inl ⟨_, rfl, ?_⟩)
      refine jx_add (pc_q := 43) rfl rfl ?_
      obtain ⟨z14, ez14⟩ : ∃ q, q = (i32 ((we + r7))).toInt := ⟨_, rfl⟩
      have bz14 : (-2147483648 : Int) ≤ z14 ∧ z14 ≤ 2147483647 := ez14 ▸ i32_rg _
      rw [show i32 ((we + r7)) = i32 z14 by rw [ez14, i32_of]]
      clear ez14
      refine jx_ld (pc_q := 44) (l_q := jSto1 L 3 (.int (i32 (z14)))) (st_q := []) rfl rfl ?_
      obtain ⟨L15, eL15⟩ : ∃ q : jL, q = jSto1 L 3 (.int (i32 (z14))) := ⟨_, rfl⟩
      rw [← eL15]
      have g16 : jGet L15 0 = some (rv (me)) := eL15 ▸ jg_nr (by decide) gL_0
      have g17 : jGet L15 1 = some (.int (i32 (n))) := eL15 ▸ jg_ne (by decide) gL_1 rfl
      have g18 : jGet L15 4 = some (.int (i32 (k))) := eL15 ▸ jg_ne (by decide) gL_4 rfl
      have g19 : jGet L15 2 = some (rv (mc)) := eL15 ▸ jg_nr (by decide) gL_2
      have g20 : jGet L15 3 = some (.int (i32 (z14))) := eL15 ▸ jg_eq
      clear eL15
      refine jx_inc (pc_q := 47) (l_q := jSto1 L15 4 (.int (i32 (k + (1))))) (x := k) rfl g18 (by decide) rfl rfl ?_
      obtain ⟨L21, eL21⟩ : ∃ q : jL, q = jSto1 L15 4 (.int (i32 ((k + (1))))) := ⟨_, rfl⟩
      rw [← eL21]
      have g22 : jGet L21 0 = some (rv (me)) := eL21 ▸ jg_nr (by decide) g16
      have g23 : jGet L21 1 = some (.int (i32 (n))) := eL21 ▸ jg_ne (by decide) g17 rfl
      have g24 : jGet L21 2 = some (rv (mc)) := eL21 ▸ jg_nr (by decide) g19
      have g25 : jGet L21 3 = some (.int (i32 (z14))) := eL21 ▸ jg_ne (by decide) g20 rfl
      have g26 : jGet L21 4 = some (.int (i32 ((k + (1))))) := eL21 ▸ jg_eq
      clear eL21
      refine jx_go (tg := 31) rfl rfl ?_
      exact ih _ (by omega) L21 mx tgx lnx F6 (z14) ((k + (1))) (mc) rfl g22 g23 g25 g26 g24 hXx hC8 hM11 (by omega) (by omega) (Or.inr ⟨ho4.1, ho4.2⟩) (by omega) (by omega) (by omega) (by omega) (by omega) (own_z ho4.1) c12 (SB_m c13 (by omega)) cx_T3
set_option maxRecDepth 20000 in
set_option maxHeartbeats 4000000 in
theorem k_LY_beat {X : jX} {dd : Nat} {R : Nat → jC} {m : Nat} {tg ln : Int → Int} {F : Int → Int → Int} {kk : Int} {me n : Int} (hd : 7 ≤ dd) (hC : HC 0 m tg ln F) (o_me : own m me) (t_me : tg me = 1) (h_n : (-2147483648 : Int) ≤ n ∧ n ≤ 2147483647) (p_0 : 0 ≤ kk) (p_1 : kk ≤ 2000000000) (c_NP : NP m tg F) (c_SB : SB m tg F (kk)) (c_T3 : T3 m tg) : wk X dd 31 [rv me, .int (i32 n)] (cV R m tg ln F) (fun o V_q => (∃ (m_q : Nat) (tg_q ln_q : Int → Int) (F_q : Int → Int → Int) (r : Int), V_q = cV R m_q tg_q ln_q F_q ∧ o = .inl (some (.int (i32 r))) ∧ Ex m tg ln m_q tg_q ln_q ∧ HC 0 m_q tg_q ln_q F_q ∧ Fq 0 [(3, 5), (3, 6), (3, 7), (3, 8), (3, 9), (3, 10), (3, 11), (3, 12), (3, 16), (3, 17), (3, 19), (3, 20), (5, 2), (5, 3), (5, 4), (5, 5), (5, 6), (5, 7), (6, 7), (6, 8), (21, -5)] m tg F F_q ∧ (-2147483648 ≤ r ∧ r ≤ 2147483647) ∧ (szD m_q tg_q ln_q = szD m tg ln) ∧ ((m_q : Int) = (m : Int)) ∧ (NP m_q tg_q F_q) ∧ (SB m_q tg_q F_q (kk)) ∧ (T3 m_q tg_q) ∧ True) ∨ (∃ (m_q : Nat) (tg_q ln_q : Int → Int) (F_q : Int → Int → Int) (x : Nat), V_q = cV R m_q tg_q ln_q F_q ∧ o = .inr x ∧ Ex m tg ln m_q tg_q ln_q ∧ HC 0 m_q tg_q ln_q F_q ∧ Fq 0 [(3, 5), (3, 6), (3, 7), (3, 8), (3, 9), (3, 10), (3, 11), (3, 12), (3, 16), (3, 17), (3, 19), (3, 20), (5, 2), (5, 3), (5, 4), (5, 5), (5, 6), (5, 7), (6, 7), (6, 8), (21, -5)] m tg F F_q ∧ (own m_q (x : Int)) ∧ (tg_q (x : Int) = 16 ∨ tg_q (x : Int) = 14) ∧ (szD m_q tg_q ln_q = szD m tg ln + 25) ∧ ((m_q : Int) = (m : Int) + 1) ∧ (NP m_q tg_q F_q) ∧ (SB m_q tg_q F_q (kk)) ∧ (T3 m_q tg_q) ∧ True)) := by
  obtain ⟨d, rfl⟩ : ∃ d, dd = d + 1 := ⟨dd - 1, by omega⟩
  refine wk_of (e := jm31) rfl (by rw [jS_r, jS_i, jS_0]; exact Nat.le_of_ble_eq_true rfl) ?_
  rw [la_r, la_i, la_0]
  show wj X d jm31 (0, [(0, rv (me)), (1, .int (i32 (n)))], [], cV R m tg ln F) _
  have hM0 : Fq 0 [(3, 5), (3, 6), (3, 7), (3, 8), (3, 9), (3, 10), (3, 11), (3, 12), (3, 16), (3, 17), (3, 19), (3, 20), (5, 2), (5, 3), (5, 4), (5, 5), (5, 6), (5, 7), (6, 7), (6, 8), (21, -5)] m tg F F := Fq_r
  have hX0 : Ex m tg ln m tg ln := Ex_r
  obtain ⟨L0, eL0⟩ : ∃ q : jL, q = [(0, rv (me)), (1, .int (i32 (n)))] := ⟨_, rfl⟩
  rw [← eL0]
  have g27 : jGet L0 0 = some (rv (me)) := eL0 ▸ (rfl : jGet [(0, rv (me)), (1, .int (i32 (n)))] 0 = some (rv (me)))
  have g28 : jGet L0 1 = some (.int (i32 (n))) := eL0 ▸ (rfl : jGet [(0, rv (me)), (1, .int (i32 (n)))] 1 = some (.int (i32 (n))))
  clear eL0
  refine jx_ld (pc_q := 1) (l_q := L0) (st_q := [rv (me)]) rfl (jl_rvn g27) ?_
  refine cx_vi (c := 0) (a := me) (st := []) (as := []) rfl rfl rfl o_me t_me (by decide) rfl ⟨rfl, rfl, (Nat.le_of_ble_eq_true rfl)⟩ rfl (k_LY_loaded (dd := d) (R := R) (m := m) (tg := tg) (ln := ln) (F := F) (me := me) (hd := by omega) (hC := hC) (o_me := o_me) (t_me := t_me) (c_NP := c_NP) (kk := kk) (c_SB := c_SB) (c_T3 := c_T3)) (fun o V_q hq => ?_)
  obtain ⟨m29, tg29, ln29, F30, r31, rfl, rfl, hx32, hC33, hM34, b35, p36, p37, c38, c39, c40, -⟩ | ⟨m41, tg41, ln41, F41, x41, rfl, rfl, hx41, hC41, hM41, ho41, ht41, p42, p43, c44, c45, c46, -⟩ := hq
  rotate_left
  ·
    refine Or.inr (Or.inr (Or.inr ⟨_, _, rfl, cx_exc (c := 15) ho41 ht41 (by decide), rfl, ?_⟩))
    exact Or.inr ⟨m41, tg41, ln41, F41, x41, rfl, rfl, Ex_t hX0 hx41, hC41, Fq_t (ln := ln) (ln1 := ln) hM0 hX0 hM41 (by decide) (Or.inl rfl), (And.intro ho41 ht41).1, Or.inl ((And.intro ho41 ht41).2), by omega, by omega, c44, SB_m c45 (by omega), c46, trivial⟩
  have hM47 : Fq 0 [(3, 5), (3, 6), (3, 7), (3, 8), (3, 9), (3, 10), (3, 11), (3, 12), (3, 16), (3, 17), (3, 19), (3, 20), (5, 2), (5, 3), (5, 4), (5, 5), (5, 6), (5, 7), (6, 7), (6, 8), (21, -5)] m tg F F30 := Fq_t (ln := ln) (ln1 := ln) hM0 hX0 hM34 (by decide) (Or.inl rfl)
  have ho48 : own m29 (me) ∧ tg29 (me) = 1 := Ex_o hx32 ⟨o_me, t_me⟩
  have hX49 := Ex_t hX0 hx32
  refine Or.inr (Or.inl ⟨_, rfl, ?_⟩)
  refine jx_ld (pc_q := 5) (l_q := jSto1 L0 2 (rv (r31))) (st_q := []) rfl (js_rvn (by decide)) ?_
  obtain ⟨L50, eL50⟩ : ∃ q : jL, q = jSto1 L0 2 (rv (r31)) := ⟨_, rfl⟩
  rw [← eL50]
  have g51 : jGet L50 0 = some (rv (me)) := eL50 ▸ jg_nr (by decide) g27
  have g52 : jGet L50 1 = some (.int (i32 (n))) := eL50 ▸ jg_ne (by decide) g28 rfl
  have g53 : jGet L50 2 = some (rv (r31)) := eL50 ▸ jg_eq
  clear eL50
  refine jx_ld (pc_q := 6) (l_q := L50) (st_q := [.int (i32 (n))]) rfl (jl_iloadn g52) ?_
  refine jx_if_lt (pc_q := 9) (tg := 16) rfl rfl rfl (by omega) (by omega) (fun h54 => ?_) (fun h54 => ?_)
  · have _q := h54
    refine cx_thr2 (c := 13) rfl rfl rfl rfl ⟨by decide, by decide, (Nat.le_of_ble_eq_true rfl), rfl, rfl, rfl⟩ rfl rfl hC33 (fun x55 m55 tg55 ln55 F55 en55 em55 ho55 hx55 hC55 hf55 hs55 => ?_)
    have ex55 : 64 + (m : Int) ≤ (x55 : Int) := by have := hX49.1; omega
    have c56 : SB m55 tg55 F55 ((kk)) := SB_n c39 hC33.1 hx55 en55 em55 hf55 ho55.2 (Or.inl (by decide))
    have c57 : T3 m55 tg55 := T3_n c40 hC33.1 hx55 en55 em55 ho55.2 (by decide)
    have c58 : NP m55 tg55 F55 := NP_nn hC33 c38 hx55 en55 em55 (fun b i ob => hf55 b i (ne_n ob en55)) (fun w => absurd (ho55.2.symm.trans w) (by decide)) (fun w => absurd (ho55.2.symm.trans w) (by decide)) (fun w => absurd (ho55.2.symm.trans w) (by decide))
    have lm59 := hx55.1
    exact Or.inr ⟨m55, tg55, ln55, F55, x55, rfl, rfl, Ex_t hX49 hx55, hC55, Fq_n hM47 hf55 ex55, ho55.1, Or.inr (ho55.2), by omega, by omega, c58, SB_m c56 (by omega), c57, trivial⟩
  · have _q := h54
    refine jx_ld (pc_q := 10) (l_q := L50) (st_q := [.int (i32 (n))]) rfl (jl_iloadn g52) ?_
    refine jx_ar (pc_q := 13) (st_q := [.int (i32 (1000)), .int (i32 (n))]) rfl rfl rfl rfl ?_
    refine jx_icmp_le (pc_q := 16) (tg := 26) rfl rfl rfl (by omega) (by omega) (by decide) (by decide) (fun h60 => ?_) (fun h60 => ?_)
    · have _q := h60
      refine jx_ar (pc_q := 27) (st_q := [.int (i32 (0))]) rfl rfl rfl rfl ?_
      refine jx_ld (pc_q := 28) (l_q := jSto1 L50 3 (.int (i32 (0)))) (st_q := []) rfl rfl ?_
      obtain ⟨L61, eL61⟩ : ∃ q : jL, q = jSto1 L50 3 (.int (i32 (0))) := ⟨_, rfl⟩
      rw [← eL61]
      have g62 : jGet L61 0 = some (rv (me)) := eL61 ▸ jg_nr (by decide) g51
      have g63 : jGet L61 1 = some (.int (i32 (n))) := eL61 ▸ jg_ne (by decide) g52 rfl
      have g64 : jGet L61 2 = some (rv (r31)) := eL61 ▸ jg_nr (by decide) g53
      have g65 : jGet L61 3 = some (.int (i32 (0))) := eL61 ▸ jg_eq
      clear eL61
      refine jx_ar (pc_q := 29) (st_q := [.int (i32 (0))]) rfl rfl rfl rfl ?_
      refine jx_ld (pc_q := 31) (l_q := jSto1 L61 4 (.int (i32 (0)))) (st_q := []) rfl rfl ?_
      obtain ⟨L66, eL66⟩ : ∃ q : jL, q = jSto1 L61 4 (.int (i32 (0))) := ⟨_, rfl⟩
      rw [← eL66]
      have g67 : jGet L66 0 = some (rv (me)) := eL66 ▸ jg_nr (by decide) g62
      have g68 : jGet L66 1 = some (.int (i32 (n))) := eL66 ▸ jg_ne (by decide) g63 rfl
      have g69 : jGet L66 2 = some (rv (r31)) := eL66 ▸ jg_nr (by decide) g64
      have g70 : jGet L66 3 = some (.int (i32 (0))) := eL66 ▸ jg_ne (by decide) g65 rfl
      have g71 : jGet L66 4 = some (.int (i32 (0))) := eL66 ▸ jg_eq
      clear eL66
      exact k_LY_beat_at_31 (X := X) (d := d) (R := R) (m := m) (tg := tg) (ln := ln) (F := F) (kk := kk) (me := me) (n := n) (hd := hd) (hC := hC) (o_me := o_me) (t_me := t_me) (h_n := h_n) (p_0 := p_0) (p_1 := p_1) (c_NP := c_NP) (c_SB := c_SB) (c_T3 := c_T3) _ L66 m29 tg29 ln29 F30 (0) (0) (r31) rfl g67 g68 g70 g71 g69 hX49 hC33 hM47 (by omega) (by omega) (Or.inr ⟨b35.1, b35.2⟩) (by omega) (by omega) (by omega) (by omega) (by omega) (own_z b35.1) c38 (SB_m c39 (by omega)) c40
    · have _q := h60
      refine cx_thr2 (c := 13) rfl rfl rfl rfl ⟨by decide, by decide, (Nat.le_of_ble_eq_true rfl), rfl, rfl, rfl⟩ rfl rfl hC33 (fun x72 m72 tg72 ln72 F72 en72 em72 ho72 hx72 hC72 hf72 hs72 => ?_)
      have ex72 : 64 + (m : Int) ≤ (x72 : Int) := by have := hX49.1; omega
      have c73 : SB m72 tg72 F72 ((kk)) := SB_n c39 hC33.1 hx72 en72 em72 hf72 ho72.2 (Or.inl (by decide))
      have c74 : T3 m72 tg72 := T3_n c40 hC33.1 hx72 en72 em72 ho72.2 (by decide)
      have c75 : NP m72 tg72 F72 := NP_nn hC33 c38 hx72 en72 em72 (fun b i ob => hf72 b i (ne_n ob en72)) (fun w => absurd (ho72.2.symm.trans w) (by decide)) (fun w => absurd (ho72.2.symm.trans w) (by decide)) (fun w => absurd (ho72.2.symm.trans w) (by decide))
      have lm76 := hx72.1
      exact Or.inr ⟨m72, tg72, ln72, F72, x72, rfl, rfl, Ex_t hX49 hx72, hC72, Fq_n hM47 hf72 ex72, ho72.1, Or.inr (ho72.2), by omega, by omega, c75, SB_m c73 (by omega), c74, trivial⟩
set_option maxRecDepth 20000 in
set_option maxHeartbeats 4000000 in
theorem k_LY_rounds_at_31 {X : jX} {d : Nat} {R : Nat → jC} {m : Nat} {tg ln : Int → Int} {F : Int → Int → Int} {kk : Int} {me n : Int} (hd : 8 ≤ d + 1) (hC : HC 0 m tg ln F) (o_me : own m me) (t_me : tg me = 1) (h_n : (-2147483648 : Int) ≤ n ∧ n ≤ 2147483647) (p_0 : 0 ≤ kk) (p_1 : kk ≤ 2000000000) (c_NP : NP m tg F) (c_SB : SB m tg F (kk)) (c_T3 : T3 m tg) : ∀ (mm : Nat) (L : jL) (mx : Nat) (tgx lnx : Int → Int) (Fx : Int → Int → Int) (dn k mc : Int), (n - k).toNat = mm → jGet L 0 = some (rv (me)) → jGet L 1 = some (.int (i32 (n))) → jGet L 3 = some (.int (i32 dn)) → jGet L 4 = some (.int (i32 k)) → jGet L 2 = some (rv mc) → Ex m tg ln mx tgx lnx → HC 0 mx tgx lnx Fx → Fq 0 [(3, 5), (3, 6), (3, 7), (3, 8), (3, 9), (3, 10), (3, 11), (3, 12), (3, 13), (3, 14), (3, 16), (3, 17), (3, 18), (3, 19), (3, 20), (5, 2), (5, 3), (5, 4), (5, 5), (5, 6), (5, 7), (6, 4), (6, 6), (6, 7), (6, 8), (21, -5)] m tg F Fx → ((-2147483648 : Int) ≤ dn ∧ dn ≤ 2147483647) → ((-2147483648 : Int) ≤ k ∧ k ≤ 2147483647) → (mc = 0 ∨ (own mx mc ∧ tgx mc = 6)) → (szD mx tgx lnx = szD m tg ln) → ((mx : Int) = (m : Int)) → (0 ≤ k) → (n ≤ 5000) → (k ≤ 5000) → (mc ≠ 0) → (NP mx tgx Fx) → (SB mx tgx Fx (kk + 6 * k)) → (T3 mx tgx) → wj X d jm32 (31, L, [], cV R mx tgx lnx Fx) (fun o V_q => (∃ (m_q : Nat) (tg_q ln_q : Int → Int) (F_q : Int → Int → Int) (r : Int), V_q = cV R m_q tg_q ln_q F_q ∧ o = .inl (some (.int (i32 r))) ∧ Ex m tg ln m_q tg_q ln_q ∧ HC 0 m_q tg_q ln_q F_q ∧ Fq 0 [(3, 5), (3, 6), (3, 7), (3, 8), (3, 9), (3, 10), (3, 11), (3, 12), (3, 13), (3, 14), (3, 16), (3, 17), (3, 18), (3, 19), (3, 20), (5, 2), (5, 3), (5, 4), (5, 5), (5, 6), (5, 7), (6, 4), (6, 6), (6, 7), (6, 8), (21, -5)] m tg F F_q ∧ (-2147483648 ≤ r ∧ r ≤ 2147483647) ∧ (szD m_q tg_q ln_q = szD m tg ln) ∧ ((m_q : Int) = (m : Int)) ∧ (NP m_q tg_q F_q) ∧ (SB m_q tg_q F_q (kk + 30000)) ∧ (T3 m_q tg_q) ∧ True) ∨ (∃ (m_q : Nat) (tg_q ln_q : Int → Int) (F_q : Int → Int → Int) (x : Nat), V_q = cV R m_q tg_q ln_q F_q ∧ o = .inr x ∧ Ex m tg ln m_q tg_q ln_q ∧ HC 0 m_q tg_q ln_q F_q ∧ Fq 0 [(3, 5), (3, 6), (3, 7), (3, 8), (3, 9), (3, 10), (3, 11), (3, 12), (3, 13), (3, 14), (3, 16), (3, 17), (3, 18), (3, 19), (3, 20), (5, 2), (5, 3), (5, 4), (5, 5), (5, 6), (5, 7), (6, 4), (6, 6), (6, 7), (6, 8), (21, -5)] m tg F F_q ∧ (own m_q (x : Int)) ∧ (tg_q (x : Int) = 16 ∨ tg_q (x : Int) = 14) ∧ (szD m_q tg_q ln_q = szD m tg ln + 25) ∧ ((m_q : Int) = (m : Int) + 1) ∧ (NP m_q tg_q F_q) ∧ (SB m_q tg_q F_q (kk + 30000)) ∧ (T3 m_q tg_q) ∧ True)) := by
  intro mm
  induction mm using Nat.strongRecOn with
  | ind mm ih =>
    intro L mx tgx lnx Fx dn k mc hmm gL_0 gL_1 gL_3 gL_4 gL_2 hXx hCx hMx rx_dn rx_k yx_mc iv_0 iv_1 iv_2 iv_3 iv_4 iv_5 cx_NP cx_SB cx_T3
    have hX0 : Ex m tg ln m tg ln := Ex_r
    have ho1 : own mx (me) ∧ tgx (me) = 1 := Ex_o hXx ⟨o_me, t_me⟩
    have hX2 := Ex_t hX0 hXx
    have hz3 : mc ≠ 0 := by omega
    have ho4 : own mx (mc) ∧ tgx (mc) = 6 := yx_mc.resolve_left hz3
    refine jx_ld (pc_q := 33) (l_q := L) (st_q := [.int (i32 (k))]) rfl (jl_iload gL_4) ?_
    refine jx_ld (pc_q := 34) (l_q := L) (st_q := [.int (i32 (n)), .int (i32 (k))]) rfl (jl_iloadn gL_1) ?_
    refine jx_icmp_ge (pc_q := 37) (tg := 57) rfl rfl rfl (by omega) (by omega) (by omega) (by omega) (fun h5 => ?_) (fun h5 => ?_)
    · have _q := h5
      refine jx_ld (pc_q := 58) (l_q := L) (st_q := [.int (i32 (dn))]) rfl (jl_iloadn gL_3) ?_
      refine jx_rt (v := some (.int (i32 (dn)))) rfl rfl rfl rfl rfl rfl ?_
      exact Or.inl ⟨mx, tgx, lnx, Fx, (dn), rfl, rfl, hXx, hCx, hMx, by omega, by omega, by omega, cx_NP, SB_m cx_SB (by omega), cx_T3, trivial⟩
    · have _q := h5
      refine jx_ld (pc_q := 38) (l_q := L) (st_q := [rv (mc)]) rfl (jl_rvn gL_2) ?_
      refine cx_vi (c := 5) (a := mc) (st := []) (as := []) rfl rfl rfl ho4.1 ho4.2 (by decide) rfl ⟨rfl, rfl, (Nat.le_of_ble_eq_true rfl)⟩ rfl (k_LMachine_result (dd := d) (R := R) (m := mx) (tg := tgx) (ln := lnx) (F := Fx) (me := mc) (hd := by omega) (hC := hCx) (o_me := ho4.1) (t_me := ho4.2)) (fun o V_q hq => ?_)
      obtain ⟨r6, rfl, rfl, b7, -⟩ := hq
      refine Or.inr (Or.inl ⟨_, rfl, ?_⟩)
      refine jx_if_ne (pc_q := 44) (tg := 57) rfl rfl rfl (by omega) (by omega) (fun h8 => ?_) (fun h8 => ?_)
      · have _q := h8
        refine jx_ld (pc_q := 58) (l_q := L) (st_q := [.int (i32 (dn))]) rfl (jl_iloadn gL_3) ?_
        refine jx_rt (v := some (.int (i32 (dn)))) rfl rfl rfl rfl rfl rfl ?_
        exact Or.inl ⟨mx, tgx, lnx, Fx, (dn), rfl, rfl, hXx, hCx, hMx, by omega, by omega, by omega, cx_NP, SB_m cx_SB (by omega), cx_T3, trivial⟩
      · have _q := h8
        refine jx_ld (pc_q := 45) (l_q := L) (st_q := [rv (mc)]) rfl (jl_rvn gL_2) ?_
        refine cx_vi (c := 5) (a := mc) (st := []) (as := []) rfl rfl rfl ho4.1 ho4.2 (by decide) rfl ⟨rfl, rfl, (Nat.le_of_ble_eq_true rfl)⟩ rfl (k_LMachine_round (dd := d) (R := R) (m := mx) (tg := tgx) (ln := lnx) (F := Fx) (me := mc) (hd := by omega) (hC := hCx) (o_me := ho4.1) (t_me := ho4.2) (p_0 := by omega) (kk := kk + 6 * k) (c_SB := cx_SB)) (fun o V_q hq => ?_)
        obtain ⟨F9, rfl, rfl, hC10, hM11, c12, -⟩ := hq
        have hM13 : Fq 0 [(3, 5), (3, 6), (3, 7), (3, 8), (3, 9), (3, 10), (3, 11), (3, 12), (3, 13), (3, 14), (3, 16), (3, 17), (3, 18), (3, 19), (3, 20), (5, 2), (5, 3), (5, 4), (5, 5), (5, 6), (5, 7), (6, 4), (6, 6), (6, 7), (6, 8), (21, -5)] m tg F F9 := Fq_t (ln := ln) (ln1 := lnx) hMx hXx hM11 (by decide) (Or.inl rfl)
        have c14 : NP mx tgx F9 := NP_q hCx cx_NP hM11 rfl rfl
        refine Or.inl ⟨rfl, ?_⟩
        refine jx_inc (pc_q := 51) (l_q := jSto1 L 3 (.int (i32 (dn + (1))))) (x := dn) rfl gL_3 (by decide) rfl rfl ?_
        obtain ⟨z15, ez15⟩ : ∃ q, q = (i32 ((dn + (1)))).toInt := ⟨_, rfl⟩
        have bz15 : (-2147483648 : Int) ≤ z15 ∧ z15 ≤ 2147483647 := ez15 ▸ i32_rg _
        rw [show i32 ((dn + (1))) = i32 z15 by rw [ez15, i32_of]]
        clear ez15
        obtain ⟨L16, eL16⟩ : ∃ q : jL, q = jSto1 L 3 (.int (i32 (z15))) := ⟨_, rfl⟩
        rw [← eL16]
        have g17 : jGet L16 0 = some (rv (me)) := eL16 ▸ jg_nr (by decide) gL_0
        have g18 : jGet L16 1 = some (.int (i32 (n))) := eL16 ▸ jg_ne (by decide) gL_1 rfl
        have g19 : jGet L16 4 = some (.int (i32 (k))) := eL16 ▸ jg_ne (by decide) gL_4 rfl
        have g20 : jGet L16 2 = some (rv (mc)) := eL16 ▸ jg_nr (by decide) gL_2
        have g21 : jGet L16 3 = some (.int (i32 (z15))) := eL16 ▸ jg_eq
        clear eL16
        refine jx_inc (pc_q := 54) (l_q := jSto1 L16 4 (.int (i32 (k + (1))))) (x := k) rfl g19 (by decide) rfl rfl ?_
        obtain ⟨L22, eL22⟩ : ∃ q : jL, q = jSto1 L16 4 (.int (i32 ((k + (1))))) := ⟨_, rfl⟩
        rw [← eL22]
        have g23 : jGet L22 0 = some (rv (me)) := eL22 ▸ jg_nr (by decide) g17
        have g24 : jGet L22 1 = some (.int (i32 (n))) := eL22 ▸ jg_ne (by decide) g18 rfl
        have g25 : jGet L22 2 = some (rv (mc)) := eL22 ▸ jg_nr (by decide) g20
        have g26 : jGet L22 3 = some (.int (i32 (z15))) := eL22 ▸ jg_ne (by decide) g21 rfl
        have g27 : jGet L22 4 = some (.int (i32 ((k + (1))))) := eL22 ▸ jg_eq
        clear eL22
        refine jx_go (tg := 31) rfl rfl ?_
        exact ih _ (by omega) L22 mx tgx lnx F9 (z15) ((k + (1))) (mc) rfl g23 g24 g26 g27 g25 hXx hC10 hM13 (by omega) (by omega) (Or.inr ⟨ho4.1, ho4.2⟩) (by omega) (by omega) (by omega) (by omega) (by omega) (own_z ho4.1) c14 (SB_m c12 (by omega)) cx_T3
set_option maxRecDepth 20000 in
set_option maxHeartbeats 4000000 in
theorem k_LY_rounds {X : jX} {dd : Nat} {R : Nat → jC} {m : Nat} {tg ln : Int → Int} {F : Int → Int → Int} {kk : Int} {me n : Int} (hd : 8 ≤ dd) (hC : HC 0 m tg ln F) (o_me : own m me) (t_me : tg me = 1) (h_n : (-2147483648 : Int) ≤ n ∧ n ≤ 2147483647) (p_0 : 0 ≤ kk) (p_1 : kk ≤ 2000000000) (c_NP : NP m tg F) (c_SB : SB m tg F (kk)) (c_T3 : T3 m tg) : wk X dd 32 [rv me, .int (i32 n)] (cV R m tg ln F) (fun o V_q => (∃ (m_q : Nat) (tg_q ln_q : Int → Int) (F_q : Int → Int → Int) (r : Int), V_q = cV R m_q tg_q ln_q F_q ∧ o = .inl (some (.int (i32 r))) ∧ Ex m tg ln m_q tg_q ln_q ∧ HC 0 m_q tg_q ln_q F_q ∧ Fq 0 [(3, 5), (3, 6), (3, 7), (3, 8), (3, 9), (3, 10), (3, 11), (3, 12), (3, 13), (3, 14), (3, 16), (3, 17), (3, 18), (3, 19), (3, 20), (5, 2), (5, 3), (5, 4), (5, 5), (5, 6), (5, 7), (6, 4), (6, 6), (6, 7), (6, 8), (21, -5)] m tg F F_q ∧ (-2147483648 ≤ r ∧ r ≤ 2147483647) ∧ (szD m_q tg_q ln_q = szD m tg ln) ∧ ((m_q : Int) = (m : Int)) ∧ (NP m_q tg_q F_q) ∧ (SB m_q tg_q F_q (kk + 30000)) ∧ (T3 m_q tg_q) ∧ True) ∨ (∃ (m_q : Nat) (tg_q ln_q : Int → Int) (F_q : Int → Int → Int) (x : Nat), V_q = cV R m_q tg_q ln_q F_q ∧ o = .inr x ∧ Ex m tg ln m_q tg_q ln_q ∧ HC 0 m_q tg_q ln_q F_q ∧ Fq 0 [(3, 5), (3, 6), (3, 7), (3, 8), (3, 9), (3, 10), (3, 11), (3, 12), (3, 13), (3, 14), (3, 16), (3, 17), (3, 18), (3, 19), (3, 20), (5, 2), (5, 3), (5, 4), (5, 5), (5, 6), (5, 7), (6, 4), (6, 6), (6, 7), (6, 8), (21, -5)] m tg F F_q ∧ (own m_q (x : Int)) ∧ (tg_q (x : Int) = 16 ∨ tg_q (x : Int) = 14) ∧ (szD m_q tg_q ln_q = szD m tg ln + 25) ∧ ((m_q : Int) = (m : Int) + 1) ∧ (NP m_q tg_q F_q) ∧ (SB m_q tg_q F_q (kk + 30000)) ∧ (T3 m_q tg_q) ∧ True)) := by
  obtain ⟨d, rfl⟩ : ∃ d, dd = d + 1 := ⟨dd - 1, by omega⟩
  refine wk_of (e := jm32) rfl (by rw [jS_r, jS_i, jS_0]; exact Nat.le_of_ble_eq_true rfl) ?_
  rw [la_r, la_i, la_0]
  show wj X d jm32 (0, [(0, rv (me)), (1, .int (i32 (n)))], [], cV R m tg ln F) _
  have hM0 : Fq 0 [(3, 5), (3, 6), (3, 7), (3, 8), (3, 9), (3, 10), (3, 11), (3, 12), (3, 13), (3, 14), (3, 16), (3, 17), (3, 18), (3, 19), (3, 20), (5, 2), (5, 3), (5, 4), (5, 5), (5, 6), (5, 7), (6, 4), (6, 6), (6, 7), (6, 8), (21, -5)] m tg F F := Fq_r
  have hX0 : Ex m tg ln m tg ln := Ex_r
  obtain ⟨L0, eL0⟩ : ∃ q : jL, q = [(0, rv (me)), (1, .int (i32 (n)))] := ⟨_, rfl⟩
  rw [← eL0]
  have g28 : jGet L0 0 = some (rv (me)) := eL0 ▸ (rfl : jGet [(0, rv (me)), (1, .int (i32 (n)))] 0 = some (rv (me)))
  have g29 : jGet L0 1 = some (.int (i32 (n))) := eL0 ▸ (rfl : jGet [(0, rv (me)), (1, .int (i32 (n)))] 1 = some (.int (i32 (n))))
  clear eL0
  refine jx_ld (pc_q := 1) (l_q := L0) (st_q := [rv (me)]) rfl (jl_rvn g28) ?_
  refine cx_vi (c := 0) (a := me) (st := []) (as := []) rfl rfl rfl o_me t_me (by decide) rfl ⟨rfl, rfl, (Nat.le_of_ble_eq_true rfl)⟩ rfl (k_LY_loaded (dd := d) (R := R) (m := m) (tg := tg) (ln := ln) (F := F) (me := me) (hd := by omega) (hC := hC) (o_me := o_me) (t_me := t_me) (c_NP := c_NP) (kk := kk) (c_SB := c_SB) (c_T3 := c_T3)) (fun o V_q hq => ?_)
  obtain ⟨m30, tg30, ln30, F31, r32, rfl, rfl, hx33, hC34, hM35, b36, p37, p38, c39, c40, c41, -⟩ | ⟨m42, tg42, ln42, F42, x42, rfl, rfl, hx42, hC42, hM42, ho42, ht42, p43, p44, c45, c46, c47, -⟩ := hq
  rotate_left
  ·
    refine Or.inr (Or.inr (Or.inr ⟨_, _, rfl, cx_exc (c := 15) ho42 ht42 (by decide), rfl, ?_⟩))
    exact Or.inr ⟨m42, tg42, ln42, F42, x42, rfl, rfl, Ex_t hX0 hx42, hC42, Fq_t (ln := ln) (ln1 := ln) hM0 hX0 hM42 (by decide) (Or.inl rfl), (And.intro ho42 ht42).1, Or.inl ((And.intro ho42 ht42).2), by omega, by omega, c45, SB_m c46 (by omega), c47, trivial⟩
  have hM48 : Fq 0 [(3, 5), (3, 6), (3, 7), (3, 8), (3, 9), (3, 10), (3, 11), (3, 12), (3, 13), (3, 14), (3, 16), (3, 17), (3, 18), (3, 19), (3, 20), (5, 2), (5, 3), (5, 4), (5, 5), (5, 6), (5, 7), (6, 4), (6, 6), (6, 7), (6, 8), (21, -5)] m tg F F31 := Fq_t (ln := ln) (ln1 := ln) hM0 hX0 hM35 (by decide) (Or.inl rfl)
  have ho49 : own m30 (me) ∧ tg30 (me) = 1 := Ex_o hx33 ⟨o_me, t_me⟩
  have hX50 := Ex_t hX0 hx33
  refine Or.inr (Or.inl ⟨_, rfl, ?_⟩)
  refine jx_ld (pc_q := 5) (l_q := jSto1 L0 2 (rv (r32))) (st_q := []) rfl (js_rvn (by decide)) ?_
  obtain ⟨L51, eL51⟩ : ∃ q : jL, q = jSto1 L0 2 (rv (r32)) := ⟨_, rfl⟩
  rw [← eL51]
  have g52 : jGet L51 0 = some (rv (me)) := eL51 ▸ jg_nr (by decide) g28
  have g53 : jGet L51 1 = some (.int (i32 (n))) := eL51 ▸ jg_ne (by decide) g29 rfl
  have g54 : jGet L51 2 = some (rv (r32)) := eL51 ▸ jg_eq
  clear eL51
  refine jx_ld (pc_q := 6) (l_q := L51) (st_q := [.int (i32 (n))]) rfl (jl_iloadn g53) ?_
  refine jx_if_lt (pc_q := 9) (tg := 16) rfl rfl rfl (by omega) (by omega) (fun h55 => ?_) (fun h55 => ?_)
  · have _q := h55
    refine cx_thr2 (c := 13) rfl rfl rfl rfl ⟨by decide, by decide, (Nat.le_of_ble_eq_true rfl), rfl, rfl, rfl⟩ rfl rfl hC34 (fun x56 m56 tg56 ln56 F56 en56 em56 ho56 hx56 hC56 hf56 hs56 => ?_)
    have ex56 : 64 + (m : Int) ≤ (x56 : Int) := by have := hX50.1; omega
    have c57 : SB m56 tg56 F56 ((kk)) := SB_n c40 hC34.1 hx56 en56 em56 hf56 ho56.2 (Or.inl (by decide))
    have c58 : T3 m56 tg56 := T3_n c41 hC34.1 hx56 en56 em56 ho56.2 (by decide)
    have c59 : NP m56 tg56 F56 := NP_nn hC34 c39 hx56 en56 em56 (fun b i ob => hf56 b i (ne_n ob en56)) (fun w => absurd (ho56.2.symm.trans w) (by decide)) (fun w => absurd (ho56.2.symm.trans w) (by decide)) (fun w => absurd (ho56.2.symm.trans w) (by decide))
    have lm60 := hx56.1
    exact Or.inr ⟨m56, tg56, ln56, F56, x56, rfl, rfl, Ex_t hX50 hx56, hC56, Fq_n hM48 hf56 ex56, ho56.1, Or.inr (ho56.2), by omega, by omega, c59, SB_m c57 (by omega), c58, trivial⟩
  · have _q := h55
    refine jx_ld (pc_q := 10) (l_q := L51) (st_q := [.int (i32 (n))]) rfl (jl_iloadn g53) ?_
    refine jx_ar (pc_q := 13) (st_q := [.int (i32 (5000)), .int (i32 (n))]) rfl rfl rfl rfl ?_
    refine jx_icmp_le (pc_q := 16) (tg := 26) rfl rfl rfl (by omega) (by omega) (by decide) (by decide) (fun h61 => ?_) (fun h61 => ?_)
    · have _q := h61
      refine jx_ar (pc_q := 27) (st_q := [.int (i32 (0))]) rfl rfl rfl rfl ?_
      refine jx_ld (pc_q := 28) (l_q := jSto1 L51 3 (.int (i32 (0)))) (st_q := []) rfl rfl ?_
      obtain ⟨L62, eL62⟩ : ∃ q : jL, q = jSto1 L51 3 (.int (i32 (0))) := ⟨_, rfl⟩
      rw [← eL62]
      have g63 : jGet L62 0 = some (rv (me)) := eL62 ▸ jg_nr (by decide) g52
      have g64 : jGet L62 1 = some (.int (i32 (n))) := eL62 ▸ jg_ne (by decide) g53 rfl
      have g65 : jGet L62 2 = some (rv (r32)) := eL62 ▸ jg_nr (by decide) g54
      have g66 : jGet L62 3 = some (.int (i32 (0))) := eL62 ▸ jg_eq
      clear eL62
      refine jx_ar (pc_q := 29) (st_q := [.int (i32 (0))]) rfl rfl rfl rfl ?_
      refine jx_ld (pc_q := 31) (l_q := jSto1 L62 4 (.int (i32 (0)))) (st_q := []) rfl rfl ?_
      obtain ⟨L67, eL67⟩ : ∃ q : jL, q = jSto1 L62 4 (.int (i32 (0))) := ⟨_, rfl⟩
      rw [← eL67]
      have g68 : jGet L67 0 = some (rv (me)) := eL67 ▸ jg_nr (by decide) g63
      have g69 : jGet L67 1 = some (.int (i32 (n))) := eL67 ▸ jg_ne (by decide) g64 rfl
      have g70 : jGet L67 2 = some (rv (r32)) := eL67 ▸ jg_nr (by decide) g65
      have g71 : jGet L67 3 = some (.int (i32 (0))) := eL67 ▸ jg_ne (by decide) g66 rfl
      have g72 : jGet L67 4 = some (.int (i32 (0))) := eL67 ▸ jg_eq
      clear eL67
      exact k_LY_rounds_at_31 (X := X) (d := d) (R := R) (m := m) (tg := tg) (ln := ln) (F := F) (kk := kk) (me := me) (n := n) (hd := hd) (hC := hC) (o_me := o_me) (t_me := t_me) (h_n := h_n) (p_0 := p_0) (p_1 := p_1) (c_NP := c_NP) (c_SB := c_SB) (c_T3 := c_T3) _ L67 m30 tg30 ln30 F31 (0) (0) (r32) rfl g68 g69 g71 g72 g70 hX50 hC34 hM48 (by omega) (by omega) (Or.inr ⟨b36.1, b36.2⟩) (by omega) (by omega) (by omega) (by omega) (by omega) (own_z b36.1) c39 (SB_m c40 (by omega)) c41
    · have _q := h61
      refine cx_thr2 (c := 13) rfl rfl rfl rfl ⟨by decide, by decide, (Nat.le_of_ble_eq_true rfl), rfl, rfl, rfl⟩ rfl rfl hC34 (fun x73 m73 tg73 ln73 F73 en73 em73 ho73 hx73 hC73 hf73 hs73 => ?_)
      have ex73 : 64 + (m : Int) ≤ (x73 : Int) := by have := hX50.1; omega
      have c74 : SB m73 tg73 F73 ((kk)) := SB_n c40 hC34.1 hx73 en73 em73 hf73 ho73.2 (Or.inl (by decide))
      have c75 : T3 m73 tg73 := T3_n c41 hC34.1 hx73 en73 em73 ho73.2 (by decide)
      have c76 : NP m73 tg73 F73 := NP_nn hC34 c39 hx73 en73 em73 (fun b i ob => hf73 b i (ne_n ob en73)) (fun w => absurd (ho73.2.symm.trans w) (by decide)) (fun w => absurd (ho73.2.symm.trans w) (by decide)) (fun w => absurd (ho73.2.symm.trans w) (by decide))
      have lm77 := hx73.1
      exact Or.inr ⟨m73, tg73, ln73, F73, x73, rfl, rfl, Ex_t hX50 hx73, hC73, Fq_n hM48 hf73 ex73, ho73.1, Or.inr (ho73.2), by omega, by omega, c76, SB_m c74 (by omega), c75, trivial⟩
