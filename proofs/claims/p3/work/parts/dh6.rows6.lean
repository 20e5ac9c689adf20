set_option maxRecDepth 20000 in
set_option maxHeartbeats 4000000 in
theorem k_LCoder_bytes_at_24 {X : jX} {d : Nat} {R : Nat → jC} {u : Int} {m : Nat} {tg ln : Int → Int} {F : Int → Int → Int} {me : Int} (hd : 3 ≤ d + 1) (hC : HC u m tg ln F) (o_me : own m me) (t_me : tg me = 2) (p_0 : me ≠ u) : ∀ (mm : Nat) (L : jL) (mx : Nat) (tgx lnx : Int → Int) (Fx : Int → Int → Int) (k b : Int), (6000 - k).toNat = mm → jGet L 0 = some (rv (me)) → jGet L 2 = some (.int (i32 k)) → jGet L 1 = some (rv b) → Ex m tg ln mx tgx lnx → HC u mx tgx lnx Fx → Fq 0 [(20, -5)] m tg F Fx → ((-2147483648 : Int) ≤ k ∧ k ≤ 2147483647) → (b = 0 ∨ (own mx b ∧ tgx b = 20)) → (0 ≤ k) → (Fx b (-1) = 0) → (64 ≤ b) → (szD mx tgx lnx ≤ szD m tg ln + 6001) → ((mx : Int) = (m : Int) + 1) → (NW m mx tgx Fx) → wj X d jm45 (24, L, [], cV R mx tgx lnx Fx) (fun o V_q => ∃ (m_q : Nat) (tg_q ln_q : Int → Int) (F_q : Int → Int → Int) (r : Int), V_q = cV R m_q tg_q ln_q F_q ∧ o = .inl (some (rv r)) ∧ Ex m tg ln m_q tg_q ln_q ∧ HC u m_q tg_q ln_q F_q ∧ Fq 0 [(20, -5)] m tg F F_q ∧ (own m_q r ∧ tg_q r = 20) ∧ (F_q r (-1) = 0) ∧ (szD m_q tg_q ln_q ≤ szD m tg ln + 6001) ∧ ((m_q : Int) = (m : Int) + 1) ∧ (NW m m_q tg_q F_q) ∧ True) := by
  intro mm
  induction mm using Nat.strongRecOn with
  | ind mm ih =>
    intro L mx tgx lnx Fx k b hmm gL_0 gL_2 gL_1 hXx hCx hMx rx_k yx_b iv_0 iv_1 iv_2 iv_3 iv_4 cx_NW
    have hX0 : Ex m tg ln m tg ln := Ex_r
    have ho1 : own mx (me) ∧ tgx (me) = 2 := Ex_o hXx ⟨o_me, t_me⟩
    have hX2 := Ex_t hX0 hXx
    have hz3 : b ≠ 0 := by omega
    have ho4 : own mx (b) ∧ tgx (b) = 20 := yx_b.resolve_left hz3
    refine jx_ld (pc_q := 25) (l_q := L) (st_q := [.int (i32 (k))]) rfl (jl_iloadn gL_2) ?_
    refine jx_ld (pc_q := 26) (l_q := L) (st_q := [rv (me), .int (i32 (k))]) rfl (jl_rvn gL_0) ?_
    refine cx_gi (pc_q := 29) (c := 1) (q := 7) (v := F (me) (7 : Int)) rfl rfl (by decide) (by decide) (Or.inl rfl) rfl ho1.1 ho1.2 (show Fx (me) (7 : Int) = F (me) (7 : Int) from hMx _ _ o_me (own_z o_me) (by rw [t_me]; rfl)) ?_
    have b5 : (0 : Int) ≤ F (me) (7 : Int) ∧ F (me) (7 : Int) ≤ 6000 := by have z := HC_i (c := 1) (q := 7) hCx ho1.1 ho1.2 (by decide) rfl; rw [show Fx (me) ((7 : Nat) : Int) = F (me) (7 : Int) from (show Fx (me) (7 : Int) = F (me) (7 : Int) from hMx _ _ o_me (own_z o_me) (by rw [t_me]; rfl))] at z; exact z
    refine jx_icmp_ge (pc_q := 32) (tg := 44) rfl rfl rfl (by omega) (by omega) (by omega) (by omega) (fun h6 => ?_) (fun h6 => ?_)
    · have _q := h6
      refine jx_ld (pc_q := 45) (l_q := L) (st_q := [rv (b)]) rfl (jl_rvn gL_1) ?_
      refine jx_rt (v := some (rv (b))) rfl rfl rfl rfl rfl jr_ara ?_
      exact ⟨mx, tgx, lnx, Fx, (b), rfl, rfl, hXx, hCx, hMx, ⟨ho4.1, ho4.2⟩, iv_1, by omega, by omega, cx_NW, trivial⟩
    · have _q := h6
      refine jx_ld (pc_q := 33) (l_q := L) (st_q := [rv (me)]) rfl (jl_rvn gL_0) ?_
      refine jx_ld (pc_q := 34) (l_q := L) (st_q := [rv (b), rv (me)]) rfl (jl_rvn gL_1) ?_
      refine jx_ld (pc_q := 35) (l_q := L) (st_q := [.int (i32 (k)), rv (b), rv (me)]) rfl (jl_iloadn gL_2) ?_
      have q7 : Fx (me) (7 : Int) = F (me) (7 : Int) := (show Fx (me) (7 : Int) = F (me) (7 : Int) from hMx _ _ o_me (own_z o_me) (by rw [t_me]; rfl))
      refine cx_vi (c := 1) (a := me) (st := []) (as := [rv (b), .int (i32 (k))]) rfl rfl rfl ho1.1 ho1.2 (by decide) rfl ⟨rfl, rfl, (Nat.le_of_ble_eq_true rfl)⟩ rfl (k_LU_write (dd := d) (R := R) (u := u) (m := mx) (tg := tgx) (ln := lnx) (F := Fx) (me := me) (mk := b) (k := k) (hd := by omega) (hC := hCx) (o_me := ho1.1) (t_me := ho1.2) (o_mk := ho4.1) (t_mk := ho4.2) (s_mk := iv_1) (h_k := by omega) (p_0 := by omega) (p_1 := by omega) (p_2 := by omega) (p_3 := by omega)) (fun o V_q hq => ?_)
      obtain ⟨F8, rfl, rfl, hC9, hM10, -⟩ := hq
      have hM11 : Fq 0 [(20, -5)] m tg F F8 := Fq_t (ln := ln) (ln1 := lnx) hMx hXx hM10 (by decide) (Or.inl rfl)
      have c12 : NW m mx tgx F8 := NW_q cx_NW hM10 rfl
      refine Or.inl ⟨rfl, ?_⟩
      refine jx_inc (pc_q := 41) (l_q := jSto1 L 2 (.int (i32 (k + (1))))) (x := k) rfl gL_2 (by decide) rfl rfl ?_
      obtain ⟨L13, eL13⟩ : ∃ q : jL, q = jSto1 L 2 (.int (i32 ((k + (1))))) := ⟨_, rfl⟩
      rw [← eL13]
      have g14 : jGet L13 0 = some (rv (me)) := eL13 ▸ jg_nr (by decide) gL_0
      have g15 : jGet L13 1 = some (rv (b)) := eL13 ▸ jg_nr (by decide) gL_1
      have g16 : jGet L13 2 = some (.int (i32 ((k + (1))))) := eL13 ▸ jg_eq
      clear eL13
      refine jx_go (tg := 24) rfl rfl ?_
      exact ih _ (by omega) L13 mx tgx lnx F8 ((k + (1))) (b) rfl g14 g16 g15 hXx hC9 hM11 (by omega) (Or.inr ⟨ho4.1, ho4.2⟩) (by omega) ((show F8 (b) ((-1) : Int) = Fx (b) ((-1) : Int) from hM10 _ _ ho4.1 (own_z ho4.1) (by rw [ho4.2]; rfl)).trans iv_1) (by omega) (by omega) (by omega) c12
set_option maxRecDepth 20000 in
set_option maxHeartbeats 4000000 in
theorem k_LCoder_bytes {X : jX} {dd : Nat} {R : Nat → jC} {u : Int} {m : Nat} {tg ln : Int → Int} {F : Int → Int → Int} {me : Int} (hd : 3 ≤ dd) (hC : HC u m tg ln F) (o_me : own m me) (t_me : tg me = 2) (p_0 : me ≠ u) : wk X dd 45 [rv me] (cV R m tg ln F) (fun o V_q => ∃ (m_q : Nat) (tg_q ln_q : Int → Int) (F_q : Int → Int → Int) (r : Int), V_q = cV R m_q tg_q ln_q F_q ∧ o = .inl (some (rv r)) ∧ Ex m tg ln m_q tg_q ln_q ∧ HC u m_q tg_q ln_q F_q ∧ Fq 0 [(20, -5)] m tg F F_q ∧ (own m_q r ∧ tg_q r = 20) ∧ (F_q r (-1) = 0) ∧ (szD m_q tg_q ln_q ≤ szD m tg ln + 6001) ∧ ((m_q : Int) = (m : Int) + 1) ∧ (NW m m_q tg_q F_q) ∧ True) := by
  obtain ⟨d, rfl⟩ : ∃ d, dd = d + 1 := ⟨dd - 1, by omega⟩
  refine wk_of (e := jm45) rfl (by rw [jS_r, jS_0]; exact Nat.le_of_ble_eq_true rfl) ?_
  rw [la_r, la_0]
  show wj X d jm45 (0, [(0, rv (me))], [], cV R m tg ln F) _
  have hM0 : Fq 0 [(20, -5)] m tg F F := Fq_r
  have hX0 : Ex m tg ln m tg ln := Ex_r
  obtain ⟨L0, eL0⟩ : ∃ q : jL, q = [(0, rv (me))] := ⟨_, rfl⟩
  rw [← eL0]
  have g17 : jGet L0 0 = some (rv (me)) := eL0 ▸ (rfl : jGet [(0, rv (me))] 0 = some (rv (me)))
  clear eL0
  refine jx_ar (pc_q := 1) (st_q := [.int (i32 (0))]) rfl rfl rfl rfl ?_
  refine jx_ld (pc_q := 2) (l_q := L0) (st_q := [rv (me), .int (i32 (0))]) rfl (jl_rvn g17) ?_
  refine cx_gr (pc_q := 5) (c := 1) (q := 5) (v := F (me) (5 : Int)) rfl rfl (by decide) (by decide) rfl rfl o_me t_me rfl ?_
  have y18 : own m (F (me) (5 : Int)) ∧ tg (F (me) (5 : Int)) = 21 ∧ ((6001 : Int) ≠ 0 → ln (F (me) (5 : Int)) = 6001) := by have z := HC_n (c := 1) (q := 5) hC o_me t_me p_0 (by decide) rfl; rw [show F (me) ((5 : Nat) : Int) = F (me) (5 : Int) from rfl] at z; exact ⟨z.1, z.2.1, z.2.2.1⟩
  have ly18 : ln (F (me) (5 : Int)) = 6001 := y18.2.2 (by decide)
  refine jx_ld (pc_q := 6) (l_q := L0) (st_q := [rv (me), rv (F (me) (5 : Int)), .int (i32 (0))]) rfl (jl_rvn g17) ?_
  refine cx_gi (pc_q := 9) (c := 1) (q := 7) (v := F (me) (7 : Int)) rfl rfl (by decide) (by decide) (Or.inl rfl) rfl o_me t_me rfl ?_
  have b19 : (0 : Int) ≤ F (me) (7 : Int) ∧ F (me) (7 : Int) ≤ 6000 := by have z := HC_i (c := 1) (q := 7) hC o_me t_me (by decide) rfl; rw [show F (me) ((7 : Nat) : Int) = F (me) (7 : Int) from rfl] at z; exact z
  have b20 := HC_l hC y18.1 y18.2.1 (by decide)
  refine cx_ial (pc_q := 10) (z := F (me) (7 : Int)) rfl rfl y18.1 y18.2.1 (by omega) (by omega) (by omega) ?_
  have b21 : (0 : Int) ≤ F (F (me) (5 : Int)) (F (me) (7 : Int)) ∧ F (F (me) (5 : Int)) (F (me) (7 : Int)) ≤ 1000000 := by have z := HC_e (j := F (me) (7 : Int)) hC y18.1 (by rw [y18.2.1]; decide) (by omega); rw [(show F (F (me) (5 : Int)) (-1) = 2 by have z := HC_n (c := 1) (q := 5) hC o_me t_me p_0 (by decide) rfl; rw [show F (me) ((5 : Nat) : Int) = F (me) (5 : Int) from rfl] at z; exact z.2.2.2 (by decide))] at z; exact z
  refine jx_ar (pc_q := 13) (st_q := [.int (i32 (6000)), .int (i32 (F (F (me) (5 : Int)) (F (me) (7 : Int)))), .int (i32 (0))]) rfl rfl rfl rfl ?_
  refine cx_st (st := [.int (i32 (0))]) (as := [.int (i32 (F (F (me) (5 : Int)) (F (me) (7 : Int)))), .int (i32 (6000))]) rfl rfl rfl ⟨rfl, (by rw [jS_i, jS_0]; exact Nat.le_of_ble_eq_true rfl)⟩ rfl (k_java_lang_Math_min (dd := d) (R := R) (u := u) (m := m) (tg := tg) (ln := ln) (F := F) (a := F (F (me) (5 : Int)) (F (me) (7 : Int))) (b := 6000) (hd := by omega) (hC := hC) (h_a := by omega) (h_b := by omega)) (fun o V_q hq => ?_)
  obtain ⟨r22, rfl, rfl, b23, p24, p25, p26, -⟩ := hq
  refine Or.inr (Or.inl ⟨_, rfl, ?_⟩)
  have ek : r22 ≤ 6000 := (by omega)
  clear p24 p25 p26
  refine cx_st (st := []) (as := [.int (i32 (0)), .int (i32 (r22))]) rfl rfl rfl ⟨rfl, (Nat.le_of_ble_eq_true rfl)⟩ rfl (k_java_lang_Math_max (dd := d) (R := R) (u := u) (m := m) (tg := tg) (ln := ln) (F := F) (a := 0) (b := r22) (hd := by omega) (hC := hC) (h_a := by omega) (h_b := by omega)) (fun o V_q hq => ?_)
  obtain ⟨r27, rfl, rfl, b28, p29, p30, p31, -⟩ := hq
  refine Or.inr (Or.inl ⟨_, rfl, ?_⟩)
  have em : 0 ≤ r27 ∧ r27 ≤ 6000 := (by omega)
  clear p29 p30 p31
  refine cx_nai (pc_q := 21) (kd := 0) (z := r27) rfl (by decide) rfl hC.1 (by omega) (by omega) ?_
  refine HC_row (g := 0) (z := r27) (t := 20) hC (by decide) (by decide) (by omega) (by omega) (fun n32 m32 tg32 ln32 F32 en32 em32 ho32 hl32 hx32 hC32 hf32 h032 hg32 hs32 => ?_)
  have ex32 : 64 + (m : Int) ≤ n32 := by have := hX0.1; omega
  have ho33 : own m32 (me) ∧ tg32 (me) = 2 := Ex_o hx32 ⟨o_me, t_me⟩
  have hX34 := Ex_t hX0 hx32
  have hM35 : Fq 0 [(20, -5)] m tg F F32 := Fq_n hM0 hf32 ex32
  have c36 : NW m m32 tg32 F32 := NW_n NW_0 hC.1 hx32 en32 em32 hf32 ho32.2 (by decide) h032
  refine jx_ld (pc_q := 22) (l_q := jSto1 L0 1 (rv (n32))) (st_q := []) rfl (js_rvn (by decide)) ?_
  obtain ⟨L37, eL37⟩ : ∃ q : jL, q = jSto1 L0 1 (rv (n32)) := ⟨_, rfl⟩
  rw [← eL37]
  have g38 : jGet L37 0 = some (rv (me)) := eL37 ▸ jg_nr (by decide) g17
  have g39 : jGet L37 1 = some (rv (n32)) := eL37 ▸ jg_eq
  clear eL37
  refine jx_ar (pc_q := 23) (st_q := [.int (i32 (0))]) rfl rfl rfl rfl ?_
  refine jx_ld (pc_q := 24) (l_q := jSto1 L37 2 (.int (i32 (0)))) (st_q := []) rfl rfl ?_
  obtain ⟨L40, eL40⟩ : ∃ q : jL, q = jSto1 L37 2 (.int (i32 (0))) := ⟨_, rfl⟩
  rw [← eL40]
  have g41 : jGet L40 0 = some (rv (me)) := eL40 ▸ jg_nr (by decide) g38
  have g42 : jGet L40 1 = some (rv (n32)) := eL40 ▸ jg_nr (by decide) g39
  have g43 : jGet L40 2 = some (.int (i32 (0))) := eL40 ▸ jg_eq
  clear eL40
  exact k_LCoder_bytes_at_24 (X := X) (d := d) (R := R) (u := u) (m := m) (tg := tg) (ln := ln) (F := F) (me := me) (hd := hd) (hC := hC) (o_me := o_me) (t_me := t_me) (p_0 := p_0) _ L40 m32 tg32 ln32 F32 (0) (n32) rfl g41 g43 g42 hX34 hC32 hM35 (by omega) (Or.inr ⟨ho32.1, ho32.2⟩) (by omega) hg32 (by omega) (by omega) (by omega) c36
