set_option maxRecDepth 20000 in
set_option maxHeartbeats 4000000 in
theorem k_LLayout_measure_at_119 {X : jX} {d : Nat} {R : Nat → jC} {m : Nat} {tg ln : Int → Int} {F : Int → Int → Int} {me pg_ : Int} (hd : 200 ≤ d + 1) (hC : HC 0 m tg ln F) (o_me : own m me) (t_me : tg me = 4) (o_pg_ : own m pg_) (t_pg_ : tg pg_ = 10) (c_NT : NT m tg F) (c_PG : PG m tg F) : ∀ (mm : Nat) (L : jL) (Fx : Int → Int → Int) (p : Int), (6 - p).toNat = mm → jGet L 0 = some (rv (me)) → jGet L 1 = some (rv (pg_)) → jGet L 2 = some (.int (i32 p)) → HC 0 m tg ln Fx → Fq 0 [(4, 0), (7, 3), (7, 4), (7, 5), (8, 10), (8, 11), (8, 12), (10, 0), (10, 1), (10, 2)] m tg F Fx → ((-2147483648 : Int) ≤ p ∧ p ≤ 2147483647) → (0 ≤ p) → (p ≤ 6) → wj X d jm123 (119, L, [], cV R m tg ln Fx) (fun o V_q => ∃ (F_q : Int → Int → Int), V_q = cV R m tg ln F_q ∧ o = .inl none ∧ HC 0 m tg ln F_q ∧ Fq 0 [(4, 0), (7, 3), (7, 4), (7, 5), (8, 10), (8, 11), (8, 12), (10, 0), (10, 1), (10, 2)] m tg F F_q ∧ True) := by
  intro mm
  induction mm using Nat.strongRecOn with
  | ind mm ih =>
    intro L Fx p hmm gL_0 gL_1 gL_2 hCx hMx rx_p iv_0 iv_1
    refine jx_ld (pc_q := 120) (l_q := L) (st_q := [.int (i32 (p))]) rfl (jl_iloadn gL_2) ?_
    refine jx_ar (pc_q := 122) (st_q := [.int (i32 (6)), .int (i32 (p))]) rfl rfl rfl rfl ?_
    refine jx_icmp_ge (pc_q := 125) (tg := 153) rfl rfl rfl (by omega) (by omega) (by decide) (by decide) (fun h1 => ?_) (fun h1 => ?_)
    · have _q := h1
      refine jx_rt (v := none) rfl rfl rfl rfl rfl rfl ?_
      exact ⟨Fx, rfl, rfl, hCx, hMx, trivial⟩
    · have _q := h1
      refine jx_ld (pc_q := 126) (l_q := L) (st_q := [rv (pg_)]) rfl (jl_rvn gL_1) ?_
      refine cx_gr (pc_q := 129) (c := 9) (q := 3) (v := F (pg_) (3 : Int)) rfl rfl (by decide) (by decide) rfl rfl o_pg_ t_pg_ (show Fx (pg_) (3 : Int) = F (pg_) (3 : Int) from hMx _ _ o_pg_ (own_z o_pg_) (by rw [t_pg_]; rfl)) ?_
      have y2 : own m (F (pg_) (3 : Int)) ∧ tg (F (pg_) (3 : Int)) = 24 ∧ ((6 : Int) ≠ 0 → ln (F (pg_) (3 : Int)) = 6) := by have z := HC_n (c := 9) (q := 3) hCx o_pg_ t_pg_ (own_z o_pg_) (by decide) rfl; rw [show Fx (pg_) ((3 : Nat) : Int) = F (pg_) (3 : Int) from (show Fx (pg_) (3 : Int) = F (pg_) (3 : Int) from hMx _ _ o_pg_ (own_z o_pg_) (by rw [t_pg_]; rfl))] at z; exact ⟨z.1, z.2.1, z.2.2.1⟩
      have ly2 : ln (F (pg_) (3 : Int)) = 6 := y2.2.2 (by decide)
      refine jx_ld (pc_q := 130) (l_q := L) (st_q := [.int (i32 (p)), rv (F (pg_) (3 : Int))]) rfl (jl_iloadn gL_2) ?_
      have b3 := HC_l hCx y2.1 y2.2.1 (by decide)
      refine cx_aal (pc_q := 131) (z := p) rfl rfl y2.1 (by rw [y2.2.1]; decide) (by omega) (by omega) (by omega) ?_
      rw [show Fx (F (pg_) (3 : Int)) (p) = F (F (pg_) (3 : Int)) (p) from (show Fx (F (pg_) (3 : Int)) (p) = F (F (pg_) (3 : Int)) (p) from hMx _ _ y2.1 (own_z y2.1) (by rw [y2.2.1]; rfl))]
      have y4 : F (F (pg_) (3 : Int)) (p) = 0 ∨ (own m (F (F (pg_) (3 : Int)) (p)) ∧ tg (F (F (pg_) (3 : Int)) (p)) = 8) := by have z := HC_er (j := p) hCx y2.1 y2.2.1 (by decide) (by omega); rw [show Fx (F (pg_) (3 : Int)) (p) = F (F (pg_) (3 : Int)) (p) from (show Fx (F (pg_) (3 : Int)) (p) = F (F (pg_) (3 : Int)) (p) from hMx _ _ y2.1 (own_z y2.1) (by rw [y2.2.1]; rfl))] at z; exact z
      refine jx_ld (pc_q := 132) (l_q := jSto1 L 3 (rv (F (F (pg_) (3 : Int)) (p)))) (st_q := []) rfl (js_rvn (by decide)) ?_
      obtain ⟨L5, eL5⟩ : ∃ q : jL, q = jSto1 L 3 (rv (F (F (pg_) (3 : Int)) (p))) := ⟨_, rfl⟩
      rw [← eL5]
      have g6 : jGet L5 0 = some (rv (me)) := eL5 ▸ jg_nr (by decide) gL_0
      have g7 : jGet L5 1 = some (rv (pg_)) := eL5 ▸ jg_nr (by decide) gL_1
      have g8 : jGet L5 2 = some (.int (i32 (p))) := eL5 ▸ jg_ne (by decide) gL_2 rfl
      have g9 : jGet L5 3 = some (rv (F (F (pg_) (3 : Int)) (p))) := eL5 ▸ jg_eq
      clear eL5
      refine jx_ld (pc_q := 133) (l_q := L5) (st_q := [rv (F (F (pg_) (3 : Int)) (p))]) rfl (jl_rvn g9) ?_
      refine cx_nul (pc_q := 136) (tg_q := 147) rfl rfl rfl (fun h10 => ?_) (fun h10 => ?_)
      · have _q := h10
        refine jx_inc (pc_q := 150) (l_q := jSto1 L5 2 (.int (i32 (p + (1))))) (x := p) rfl g8 (by decide) rfl rfl ?_
        obtain ⟨L11, eL11⟩ : ∃ q : jL, q = jSto1 L5 2 (.int (i32 ((p + (1))))) := ⟨_, rfl⟩
        rw [← eL11]
        have g12 : jGet L11 0 = some (rv (me)) := eL11 ▸ jg_nr (by decide) g6
        have g13 : jGet L11 1 = some (rv (pg_)) := eL11 ▸ jg_nr (by decide) g7
        have g14 : jGet L11 3 = some (rv (F (F (pg_) (3 : Int)) (p))) := eL11 ▸ jg_nr (by decide) g9
        have g15 : jGet L11 2 = some (.int (i32 ((p + (1))))) := eL11 ▸ jg_eq
        clear eL11
        refine jx_go (tg := 119) rfl rfl ?_
        exact ih _ (by omega) L11 Fx ((p + (1))) rfl g12 g13 g15 hCx hMx (by omega) (by omega) (by omega)
      · have _q := h10
        have ho16 : own m (F (F (pg_) (3 : Int)) (p)) ∧ tg (F (F (pg_) (3 : Int)) (p)) = 8 := y4.resolve_left h10
        have k17 := SN_p (c_PG.1 _ y2.1 y2.2.1 (show F (F (pg_) (3 : Int)) (-1) = 0 by have z := HC_n (c := 9) (q := 3) hC o_pg_ t_pg_ (own_z o_pg_) (by decide) rfl; exact z.2.2.2 (by decide)) _ (by omega)) h10
        refine jx_ld (pc_q := 137) (l_q := L5) (st_q := [rv (me)]) rfl (jl_rvn g6) ?_
        refine jx_ld (pc_q := 138) (l_q := L5) (st_q := [rv (F (F (pg_) (3 : Int)) (p)), rv (me)]) rfl (jl_rvn g9) ?_
        refine jx_ar (pc_q := 139) (st_q := [.int (i32 (1)), rv (F (F (pg_) (3 : Int)) (p)), rv (me)]) rfl rfl rfl rfl ?_
        refine cx_vi (c := 3) (a := me) (st := []) (as := [rv (F (F (pg_) (3 : Int)) (p)), .int (i32 (1))]) rfl rfl rfl o_me t_me (by decide) rfl ⟨rfl, rfl, (Nat.le_of_ble_eq_true rfl)⟩ rfl (k_LLayout_frame (dd := d) (R := R) (m := m) (tg := tg) (ln := ln) (F := Fx) (kk := 60 + 1) (hE := fun _ => LPx_all X _) (me := me) (bd := F (F (pg_) (3 : Int)) (p)) (wd := 1) (hd := by omega) (hC := hCx) (o_me := o_me) (t_me := t_me) (o_bd := ho16.1) (t_bd := ho16.2) (h_wd := by omega) (p_0 := by omega) (c_NT := NT_q hC c_NT hMx rfl) (n_bd := (SN_q (SN_w (c_PG.1 _ y2.1 y2.2.1 (show F (F (pg_) (3 : Int)) (-1) = 0 by have z := HC_n (c := 9) (q := 3) hC o_pg_ t_pg_ (own_z o_pg_) (by decide) rfl; exact z.2.2.2 (by decide)) _ (by omega)) (by omega)) hMx rfl rfl))) (fun o V_q hq => ?_)
        obtain ⟨F18, rfl, rfl, hC19, hM20, -⟩ := hq
        have hM21 : Fq 0 [(4, 0), (7, 3), (7, 4), (7, 5), (8, 10), (8, 11), (8, 12), (10, 0), (10, 1), (10, 2)] m tg F F18 := Fq_t (ln := ln) (ln1 := ln) hMx Ex_r hM20 (by decide) (Or.inl rfl)
        refine Or.inl ⟨rfl, ?_⟩
        refine jx_ld (pc_q := 143) (l_q := L5) (st_q := [rv (pg_)]) rfl (jl_rvn g7) ?_
        refine jx_ld (pc_q := 144) (l_q := L5) (st_q := [rv (F (F (pg_) (3 : Int)) (p)), rv (pg_)]) rfl (jl_rvn g9) ?_
        refine cx_st (st := []) (as := [rv (pg_), rv (F (F (pg_) (3 : Int)) (p))]) rfl rfl rfl ⟨rfl, (Nat.le_of_ble_eq_true rfl)⟩ rfl (k_LLayout_judge (dd := d) (R := R) (m := m) (tg := tg) (ln := ln) (F := F18) (pg := pg_) (bd := F (F (pg_) (3 : Int)) (p)) (hd := by omega) (hC := hC19) (o_pg := o_pg_) (t_pg := t_pg_) (o_bd := ho16.1) (t_bd := ho16.2)) (fun o V_q hq => ?_)
        obtain ⟨F22, rfl, rfl, hC23, hM24, -⟩ := hq
        have hM25 : Fq 0 [(4, 0), (7, 3), (7, 4), (7, 5), (8, 10), (8, 11), (8, 12), (10, 0), (10, 1), (10, 2)] m tg F F22 := Fq_t (ln := ln) (ln1 := ln) hM21 Ex_r hM24 (by decide) (Or.inl rfl)
        refine Or.inl ⟨rfl, ?_⟩
        refine jx_inc (pc_q := 150) (l_q := jSto1 L5 2 (.int (i32 (p + (1))))) (x := p) rfl g8 (by decide) rfl rfl ?_
        obtain ⟨L26, eL26⟩ : ∃ q : jL, q = jSto1 L5 2 (.int (i32 ((p + (1))))) := ⟨_, rfl⟩
        rw [← eL26]
        have g27 : jGet L26 0 = some (rv (me)) := eL26 ▸ jg_nr (by decide) g6
        have g28 : jGet L26 1 = some (rv (pg_)) := eL26 ▸ jg_nr (by decide) g7
        have g29 : jGet L26 3 = some (rv (F (F (pg_) (3 : Int)) (p))) := eL26 ▸ jg_nr (by decide) g9
        have g30 : jGet L26 2 = some (.int (i32 ((p + (1))))) := eL26 ▸ jg_eq
        clear eL26
        refine jx_go (tg := 119) rfl rfl ?_
        exact ih _ (by omega) L26 F22 ((p + (1))) rfl g27 g28 g30 hC23 hM25 (by omega) (by omega) (by omega)
set_option maxRecDepth 20000 in
set_option maxHeartbeats 4000000 in
theorem k_LLayout_measure_at_2 {X : jX} {d : Nat} {R : Nat → jC} {m : Nat} {tg ln : Int → Int} {F : Int → Int → Int} {me pg_ : Int} (hd : 200 ≤ d + 1) (hC : HC 0 m tg ln F) (o_me : own m me) (t_me : tg me = 4) (o_pg_ : own m pg_) (t_pg_ : tg pg_ = 10) (c_NT : NT m tg F) (c_PG : PG m tg F) : ∀ (mm : Nat) (L : jL) (Fx : Int → Int → Int) (k : Int), (24 - k).toNat = mm → jGet L 0 = some (rv (me)) → jGet L 1 = some (rv (pg_)) → jGet L 2 = some (.int (i32 k)) → HC 0 m tg ln Fx → Fq 0 [(4, 0), (7, 3), (7, 4), (7, 5), (8, 10), (8, 11), (8, 12), (10, 0), (10, 1), (10, 2)] m tg F Fx → ((-2147483648 : Int) ≤ k ∧ k ≤ 2147483647) → (0 ≤ k) → wj X d jm123 (2, L, [], cV R m tg ln Fx) (fun o V_q => ∃ (F_q : Int → Int → Int), V_q = cV R m tg ln F_q ∧ o = .inl none ∧ HC 0 m tg ln F_q ∧ Fq 0 [(4, 0), (7, 3), (7, 4), (7, 5), (8, 10), (8, 11), (8, 12), (10, 0), (10, 1), (10, 2)] m tg F F_q ∧ True) := by
  intro mm
  induction mm using Nat.strongRecOn with
  | ind mm ih =>
    intro L Fx k hmm gL_0 gL_1 gL_2 hCx hMx rx_k iv_0
    refine jx_ld (pc_q := 3) (l_q := L) (st_q := [.int (i32 (k))]) rfl (jl_iloadn gL_2) ?_
    refine jx_ld (pc_q := 4) (l_q := L) (st_q := [rv (pg_), .int (i32 (k))]) rfl (jl_rvn gL_1) ?_
    refine cx_gi (pc_q := 7) (c := 9) (q := 5) (v := F (pg_) (5 : Int)) rfl rfl (by decide) (by decide) (Or.inl rfl) rfl o_pg_ t_pg_ (show Fx (pg_) (5 : Int) = F (pg_) (5 : Int) from hMx _ _ o_pg_ (own_z o_pg_) (by rw [t_pg_]; rfl)) ?_
    have b31 : (0 : Int) ≤ F (pg_) (5 : Int) ∧ F (pg_) (5 : Int) ≤ 24 := by have z := HC_i (c := 9) (q := 5) hCx o_pg_ t_pg_ (by decide) rfl; rw [show Fx (pg_) ((5 : Nat) : Int) = F (pg_) (5 : Int) from (show Fx (pg_) (5 : Int) = F (pg_) (5 : Int) from hMx _ _ o_pg_ (own_z o_pg_) (by rw [t_pg_]; rfl))] at z; exact z
    refine jx_icmp_ge (pc_q := 10) (tg := 117) rfl rfl rfl (by omega) (by omega) (by omega) (by omega) (fun h32 => ?_) (fun h32 => ?_)
    · have _q := h32
      refine jx_ar (pc_q := 118) (st_q := [.int (i32 (0))]) rfl rfl rfl rfl ?_
      refine jx_ld (pc_q := 119) (l_q := jSto1 L 2 (.int (i32 (0)))) (st_q := []) rfl rfl ?_
      obtain ⟨L33, eL33⟩ : ∃ q : jL, q = jSto1 L 2 (.int (i32 (0))) := ⟨_, rfl⟩
      rw [← eL33]
      have g34 : jGet L33 0 = some (rv (me)) := eL33 ▸ jg_nr (by decide) gL_0
      have g35 : jGet L33 1 = some (rv (pg_)) := eL33 ▸ jg_nr (by decide) gL_1
      have g36 : jGet L33 2 = some (.int (i32 (0))) := eL33 ▸ jg_eq
      clear eL33
      exact k_LLayout_measure_at_119 (X := X) (d := d) (R := R) (m := m) (tg := tg) (ln := ln) (F := F) (me := me) (pg_ := pg_) (hd := hd) (hC := hC) (o_me := o_me) (t_me := t_me) (o_pg_ := o_pg_) (t_pg_ := t_pg_) (c_NT := c_NT) (c_PG := c_PG) _ L33 Fx (0) rfl g34 g35 g36 hCx hMx (by omega) (by omega) (by omega)
    · have _q := h32
      refine jx_ld (pc_q := 11) (l_q := L) (st_q := [.int (i32 (k))]) rfl (jl_iloadn gL_2) ?_
      refine jx_ld (pc_q := 12) (l_q := L) (st_q := [rv (pg_), .int (i32 (k))]) rfl (jl_rvn gL_1) ?_
      refine cx_gr (pc_q := 15) (c := 9) (q := 4) (v := F (pg_) (4 : Int)) rfl rfl (by decide) (by decide) rfl rfl o_pg_ t_pg_ (show Fx (pg_) (4 : Int) = F (pg_) (4 : Int) from hMx _ _ o_pg_ (own_z o_pg_) (by rw [t_pg_]; rfl)) ?_
      have y37 : own m (F (pg_) (4 : Int)) ∧ tg (F (pg_) (4 : Int)) = 25 ∧ ((24 : Int) ≠ 0 → ln (F (pg_) (4 : Int)) = 24) := by have z := HC_n (c := 9) (q := 4) hCx o_pg_ t_pg_ (own_z o_pg_) (by decide) rfl; rw [show Fx (pg_) ((4 : Nat) : Int) = F (pg_) (4 : Int) from (show Fx (pg_) (4 : Int) = F (pg_) (4 : Int) from hMx _ _ o_pg_ (own_z o_pg_) (by rw [t_pg_]; rfl))] at z; exact ⟨z.1, z.2.1, z.2.2.1⟩
      have ly37 : ln (F (pg_) (4 : Int)) = 24 := y37.2.2 (by decide)
      have b38 := HC_l hCx y37.1 y37.2.1 (by decide)
      refine cx_len (pc_q := 16) rfl rfl y37.1 (by rw [y37.2.1]; decide) (by omega) ?_
      refine jx_icmp_ge (pc_q := 19) (tg := 117) rfl rfl rfl (by omega) (by omega) (by omega) (by omega) (fun h39 => ?_) (fun h39 => ?_)
      · have _q := h39
        refine jx_ar (pc_q := 118) (st_q := [.int (i32 (0))]) rfl rfl rfl rfl ?_
        refine jx_ld (pc_q := 119) (l_q := jSto1 L 2 (.int (i32 (0)))) (st_q := []) rfl rfl ?_
        obtain ⟨L40, eL40⟩ : ∃ q : jL, q = jSto1 L 2 (.int (i32 (0))) := ⟨_, rfl⟩
        rw [← eL40]
        have g41 : jGet L40 0 = some (rv (me)) := eL40 ▸ jg_nr (by decide) gL_0
        have g42 : jGet L40 1 = some (rv (pg_)) := eL40 ▸ jg_nr (by decide) gL_1
        have g43 : jGet L40 2 = some (.int (i32 (0))) := eL40 ▸ jg_eq
        clear eL40
        exact k_LLayout_measure_at_119 (X := X) (d := d) (R := R) (m := m) (tg := tg) (ln := ln) (F := F) (me := me) (pg_ := pg_) (hd := hd) (hC := hC) (o_me := o_me) (t_me := t_me) (o_pg_ := o_pg_) (t_pg_ := t_pg_) (c_NT := c_NT) (c_PG := c_PG) _ L40 Fx (0) rfl g41 g42 g43 hCx hMx (by omega) (by omega) (by omega)
      · have _q := h39
        refine jx_ld (pc_q := 20) (l_q := L) (st_q := [rv (pg_)]) rfl (jl_rvn gL_1) ?_
        refine cx_gr (pc_q := 23) (c := 9) (q := 4) (v := F (pg_) (4 : Int)) rfl rfl (by decide) (by decide) rfl rfl o_pg_ t_pg_ (show Fx (pg_) (4 : Int) = F (pg_) (4 : Int) from hMx _ _ o_pg_ (own_z o_pg_) (by rw [t_pg_]; rfl)) ?_
        refine jx_ld (pc_q := 24) (l_q := L) (st_q := [.int (i32 (k)), rv (F (pg_) (4 : Int))]) rfl (jl_iloadn gL_2) ?_
        refine cx_aal (pc_q := 25) (z := k) rfl rfl y37.1 (by rw [y37.2.1]; decide) (by omega) (by omega) (by omega) ?_
        rw [show Fx (F (pg_) (4 : Int)) (k) = F (F (pg_) (4 : Int)) (k) from (show Fx (F (pg_) (4 : Int)) (k) = F (F (pg_) (4 : Int)) (k) from hMx _ _ y37.1 (own_z y37.1) (by rw [y37.2.1]; rfl))]
        have y44 : F (F (pg_) (4 : Int)) (k) = 0 ∨ (own m (F (F (pg_) (4 : Int)) (k)) ∧ tg (F (F (pg_) (4 : Int)) (k)) = 7) := by have z := HC_er (j := k) hCx y37.1 y37.2.1 (by decide) (by omega); rw [show Fx (F (pg_) (4 : Int)) (k) = F (F (pg_) (4 : Int)) (k) from (show Fx (F (pg_) (4 : Int)) (k) = F (F (pg_) (4 : Int)) (k) from hMx _ _ y37.1 (own_z y37.1) (by rw [y37.2.1]; rfl))] at z; exact z
        refine jx_ld (pc_q := 26) (l_q := jSto1 L 3 (rv (F (F (pg_) (4 : Int)) (k)))) (st_q := []) rfl (js_rvn (by decide)) ?_
        obtain ⟨L45, eL45⟩ : ∃ q : jL, q = jSto1 L 3 (rv (F (F (pg_) (4 : Int)) (k))) := ⟨_, rfl⟩
        rw [← eL45]
        have g46 : jGet L45 0 = some (rv (me)) := eL45 ▸ jg_nr (by decide) gL_0
        have g47 : jGet L45 1 = some (rv (pg_)) := eL45 ▸ jg_nr (by decide) gL_1
        have g48 : jGet L45 2 = some (.int (i32 (k))) := eL45 ▸ jg_ne (by decide) gL_2 rfl
        have g49 : jGet L45 3 = some (rv (F (F (pg_) (4 : Int)) (k))) := eL45 ▸ jg_eq
        clear eL45
        refine jx_ld (pc_q := 27) (l_q := L45) (st_q := [rv (F (F (pg_) (4 : Int)) (k))]) rfl (jl_rvn g49) ?_
        refine cx_nul (pc_q := 30) (tg_q := 111) rfl rfl rfl (fun h50 => ?_) (fun h50 => ?_)
        · have _q := h50
          refine jx_inc (pc_q := 114) (l_q := jSto1 L45 2 (.int (i32 (k + (1))))) (x := k) rfl g48 (by decide) rfl rfl ?_
          obtain ⟨L51, eL51⟩ : ∃ q : jL, q = jSto1 L45 2 (.int (i32 ((k + (1))))) := ⟨_, rfl⟩
          rw [← eL51]
          have g52 : jGet L51 0 = some (rv (me)) := eL51 ▸ jg_nr (by decide) g46
          have g53 : jGet L51 1 = some (rv (pg_)) := eL51 ▸ jg_nr (by decide) g47
          have g54 : jGet L51 3 = some (rv (F (F (pg_) (4 : Int)) (k))) := eL51 ▸ jg_nr (by decide) g49
          have g55 : jGet L51 2 = some (.int (i32 ((k + (1))))) := eL51 ▸ jg_eq
          clear eL51
          refine jx_go (tg := 2) rfl rfl ?_
          exact ih _ (by omega) L51 Fx ((k + (1))) rfl g52 g53 g55 hCx hMx (by omega) (by omega)
        · have _q := h50
          have ho56 : own m (F (F (pg_) (4 : Int)) (k)) ∧ tg (F (F (pg_) (4 : Int)) (k)) = 7 := y44.resolve_left h50
          refine jx_ld (pc_q := 31) (l_q := L45) (st_q := [rv (F (F (pg_) (4 : Int)) (k))]) rfl (jl_rvn g49) ?_
          refine cx_gr (pc_q := 34) (c := 6) (q := 12) (v := F (F (F (pg_) (4 : Int)) (k)) (12 : Int)) rfl rfl (by decide) (by decide) rfl rfl ho56.1 ho56.2 (show Fx (F (F (pg_) (4 : Int)) (k)) (12 : Int) = F (F (F (pg_) (4 : Int)) (k)) (12 : Int) from hMx _ _ ho56.1 (own_z ho56.1) (by rw [ho56.2]; rfl)) ?_
          have y57 : F (F (F (pg_) (4 : Int)) (k)) (12 : Int) = 0 ∨ (own m (F (F (F (pg_) (4 : Int)) (k)) (12 : Int)) ∧ tg (F (F (F (pg_) (4 : Int)) (k)) (12 : Int)) = 8) := by have z := HC_r (c := 6) (q := 12) hCx ho56.1 ho56.2 (by decide) rfl; rw [show Fx (F (F (pg_) (4 : Int)) (k)) ((12 : Nat) : Int) = F (F (F (pg_) (4 : Int)) (k)) (12 : Int) from (show Fx (F (F (pg_) (4 : Int)) (k)) (12 : Int) = F (F (F (pg_) (4 : Int)) (k)) (12 : Int) from hMx _ _ ho56.1 (own_z ho56.1) (by rw [ho56.2]; rfl))] at z; exact z
          refine cx_nul (pc_q := 37) (tg_q := 111) rfl rfl rfl (fun h58 => ?_) (fun h58 => ?_)
          · have _q := h58
            refine jx_inc (pc_q := 114) (l_q := jSto1 L45 2 (.int (i32 (k + (1))))) (x := k) rfl g48 (by decide) rfl rfl ?_
            obtain ⟨L59, eL59⟩ : ∃ q : jL, q = jSto1 L45 2 (.int (i32 ((k + (1))))) := ⟨_, rfl⟩
            rw [← eL59]
            have g60 : jGet L59 0 = some (rv (me)) := eL59 ▸ jg_nr (by decide) g46
            have g61 : jGet L59 1 = some (rv (pg_)) := eL59 ▸ jg_nr (by decide) g47
            have g62 : jGet L59 3 = some (rv (F (F (pg_) (4 : Int)) (k))) := eL59 ▸ jg_nr (by decide) g49
            have g63 : jGet L59 2 = some (.int (i32 ((k + (1))))) := eL59 ▸ jg_eq
            clear eL59
            refine jx_go (tg := 2) rfl rfl ?_
            exact ih _ (by omega) L59 Fx ((k + (1))) rfl g60 g61 g63 hCx hMx (by omega) (by omega)
          · have _q := h58
            have ho64 : own m (F (F (F (pg_) (4 : Int)) (k)) (12 : Int)) ∧ tg (F (F (F (pg_) (4 : Int)) (k)) (12 : Int)) = 8 := y57.resolve_left h58
            have k65 := SN_p (c_PG.2 _ ho56.1 ho56.2) h58
            refine jx_ar (pc_q := 38) (st_q := [.int (i32 (1))]) rfl rfl rfl rfl ?_
            refine jx_ld (pc_q := 40) (l_q := jSto1 L45 4 (.int (i32 (1)))) (st_q := []) rfl rfl ?_
            obtain ⟨L66, eL66⟩ : ∃ q : jL, q = jSto1 L45 4 (.int (i32 (1))) := ⟨_, rfl⟩
            rw [← eL66]
            have g67 : jGet L66 0 = some (rv (me)) := eL66 ▸ jg_nr (by decide) g46
            have g68 : jGet L66 1 = some (rv (pg_)) := eL66 ▸ jg_nr (by decide) g47
            have g69 : jGet L66 2 = some (.int (i32 (k))) := eL66 ▸ jg_ne (by decide) g48 rfl
            have g70 : jGet L66 3 = some (rv (F (F (pg_) (4 : Int)) (k))) := eL66 ▸ jg_nr (by decide) g49
            have g71 : jGet L66 4 = some (.int (i32 (1))) := eL66 ▸ jg_eq
            clear eL66
            refine jx_ld (pc_q := 41) (l_q := L66) (st_q := [rv (F (F (pg_) (4 : Int)) (k))]) rfl (jl_rvn g70) ?_
            refine cx_gr (pc_q := 44) (c := 6) (q := 13) (v := F (F (F (pg_) (4 : Int)) (k)) (13 : Int)) rfl rfl (by decide) (by decide) rfl rfl ho56.1 ho56.2 (show Fx (F (F (pg_) (4 : Int)) (k)) (13 : Int) = F (F (F (pg_) (4 : Int)) (k)) (13 : Int) from hMx _ _ ho56.1 (own_z ho56.1) (by rw [ho56.2]; rfl)) ?_
            have y72 : F (F (F (pg_) (4 : Int)) (k)) (13 : Int) = 0 ∨ (own m (F (F (F (pg_) (4 : Int)) (k)) (13 : Int)) ∧ tg (F (F (F (pg_) (4 : Int)) (k)) (13 : Int)) = 7) := by have z := HC_r (c := 6) (q := 13) hCx ho56.1 ho56.2 (by decide) rfl; rw [show Fx (F (F (pg_) (4 : Int)) (k)) ((13 : Nat) : Int) = F (F (F (pg_) (4 : Int)) (k)) (13 : Int) from (show Fx (F (F (pg_) (4 : Int)) (k)) (13 : Int) = F (F (F (pg_) (4 : Int)) (k)) (13 : Int) from hMx _ _ ho56.1 (own_z ho56.1) (by rw [ho56.2]; rfl))] at z; exact z
            refine jx_ld (pc_q := 46) (l_q := jSto1 L66 5 (rv (F (F (F (pg_) (4 : Int)) (k)) (13 : Int)))) (st_q := []) rfl (js_rv (by decide)) ?_
            obtain ⟨L73, eL73⟩ : ∃ q : jL, q = jSto1 L66 5 (rv (F (F (F (pg_) (4 : Int)) (k)) (13 : Int))) := ⟨_, rfl⟩
            rw [← eL73]
            have g74 : jGet L73 0 = some (rv (me)) := eL73 ▸ jg_nr (by decide) g67
            have g75 : jGet L73 1 = some (rv (pg_)) := eL73 ▸ jg_nr (by decide) g68
            have g76 : jGet L73 2 = some (.int (i32 (k))) := eL73 ▸ jg_ne (by decide) g69 rfl
            have g77 : jGet L73 3 = some (rv (F (F (pg_) (4 : Int)) (k))) := eL73 ▸ jg_nr (by decide) g70
            have g78 : jGet L73 4 = some (.int (i32 (1))) := eL73 ▸ jg_ne (by decide) g71 rfl
            have g79 : jGet L73 5 = some (rv (F (F (F (pg_) (4 : Int)) (k)) (13 : Int))) := eL73 ▸ jg_eq
            clear eL73
            have hin : ∀ (mm2 : Nat) (L2 : jL) (Fx2 : Int → Int → Int) (wd pa : Int), (mz m pa).toNat = mm2 → jGet L2 0 = some (rv (me)) → jGet L2 1 = some (rv (pg_)) → jGet L2 2 = some (.int (i32 (k))) → jGet L2 3 = some (rv (F (F (pg_) (4 : Int)) (k))) → jGet L2 4 = some (.int (i32 wd)) → jGet L2 5 = some (rv pa) → HC 0 m tg ln Fx2 → Fq 0 [(4, 0), (7, 3), (7, 4), (7, 5), (8, 10), (8, 11), (8, 12), (10, 0), (10, 1), (10, 2)] m tg F Fx2 → ((-2147483648 : Int) ≤ wd ∧ wd ≤ 2147483647) → (pa = 0 ∨ (own m pa ∧ tg pa = 7)) → wj X d jm123 (46, L2, [], cV R m tg ln Fx2) (fun o V_q => ∃ (F_q : Int → Int → Int), V_q = cV R m tg ln F_q ∧ o = .inl none ∧ HC 0 m tg ln F_q ∧ Fq 0 [(4, 0), (7, 3), (7, 4), (7, 5), (8, 10), (8, 11), (8, 12), (10, 0), (10, 1), (10, 2)] m tg F F_q ∧ True) := by
              intro mm2
              induction mm2 using Nat.strongRecOn with
              | ind mm2 ih2 =>
                intro L2 Fx2 wd pa hmm2 gL2_0 gL2_1 gL2_2 gL2_3 gL2_4 gL2_5 hCx2 hMx2 rx2_wd yx2_pa
                refine jx_ld (pc_q := 48) (l_q := L2) (st_q := [rv (pa)]) rfl (jl_rv gL2_5) ?_
                refine cx_nul (pc_q := 51) (tg_q := 71) rfl rfl rfl (fun h80 => ?_) (fun h80 => ?_)
                · have _q := h80
                  refine jx_ld (pc_q := 72) (l_q := L2) (st_q := [rv (me)]) rfl (jl_rvn gL2_0) ?_
                  refine jx_ld (pc_q := 73) (l_q := L2) (st_q := [rv (F (F (pg_) (4 : Int)) (k)), rv (me)]) rfl (jl_rvn gL2_3) ?_
                  refine cx_gr (pc_q := 76) (c := 6) (q := 12) (v := F (F (F (pg_) (4 : Int)) (k)) (12 : Int)) rfl rfl (by decide) (by decide) rfl rfl ho56.1 ho56.2 (show Fx2 (F (F (pg_) (4 : Int)) (k)) (12 : Int) = F (F (F (pg_) (4 : Int)) (k)) (12 : Int) from hMx2 _ _ ho56.1 (own_z ho56.1) (by rw [ho56.2]; rfl)) ?_
                  refine jx_ld (pc_q := 78) (l_q := L2) (st_q := [.int (i32 (wd)), rv (F (F (F (pg_) (4 : Int)) (k)) (12 : Int)), rv (me)]) rfl (jl_iload gL2_4) ?_
                  refine cx_vi (c := 3) (a := me) (st := []) (as := [rv (F (F (F (pg_) (4 : Int)) (k)) (12 : Int)), .int (i32 (wd))]) rfl rfl rfl o_me t_me (by decide) rfl ⟨rfl, rfl, (Nat.le_of_ble_eq_true rfl)⟩ rfl (k_LLayout_frame (dd := d) (R := R) (m := m) (tg := tg) (ln := ln) (F := Fx2) (kk := 60 + 1) (hE := fun _ => LPx_all X _) (me := me) (bd := F (F (F (pg_) (4 : Int)) (k)) (12 : Int)) (wd := wd) (hd := by omega) (hC := hCx2) (o_me := o_me) (t_me := t_me) (o_bd := ho64.1) (t_bd := ho64.2) (h_wd := by omega) (p_0 := by omega) (c_NT := NT_q hC c_NT hMx2 rfl) (n_bd := (SN_q (SN_w (c_PG.2 _ ho56.1 ho56.2) (by omega)) hMx2 rfl rfl))) (fun o V_q hq => ?_)
                  obtain ⟨F81, rfl, rfl, hC82, hM83, -⟩ := hq
                  have hM84 : Fq 0 [(4, 0), (7, 3), (7, 4), (7, 5), (8, 10), (8, 11), (8, 12), (10, 0), (10, 1), (10, 2)] m tg F F81 := Fq_t (ln := ln) (ln1 := ln) hMx2 Ex_r hM83 (by decide) (Or.inl rfl)
                  refine Or.inl ⟨rfl, ?_⟩
                  refine jx_ld (pc_q := 82) (l_q := L2) (st_q := [rv (F (F (pg_) (4 : Int)) (k))]) rfl (jl_rvn gL2_3) ?_
                  refine jx_ld (pc_q := 83) (l_q := L2) (st_q := [rv (F (F (pg_) (4 : Int)) (k)), rv (F (F (pg_) (4 : Int)) (k))]) rfl (jl_rvn gL2_3) ?_
                  refine cx_gr (pc_q := 86) (c := 6) (q := 12) (v := F (F (F (pg_) (4 : Int)) (k)) (12 : Int)) rfl rfl (by decide) (by decide) rfl rfl ho56.1 ho56.2 ((show F81 (F (F (pg_) (4 : Int)) (k)) (12 : Int) = Fx2 (F (F (pg_) (4 : Int)) (k)) (12 : Int) from hM83 _ _ ho56.1 (own_z ho56.1) (by rw [ho56.2]; rfl)).trans (show Fx2 (F (F (pg_) (4 : Int)) (k)) (12 : Int) = F (F (F (pg_) (4 : Int)) (k)) (12 : Int) from hMx2 _ _ ho56.1 (own_z ho56.1) (by rw [ho56.2]; rfl))) ?_
                  refine cx_gi (pc_q := 89) (c := 7) (q := 11) (v := F81 (F (F (F (pg_) (4 : Int)) (k)) (12 : Int)) (11 : Int)) rfl rfl (by decide) (by decide) (Or.inl rfl) rfl ho64.1 ho64.2 rfl ?_
                  have b85 : (-2147483648 : Int) ≤ F81 (F (F (F (pg_) (4 : Int)) (k)) (12 : Int)) (11 : Int) ∧ F81 (F (F (F (pg_) (4 : Int)) (k)) (12 : Int)) (11 : Int) ≤ 2147483647 := by have z := HC_i (c := 7) (q := 11) hC82 ho64.1 ho64.2 (by decide) rfl; rw [show F81 (F (F (F (pg_) (4 : Int)) (k)) (12 : Int)) ((11 : Nat) : Int) = F81 (F (F (F (pg_) (4 : Int)) (k)) (12 : Int)) (11 : Int) from rfl] at z; exact z
                  refine cx_pi (pc_q := 92) (c := 6) (q := 3) (qi := (3 : Int)) (z := F81 (F (F (F (pg_) (4 : Int)) (k)) (12 : Int)) (11 : Int)) rfl rfl (by decide) (by decide) rfl rfl rfl (by decide) rfl ho56.1 ho56.2 rfl ?_
                  obtain ⟨F86, eF86⟩ : ∃ q, q = uF F81 (F (F (pg_) (4 : Int)) (k)) (3 : Int) (F81 (F (F (F (pg_) (4 : Int)) (k)) (12 : Int)) (11 : Int)) := ⟨_, rfl⟩
                  rw [← eF86]
                  have hC87 : HC 0 m tg ln F86 := by rw [eF86]; exact HC_fi (c := 6) (q := 3) hC82 ho56.2 (by decide) rfl (by omega) (by omega) ⟨fun w => absurd w (by decide), fun w => absurd w (by decide)⟩
                  have hM88 : Fq 0 [(4, 0), (7, 3), (7, 4), (7, 5), (8, 10), (8, 11), (8, 12), (10, 0), (10, 1), (10, 2)] m tg F F86 := by rw [eF86]; exact Fq_p hM84 ho56.2 (fun _ => rfl) rfl
                  refine jx_ld (pc_q := 93) (l_q := L2) (st_q := [rv (F (F (pg_) (4 : Int)) (k))]) rfl (jl_rvn gL2_3) ?_
                  refine jx_ld (pc_q := 94) (l_q := L2) (st_q := [rv (F (F (pg_) (4 : Int)) (k)), rv (F (F (pg_) (4 : Int)) (k))]) rfl (jl_rvn gL2_3) ?_
                  refine cx_gr (pc_q := 97) (c := 6) (q := 12) (v := F (F (F (pg_) (4 : Int)) (k)) (12 : Int)) rfl rfl (by decide) (by decide) rfl rfl ho56.1 ho56.2 ((show F86 (F (F (pg_) (4 : Int)) (k)) (12 : Int) = F81 (F (F (pg_) (4 : Int)) (k)) (12 : Int) from by rw [eF86]; exact uF_j (by decide)).trans ((show F81 (F (F (pg_) (4 : Int)) (k)) (12 : Int) = Fx2 (F (F (pg_) (4 : Int)) (k)) (12 : Int) from hM83 _ _ ho56.1 (own_z ho56.1) (by rw [ho56.2]; rfl)).trans (show Fx2 (F (F (pg_) (4 : Int)) (k)) (12 : Int) = F (F (F (pg_) (4 : Int)) (k)) (12 : Int) from hMx2 _ _ ho56.1 (own_z ho56.1) (by rw [ho56.2]; rfl)))) ?_
                  refine cx_gi (pc_q := 100) (c := 7) (q := 12) (v := F81 (F (F (F (pg_) (4 : Int)) (k)) (12 : Int)) (12 : Int)) rfl rfl (by decide) (by decide) (Or.inl rfl) rfl ho64.1 ho64.2 (show F86 (F (F (F (pg_) (4 : Int)) (k)) (12 : Int)) (12 : Int) = F81 (F (F (F (pg_) (4 : Int)) (k)) (12 : Int)) (12 : Int) from by rw [eF86]; exact uF_j (by decide)) ?_
                  have b89 : (-2147483648 : Int) ≤ F81 (F (F (F (pg_) (4 : Int)) (k)) (12 : Int)) (12 : Int) ∧ F81 (F (F (F (pg_) (4 : Int)) (k)) (12 : Int)) (12 : Int) ≤ 2147483647 := by have z := HC_i (c := 7) (q := 12) hC87 ho64.1 ho64.2 (by decide) rfl; rw [show F86 (F (F (F (pg_) (4 : Int)) (k)) (12 : Int)) ((12 : Nat) : Int) = F81 (F (F (F (pg_) (4 : Int)) (k)) (12 : Int)) (12 : Int) from (show F86 (F (F (F (pg_) (4 : Int)) (k)) (12 : Int)) (12 : Int) = F81 (F (F (F (pg_) (4 : Int)) (k)) (12 : Int)) (12 : Int) from by rw [eF86]; exact uF_j (by decide))] at z; exact z
                  refine cx_pi (pc_q := 103) (c := 6) (q := 4) (qi := (4 : Int)) (z := F81 (F (F (F (pg_) (4 : Int)) (k)) (12 : Int)) (12 : Int)) rfl rfl (by decide) (by decide) rfl rfl rfl (by decide) rfl ho56.1 ho56.2 rfl ?_
                  obtain ⟨F90, eF90⟩ : ∃ q, q = uF F86 (F (F (pg_) (4 : Int)) (k)) (4 : Int) (F81 (F (F (F (pg_) (4 : Int)) (k)) (12 : Int)) (12 : Int)) := ⟨_, rfl⟩
                  rw [← eF90]
                  have hC91 : HC 0 m tg ln F90 := by rw [eF90]; exact HC_fi (c := 6) (q := 4) hC87 ho56.2 (by decide) rfl (by omega) (by omega) ⟨fun w => absurd w (by decide), fun w => absurd w (by decide)⟩
                  have hM92 : Fq 0 [(4, 0), (7, 3), (7, 4), (7, 5), (8, 10), (8, 11), (8, 12), (10, 0), (10, 1), (10, 2)] m tg F F90 := by rw [eF90]; exact Fq_p hM88 ho56.2 (fun _ => rfl) rfl
                  refine jx_ld (pc_q := 104) (l_q := L2) (st_q := [rv (pg_)]) rfl (jl_rvn gL2_1) ?_
                  refine jx_ld (pc_q := 105) (l_q := L2) (st_q := [rv (F (F (pg_) (4 : Int)) (k)), rv (pg_)]) rfl (jl_rvn gL2_3) ?_
                  refine cx_gr (pc_q := 108) (c := 6) (q := 12) (v := F (F (F (pg_) (4 : Int)) (k)) (12 : Int)) rfl rfl (by decide) (by decide) rfl rfl ho56.1 ho56.2 ((show F90 (F (F (pg_) (4 : Int)) (k)) (12 : Int) = F86 (F (F (pg_) (4 : Int)) (k)) (12 : Int) from by rw [eF90]; exact uF_j (by decide)).trans ((show F86 (F (F (pg_) (4 : Int)) (k)) (12 : Int) = F81 (F (F (pg_) (4 : Int)) (k)) (12 : Int) from by rw [eF86]; exact uF_j (by decide)).trans ((show F81 (F (F (pg_) (4 : Int)) (k)) (12 : Int) = Fx2 (F (F (pg_) (4 : Int)) (k)) (12 : Int) from hM83 _ _ ho56.1 (own_z ho56.1) (by rw [ho56.2]; rfl)).trans (show Fx2 (F (F (pg_) (4 : Int)) (k)) (12 : Int) = F (F (F (pg_) (4 : Int)) (k)) (12 : Int) from hMx2 _ _ ho56.1 (own_z ho56.1) (by rw [ho56.2]; rfl))))) ?_
                  refine cx_st (st := []) (as := [rv (pg_), rv (F (F (F (pg_) (4 : Int)) (k)) (12 : Int))]) rfl rfl rfl ⟨rfl, (Nat.le_of_ble_eq_true rfl)⟩ rfl (k_LLayout_judge (dd := d) (R := R) (m := m) (tg := tg) (ln := ln) (F := F90) (pg := pg_) (bd := F (F (F (pg_) (4 : Int)) (k)) (12 : Int)) (hd := by omega) (hC := hC91) (o_pg := o_pg_) (t_pg := t_pg_) (o_bd := ho64.1) (t_bd := ho64.2)) (fun o V_q hq => ?_)
                  obtain ⟨F93, rfl, rfl, hC94, hM95, -⟩ := hq
                  have hM96 : Fq 0 [(4, 0), (7, 3), (7, 4), (7, 5), (8, 10), (8, 11), (8, 12), (10, 0), (10, 1), (10, 2)] m tg F F93 := Fq_t (ln := ln) (ln1 := ln) hM92 Ex_r hM95 (by decide) (Or.inl rfl)
                  refine Or.inl ⟨rfl, ?_⟩
                  refine jx_inc (pc_q := 114) (l_q := jSto1 L2 2 (.int (i32 (k + (1))))) (x := k) rfl gL2_2 (by decide) rfl rfl ?_
                  obtain ⟨L97, eL97⟩ : ∃ q : jL, q = jSto1 L2 2 (.int (i32 ((k + (1))))) := ⟨_, rfl⟩
                  rw [← eL97]
                  have g98 : jGet L97 0 = some (rv (me)) := eL97 ▸ jg_nr (by decide) gL2_0
                  have g99 : jGet L97 1 = some (rv (pg_)) := eL97 ▸ jg_nr (by decide) gL2_1
                  have g100 : jGet L97 3 = some (rv (F (F (pg_) (4 : Int)) (k))) := eL97 ▸ jg_nr (by decide) gL2_3
                  have g101 : jGet L97 4 = some (.int (i32 (wd))) := eL97 ▸ jg_ne (by decide) gL2_4 rfl
                  have g102 : jGet L97 5 = some (rv (pa)) := eL97 ▸ jg_nr (by decide) gL2_5
                  have g103 : jGet L97 2 = some (.int (i32 ((k + (1))))) := eL97 ▸ jg_eq
                  clear eL97
                  refine jx_go (tg := 2) rfl rfl ?_
                  exact ih _ (by omega) L97 F93 ((k + (1))) rfl g98 g99 g103 hC94 hM96 (by omega) (by omega)
                · have _q := h80
                  have ho104 : own m (pa) ∧ tg (pa) = 7 := yx2_pa.resolve_left h80
                  refine jx_ld (pc_q := 53) (l_q := L2) (st_q := [rv (pa)]) rfl (jl_rv gL2_5) ?_
                  refine jx_ld (pc_q := 55) (l_q := L2) (st_q := [.int (i32 (wd)), rv (pa)]) rfl (jl_iload gL2_4) ?_
                  refine cx_pi (pc_q := 58) (c := 6) (q := 5) (qi := (5 : Int)) (z := wd) rfl rfl (by decide) (by decide) rfl rfl rfl (by decide) rfl ho104.1 ho104.2 rfl ?_
                  obtain ⟨F105, eF105⟩ : ∃ q, q = uF Fx2 (pa) (5 : Int) (wd) := ⟨_, rfl⟩
                  rw [← eF105]
                  have hC106 : HC 0 m tg ln F105 := by rw [eF105]; exact HC_fi (c := 6) (q := 5) hCx2 ho104.2 (by decide) rfl (by omega) (by omega) ⟨fun w => absurd w (by decide), fun w => absurd w (by decide)⟩
                  have hM107 : Fq 0 [(4, 0), (7, 3), (7, 4), (7, 5), (8, 10), (8, 11), (8, 12), (10, 0), (10, 1), (10, 2)] m tg F F105 := by rw [eF105]; exact Fq_p hMx2 ho104.2 (fun _ => rfl) rfl
                  refine jx_inc (pc_q := 61) (l_q := jSto1 L2 4 (.int (i32 (wd + (1))))) (x := wd) rfl gL2_4 (by decide) rfl rfl ?_
                  obtain ⟨z108, ez108⟩ : ∃ q, q = (i32 ((wd + (1)))).toInt := ⟨_, rfl⟩
                  have bz108 : (-2147483648 : Int) ≤ z108 ∧ z108 ≤ 2147483647 := ez108 ▸ i32_rg _
                  rw [show i32 ((wd + (1))) = i32 z108 by rw [ez108, i32_of]]
                  clear ez108
                  obtain ⟨L109, eL109⟩ : ∃ q : jL, q = jSto1 L2 4 (.int (i32 (z108))) := ⟨_, rfl⟩
                  rw [← eL109]
                  have g110 : jGet L109 0 = some (rv (me)) := eL109 ▸ jg_nr (by decide) gL2_0
                  have g111 : jGet L109 1 = some (rv (pg_)) := eL109 ▸ jg_nr (by decide) gL2_1
                  have g112 : jGet L109 2 = some (.int (i32 (k))) := eL109 ▸ jg_ne (by decide) gL2_2 rfl
                  have g113 : jGet L109 3 = some (rv (F (F (pg_) (4 : Int)) (k))) := eL109 ▸ jg_nr (by decide) gL2_3
                  have g114 : jGet L109 5 = some (rv (pa)) := eL109 ▸ jg_nr (by decide) gL2_5
                  have g115 : jGet L109 4 = some (.int (i32 (z108))) := eL109 ▸ jg_eq
                  clear eL109
                  refine jx_ld (pc_q := 63) (l_q := L109) (st_q := [rv (pa)]) rfl (jl_rv g114) ?_
                  refine cx_gr (pc_q := 66) (c := 6) (q := 14) (v := F (pa) (14 : Int)) rfl rfl (by decide) (by decide) rfl rfl ho104.1 ho104.2 ((show F105 (pa) (14 : Int) = Fx2 (pa) (14 : Int) from by rw [eF105]; exact uF_j (by decide)).trans (show Fx2 (pa) (14 : Int) = F (pa) (14 : Int) from hMx2 _ _ ho104.1 (own_z ho104.1) (by rw [ho104.2]; rfl))) ?_
                  have y116 : F (pa) (14 : Int) = 0 ∨ (own m (F (pa) (14 : Int)) ∧ tg (F (pa) (14 : Int)) = 7) := by have z := HC_r (c := 6) (q := 14) hC106 ho104.1 ho104.2 (by decide) rfl; rw [show F105 (pa) ((14 : Nat) : Int) = F (pa) (14 : Int) from ((show F105 (pa) (14 : Int) = Fx2 (pa) (14 : Int) from by rw [eF105]; exact uF_j (by decide)).trans (show Fx2 (pa) (14 : Int) = F (pa) (14 : Int) from hMx2 _ _ ho104.1 (own_z ho104.1) (by rw [ho104.2]; rfl)))] at z; exact z
                  have z117 := mz_a hC c_NT ho104.1 ho104.2
                  refine jx_ld (pc_q := 68) (l_q := jSto1 L109 5 (rv (F (pa) (14 : Int)))) (st_q := []) rfl (js_rv (by decide)) ?_
                  obtain ⟨L118, eL118⟩ : ∃ q : jL, q = jSto1 L109 5 (rv (F (pa) (14 : Int))) := ⟨_, rfl⟩
                  rw [← eL118]
                  have g119 : jGet L118 0 = some (rv (me)) := eL118 ▸ jg_nr (by decide) g110
                  have g120 : jGet L118 1 = some (rv (pg_)) := eL118 ▸ jg_nr (by decide) g111
                  have g121 : jGet L118 2 = some (.int (i32 (k))) := eL118 ▸ jg_ne (by decide) g112 rfl
                  have g122 : jGet L118 3 = some (rv (F (F (pg_) (4 : Int)) (k))) := eL118 ▸ jg_nr (by decide) g113
                  have g123 : jGet L118 4 = some (.int (i32 (z108))) := eL118 ▸ jg_ne (by decide) g115 rfl
                  have g124 : jGet L118 5 = some (rv (F (pa) (14 : Int))) := eL118 ▸ jg_eq
                  clear eL118
                  refine jx_go (tg := 46) rfl rfl ?_
                  exact ih2 _ (by omega) L118 F105 (z108) (F (pa) (14 : Int)) rfl g119 g120 g121 g122 g123 g124 hC106 hM107 (by omega) y116
            exact hin _ L73 Fx (1) (F (F (F (pg_) (4 : Int)) (k)) (13 : Int)) rfl g74 g75 g76 g77 g78 g79 hCx hMx (by omega) y72
set_option maxRecDepth 20000 in
set_option maxHeartbeats 4000000 in
theorem k_LLayout_measure {X : jX} {dd : Nat} {R : Nat → jC} {m : Nat} {tg ln : Int → Int} {F : Int → Int → Int} {me pg_ : Int} (hd : 200 ≤ dd) (hC : HC 0 m tg ln F) (o_me : own m me) (t_me : tg me = 4) (o_pg_ : own m pg_) (t_pg_ : tg pg_ = 10) (c_NT : NT m tg F) (c_PG : PG m tg F) : wk X dd 123 [rv me, rv pg_] (cV R m tg ln F) (fun o V_q => ∃ (F_q : Int → Int → Int), V_q = cV R m tg ln F_q ∧ o = .inl none ∧ HC 0 m tg ln F_q ∧ Fq 0 [(4, 0), (7, 3), (7, 4), (7, 5), (8, 10), (8, 11), (8, 12), (10, 0), (10, 1), (10, 2)] m tg F F_q ∧ True) := by
  obtain ⟨d, rfl⟩ : ∃ d, dd = d + 1 := ⟨dd - 1, by omega⟩
  refine wk_of (e := jm123) rfl (by rw [jS_r, jS_r, jS_0]; exact Nat.le_of_ble_eq_true rfl) ?_
  rw [la_r, la_r, la_0]
  show wj X d jm123 (0, [(0, rv (me)), (1, rv (pg_))], [], cV R m tg ln F) _
  have hM0 : Fq 0 [(4, 0), (7, 3), (7, 4), (7, 5), (8, 10), (8, 11), (8, 12), (10, 0), (10, 1), (10, 2)] m tg F F := Fq_r
  obtain ⟨L0, eL0⟩ : ∃ q : jL, q = [(0, rv (me)), (1, rv (pg_))] := ⟨_, rfl⟩
  rw [← eL0]
  have g125 : jGet L0 0 = some (rv (me)) := eL0 ▸ (rfl : jGet [(0, rv (me)), (1, rv (pg_))] 0 = some (rv (me)))
  have g126 : jGet L0 1 = some (rv (pg_)) := eL0 ▸ (rfl : jGet [(0, rv (me)), (1, rv (pg_))] 1 = some (rv (pg_)))
  clear eL0
  refine jx_ar (pc_q := 1) (st_q := [.int (i32 (0))]) rfl rfl rfl rfl ?_
  refine jx_ld (pc_q := 2) (l_q := jSto1 L0 2 (.int (i32 (0)))) (st_q := []) rfl rfl ?_
  obtain ⟨L127, eL127⟩ : ∃ q : jL, q = jSto1 L0 2 (.int (i32 (0))) := ⟨_, rfl⟩
  rw [← eL127]
  have g128 : jGet L127 0 = some (rv (me)) := eL127 ▸ jg_nr (by decide) g125
  have g129 : jGet L127 1 = some (rv (pg_)) := eL127 ▸ jg_nr (by decide) g126
  have g130 : jGet L127 2 = some (.int (i32 (0))) := eL127 ▸ jg_eq
  clear eL127
  exact k_LLayout_measure_at_2 (X := X) (d := d) (R := R) (m := m) (tg := tg) (ln := ln) (F := F) (me := me) (pg_ := pg_) (hd := hd) (hC := hC) (o_me := o_me) (t_me := t_me) (o_pg_ := o_pg_) (t_pg_ := t_pg_) (c_NT := c_NT) (c_PG := c_PG) _ L127 F (0) rfl g128 g129 g130 hC hM0 (by omega) (by omega)
set_option maxRecDepth 20000 in
set_option maxHeartbeats 4000000 in
theorem k_LCoder_translate_at_193 {X : jX} {kk : Nat} {d : Nat} {R : Nat → jC} {m : Nat} {tg ln : Int → Int} {F : Int → Int → Int} {me pg_ rt : Int} (hd : 200 ≤ d + 1) (hC : HC 0 m tg ln F) (o_me : own m me) (t_me : tg me = 2) (o_pg_ : own m pg_) (t_pg_ : tg pg_ = 10) (o_rt : own m rt) (t_rt : tg rt = 8) (p_0 : kk = 60) (c_NT : NT m tg F) (c_PG : PG m tg F) (n_rt : SN m tg F rt (kk)) : ∀ (mm : Nat) (L : jL) (Fx : Int → Int → Int) (k : Int), (1000000 - k).toNat = mm → jGet L 0 = some (rv (me)) → jGet L 1 = some (rv (pg_)) → jGet L 2 = some (rv (rt)) → jGet L 3 = some (.int (i32 k)) → HC 0 m tg ln Fx → Fq 0 [(2, 7), (2, 8), (2, 9), (2, 10), (2, 11), (7, 6), (7, 9), (7, 10), (20, -5), (21, -5)] m tg F Fx → ((-2147483648 : Int) ≤ k ∧ k ≤ 2147483647) → (0 ≤ k) → (k ≤ 1000000) → wj X d jm43 (193, L, [], cV R m tg ln Fx) (fun o V_q => ∃ (F_q : Int → Int → Int), V_q = cV R m tg ln F_q ∧ o = .inl none ∧ HC 0 m tg ln F_q ∧ Fq 0 [(2, 7), (2, 8), (2, 9), (2, 10), (2, 11), (7, 6), (7, 9), (7, 10), (20, -5), (21, -5)] m tg F F_q ∧ True) := by
  intro mm
  induction mm using Nat.strongRecOn with
  | ind mm ih =>
    intro L Fx k hmm gL_0 gL_1 gL_2 gL_3 hCx hMx rx_k iv_0 iv_1
    have k1 := SN_p n_rt (own_z o_rt)
    refine jx_ld (pc_q := 194) (l_q := L) (st_q := [.int (i32 (k))]) rfl (jl_iloadn gL_3) ?_
    refine jx_hp (pc_q := 196) (st_q := [.int (i32 (1000000)), .int (i32 (k))]) rfl rfl rfl rfl rfl rfl ?_
    refine jx_icmp_ge (pc_q := 199) (tg := 222) rfl rfl rfl (by omega) (by omega) (by decide) (by decide) (fun h2 => ?_) (fun h2 => ?_)
    · have _q := h2
      refine jx_rt (v := none) rfl rfl rfl rfl rfl rfl ?_
      exact ⟨Fx, rfl, rfl, hCx, hMx, trivial⟩
    · have _q := h2
      refine jx_ld (pc_q := 200) (l_q := L) (st_q := [rv (me)]) rfl (jl_rvn gL_0) ?_
      refine cx_gi (pc_q := 203) (c := 1) (q := 11) (v := Fx (me) (11 : Int)) rfl rfl (by decide) (by decide) (Or.inr rfl) rfl o_me t_me rfl ?_
      have b3 : (0 : Int) ≤ Fx (me) (11 : Int) ∧ Fx (me) (11 : Int) ≤ 1 := by have z := HC_i (c := 1) (q := 11) hCx o_me t_me (by decide) rfl; rw [show Fx (me) ((11 : Nat) : Int) = Fx (me) (11 : Int) from rfl] at z; exact z
      refine jx_if_ne (pc_q := 206) (tg := 222) rfl rfl rfl (by omega) (by omega) (fun h4 => ?_) (fun h4 => ?_)
      · have _q := h4
        refine jx_rt (v := none) rfl rfl rfl rfl rfl rfl ?_
        exact ⟨Fx, rfl, rfl, hCx, hMx, trivial⟩
      · have _q := h4
        refine jx_ld (pc_q := 207) (l_q := L) (st_q := [rv (me)]) rfl (jl_rvn gL_0) ?_
        refine cx_vi (c := 1) (a := me) (st := []) (as := []) rfl rfl rfl o_me t_me (by decide) rfl ⟨rfl, rfl, (Nat.le_of_ble_eq_true rfl)⟩ rfl (k_LCoder_lengthen (dd := d) (R := R) (m := m) (tg := tg) (ln := ln) (F := Fx) (me := me) (hd := by omega) (hC := hCx) (o_me := o_me) (t_me := t_me)) (fun o V_q hq => ?_)
        obtain ⟨F5, r6, rfl, rfl, hC7, hM8, b9, -⟩ := hq
        have hM10 : Fq 0 [(2, 7), (2, 8), (2, 9), (2, 10), (2, 11), (7, 6), (7, 9), (7, 10), (20, -5), (21, -5)] m tg F F5 := Fq_t (ln := ln) (ln1 := ln) hMx Ex_r hM8 (by decide) (Or.inl rfl)
        refine Or.inr (Or.inl ⟨_, rfl, ?_⟩)
        refine jx_if_ne (pc_q := 213) (tg := 216) rfl rfl rfl (by omega) (by omega) (fun h11 => ?_) (fun h11 => ?_)
        · have _q := h11
          refine jx_inc (pc_q := 219) (l_q := jSto1 L 3 (.int (i32 (k + (1))))) (x := k) rfl gL_3 (by decide) rfl rfl ?_
          obtain ⟨L12, eL12⟩ : ∃ q : jL, q = jSto1 L 3 (.int (i32 ((k + (1))))) := ⟨_, rfl⟩
          rw [← eL12]
          have g13 : jGet L12 0 = some (rv (me)) := eL12 ▸ jg_nr (by decide) gL_0
          have g14 : jGet L12 1 = some (rv (pg_)) := eL12 ▸ jg_nr (by decide) gL_1
          have g15 : jGet L12 2 = some (rv (rt)) := eL12 ▸ jg_nr (by decide) gL_2
          have g16 : jGet L12 3 = some (.int (i32 ((k + (1))))) := eL12 ▸ jg_eq
          clear eL12
          refine jx_go (tg := 193) rfl rfl ?_
          exact ih _ (by omega) L12 F5 ((k + (1))) rfl g13 g14 g15 g16 hC7 hM10 (by omega) (by omega) (by omega)
        · have _q := h11
          refine jx_go (tg := 222) rfl rfl ?_
          refine jx_rt (v := none) rfl rfl rfl rfl rfl rfl ?_
          exact ⟨F5, rfl, rfl, hC7, hM10, trivial⟩
set_option maxRecDepth 20000 in
set_option maxHeartbeats 4000000 in
theorem k_LCoder_translate_at_147 {X : jX} {kk : Nat} {d : Nat} {R : Nat → jC} {m : Nat} {tg ln : Int → Int} {F : Int → Int → Int} {me pg_ rt : Int} (hd : 200 ≤ d + 1) (hC : HC 0 m tg ln F) (o_me : own m me) (t_me : tg me = 2) (o_pg_ : own m pg_) (t_pg_ : tg pg_ = 10) (o_rt : own m rt) (t_rt : tg rt = 8) (p_0 : kk = 60) (c_NT : NT m tg F) (c_PG : PG m tg F) (n_rt : SN m tg F rt (kk)) : ∀ (mm : Nat) (L : jL) (Fx : Int → Int → Int) (k : Int), (6000 - k).toNat = mm → jGet L 0 = some (rv (me)) → jGet L 1 = some (rv (pg_)) → jGet L 2 = some (rv (rt)) → jGet L 3 = some (.int (i32 k)) → HC 0 m tg ln Fx → Fq 0 [(2, 7), (2, 8), (2, 9), (2, 10), (2, 11), (7, 6), (7, 9), (7, 10), (20, -5), (21, -5)] m tg F Fx → ((-2147483648 : Int) ≤ k ∧ k ≤ 2147483647) → (0 ≤ k) → wj X d jm43 (147, L, [], cV R m tg ln Fx) (fun o V_q => ∃ (F_q : Int → Int → Int), V_q = cV R m tg ln F_q ∧ o = .inl none ∧ HC 0 m tg ln F_q ∧ Fq 0 [(2, 7), (2, 8), (2, 9), (2, 10), (2, 11), (7, 6), (7, 9), (7, 10), (20, -5), (21, -5)] m tg F F_q ∧ True) := by
  intro mm
  induction mm using Nat.strongRecOn with
  | ind mm ih =>
    intro L Fx k hmm gL_0 gL_1 gL_2 gL_3 hCx hMx rx_k iv_0
    have k17 := SN_p n_rt (own_z o_rt)
    refine jx_ld (pc_q := 148) (l_q := L) (st_q := [.int (i32 (k))]) rfl (jl_iloadn gL_3) ?_
    refine jx_ld (pc_q := 149) (l_q := L) (st_q := [rv (me), .int (i32 (k))]) rfl (jl_rvn gL_0) ?_
    refine cx_gi (pc_q := 152) (c := 1) (q := 7) (v := Fx (me) (7 : Int)) rfl rfl (by decide) (by decide) (Or.inl rfl) rfl o_me t_me rfl ?_
    have b18 : (0 : Int) ≤ Fx (me) (7 : Int) ∧ Fx (me) (7 : Int) ≤ 6000 := by have z := HC_i (c := 1) (q := 7) hCx o_me t_me (by decide) rfl; rw [show Fx (me) ((7 : Nat) : Int) = Fx (me) (7 : Int) from rfl] at z; exact z
    refine jx_icmp_ge (pc_q := 155) (tg := 191) rfl rfl rfl (by omega) (by omega) (by omega) (by omega) (fun h19 => ?_) (fun h19 => ?_)
    · have _q := h19
      refine jx_ar (pc_q := 192) (st_q := [.int (i32 (0))]) rfl rfl rfl rfl ?_
      refine jx_ld (pc_q := 193) (l_q := jSto1 L 3 (.int (i32 (0)))) (st_q := []) rfl rfl ?_
      obtain ⟨L20, eL20⟩ : ∃ q : jL, q = jSto1 L 3 (.int (i32 (0))) := ⟨_, rfl⟩
      rw [← eL20]
      have g21 : jGet L20 0 = some (rv (me)) := eL20 ▸ jg_nr (by decide) gL_0
      have g22 : jGet L20 1 = some (rv (pg_)) := eL20 ▸ jg_nr (by decide) gL_1
      have g23 : jGet L20 2 = some (rv (rt)) := eL20 ▸ jg_nr (by decide) gL_2
      have g24 : jGet L20 3 = some (.int (i32 (0))) := eL20 ▸ jg_eq
      clear eL20
      exact k_LCoder_translate_at_193 (X := X) (kk := kk) (d := d) (R := R) (m := m) (tg := tg) (ln := ln) (F := F) (me := me) (pg_ := pg_) (rt := rt) (hd := hd) (hC := hC) (o_me := o_me) (t_me := t_me) (o_pg_ := o_pg_) (t_pg_ := t_pg_) (o_rt := o_rt) (t_rt := t_rt) (p_0 := p_0) (c_NT := c_NT) (c_PG := c_PG) (n_rt := n_rt) _ L20 Fx (0) rfl g21 g22 g23 g24 hCx hMx (by omega) (by omega) (by omega)
    · have _q := h19
      refine jx_ld (pc_q := 156) (l_q := L) (st_q := [rv (me)]) rfl (jl_rvn gL_0) ?_
      refine cx_gr (pc_q := 159) (c := 1) (q := 4) (v := F (me) (4 : Int)) rfl rfl (by decide) (by decide) rfl rfl o_me t_me (show Fx (me) (4 : Int) = F (me) (4 : Int) from hMx _ _ o_me (own_z o_me) (by rw [t_me]; rfl)) ?_
      have y25 : own m (F (me) (4 : Int)) ∧ tg (F (me) (4 : Int)) = 20 ∧ ((6000 : Int) ≠ 0 → ln (F (me) (4 : Int)) = 6000) := by have z := HC_n (c := 1) (q := 4) hCx o_me t_me (own_z o_me) (by decide) rfl; rw [show Fx (me) ((4 : Nat) : Int) = F (me) (4 : Int) from (show Fx (me) (4 : Int) = F (me) (4 : Int) from hMx _ _ o_me (own_z o_me) (by rw [t_me]; rfl))] at z; exact ⟨z.1, z.2.1, z.2.2.1⟩
      have ly25 : ln (F (me) (4 : Int)) = 6000 := y25.2.2 (by decide)
      refine jx_ld (pc_q := 160) (l_q := L) (st_q := [.int (i32 (k)), rv (F (me) (4 : Int))]) rfl (jl_iloadn gL_3) ?_
      refine jx_ld (pc_q := 161) (l_q := L) (st_q := [rv (me), .int (i32 (k)), rv (F (me) (4 : Int))]) rfl (jl_rvn gL_0) ?_
      refine cx_gr (pc_q := 164) (c := 1) (q := 2) (v := F (me) (2 : Int)) rfl rfl (by decide) (by decide) rfl rfl o_me t_me (show Fx (me) (2 : Int) = F (me) (2 : Int) from hMx _ _ o_me (own_z o_me) (by rw [t_me]; rfl)) ?_
      have y26 : own m (F (me) (2 : Int)) ∧ tg (F (me) (2 : Int)) = 21 ∧ ((6000 : Int) ≠ 0 → ln (F (me) (2 : Int)) = 6000) := by have z := HC_n (c := 1) (q := 2) hCx o_me t_me (own_z o_me) (by decide) rfl; rw [show Fx (me) ((2 : Nat) : Int) = F (me) (2 : Int) from (show Fx (me) (2 : Int) = F (me) (2 : Int) from hMx _ _ o_me (own_z o_me) (by rw [t_me]; rfl))] at z; exact ⟨z.1, z.2.1, z.2.2.1⟩
      have ly26 : ln (F (me) (2 : Int)) = 6000 := y26.2.2 (by decide)
      refine jx_ld (pc_q := 165) (l_q := L) (st_q := [.int (i32 (k)), rv (F (me) (2 : Int)), .int (i32 (k)), rv (F (me) (4 : Int))]) rfl (jl_iloadn gL_3) ?_
      have b27 := HC_l hCx y26.1 y26.2.1 (by decide)
      refine cx_ial (pc_q := 166) (z := k) rfl rfl y26.1 y26.2.1 (by omega) (by omega) (by omega) ?_
      have b28 : (-2147483648 : Int) ≤ Fx (F (me) (2 : Int)) (k) ∧ Fx (F (me) (2 : Int)) (k) ≤ 2147483647 := by have z := HC_ei (j := k) hCx y26.1 (by rw [y26.2.1]; decide) (by omega); exact z
      refine jx_ar (pc_q := 167) (st_q := [.int (i32 (-1)), .int (i32 (Fx (F (me) (2 : Int)) (k))), .int (i32 (k)), rv (F (me) (4 : Int))]) rfl rfl rfl rfl ?_
      refine jx_icmp_ne (pc_q := 170) (tg := 182) rfl rfl rfl (by omega) (by omega) (by decide) (by decide) (fun h29 => ?_) (fun h29 => ?_)
      · have _q := h29
        refine jx_ar (pc_q := 183) (st_q := [.int (i32 (1)), .int (i32 (k)), rv (F (me) (4 : Int))]) rfl rfl rfl rfl ?_
        refine cx_i2b (pc_q := 184) rfl rfl (fun r30 hr30 kr30 => ?_)
        have qr30 : r30 = 1 := kr30 (by omega) (by omega)
        have b31 := HC_l hCx y25.1 y25.2.1 (by decide)
        refine cx_bas2 (pc_q := 185) (z := k) (y := r30) rfl rfl y25.1 y25.2.1 (by omega) (by omega) (by omega) (fun w32 hw32 kw32 => ?_)
        have qw32 : w32 = r30 := kw32 (by omega) (by omega)
        obtain ⟨F33, eF33⟩ : ∃ q, q = uF Fx (F (me) (4 : Int)) (k) (w32) := ⟨_, rfl⟩
        rw [← eF33]
        have hC34 : HC 0 m tg ln F33 := by rw [eF33]; exact HC_pi hCx y25.1 y25.2.1 (by decide) (by omega) (by rw [(show Fx (F (me) (4 : Int)) (-1) = 3 by have z := HC_n (c := 1) (q := 4) hCx o_me t_me (own_z o_me) (by decide) rfl; rw [show Fx (me) ((4 : Nat) : Int) = F (me) (4 : Int) from (show Fx (me) (4 : Int) = F (me) (4 : Int) from hMx _ _ o_me (own_z o_me) (by rw [t_me]; rfl))] at z; exact z.2.2.2 (by decide))]; exact ⟨(by show (0 : Int) ≤ _; omega), (by show _ ≤ (127 : Int); omega)⟩)
        have hM35 : Fq 0 [(2, 7), (2, 8), (2, 9), (2, 10), (2, 11), (7, 6), (7, 9), (7, 10), (20, -5), (21, -5)] m tg F F33 := by rw [eF33]; exact Fq_p hMx y25.2.1 (fun _ => rfl) (inL_a rfl (by omega) rfl)
        refine jx_inc (pc_q := 188) (l_q := jSto1 L 3 (.int (i32 (k + (1))))) (x := k) rfl gL_3 (by decide) rfl rfl ?_
        obtain ⟨L36, eL36⟩ : ∃ q : jL, q = jSto1 L 3 (.int (i32 ((k + (1))))) := ⟨_, rfl⟩
        rw [← eL36]
        have g37 : jGet L36 0 = some (rv (me)) := eL36 ▸ jg_nr (by decide) gL_0
        have g38 : jGet L36 1 = some (rv (pg_)) := eL36 ▸ jg_nr (by decide) gL_1
        have g39 : jGet L36 2 = some (rv (rt)) := eL36 ▸ jg_nr (by decide) gL_2
        have g40 : jGet L36 3 = some (.int (i32 ((k + (1))))) := eL36 ▸ jg_eq
        clear eL36
        refine jx_go (tg := 147) rfl rfl ?_
        exact ih _ (by omega) L36 F33 ((k + (1))) rfl g37 g38 g39 g40 hC34 hM35 (by omega) (by omega)
      · have _q := h29
        refine jx_ld (pc_q := 171) (l_q := L) (st_q := [rv (me), .int (i32 (k)), rv (F (me) (4 : Int))]) rfl (jl_rvn gL_0) ?_
        refine cx_gr (pc_q := 174) (c := 1) (q := 1) (v := F (me) (1 : Int)) rfl rfl (by decide) (by decide) rfl rfl o_me t_me (show Fx (me) (1 : Int) = F (me) (1 : Int) from hMx _ _ o_me (own_z o_me) (by rw [t_me]; rfl)) ?_
        have y41 : own m (F (me) (1 : Int)) ∧ tg (F (me) (1 : Int)) = 21 ∧ ((6000 : Int) ≠ 0 → ln (F (me) (1 : Int)) = 6000) := by have z := HC_n (c := 1) (q := 1) hCx o_me t_me (own_z o_me) (by decide) rfl; rw [show Fx (me) ((1 : Nat) : Int) = F (me) (1 : Int) from (show Fx (me) (1 : Int) = F (me) (1 : Int) from hMx _ _ o_me (own_z o_me) (by rw [t_me]; rfl))] at z; exact ⟨z.1, z.2.1, z.2.2.1⟩
        have ly41 : ln (F (me) (1 : Int)) = 6000 := y41.2.2 (by decide)
        refine jx_ld (pc_q := 175) (l_q := L) (st_q := [.int (i32 (k)), rv (F (me) (1 : Int)), .int (i32 (k)), rv (F (me) (4 : Int))]) rfl (jl_iloadn gL_3) ?_
        have b42 := HC_l hCx y41.1 y41.2.1 (by decide)
        refine cx_ial (pc_q := 176) (z := k) rfl rfl y41.1 y41.2.1 (by omega) (by omega) (by omega) ?_
        have b43 : (-2147483648 : Int) ≤ Fx (F (me) (1 : Int)) (k) ∧ Fx (F (me) (1 : Int)) (k) ≤ 2147483647 := by have z := HC_ei (j := k) hCx y41.1 (by rw [y41.2.1]; decide) (by omega); exact z
        refine cx_st (st := [.int (i32 (k)), rv (F (me) (4 : Int))]) (as := [.int (i32 (Fx (F (me) (1 : Int)) (k)))]) rfl rfl rfl ⟨rfl, (by rw [jS_i, jS_r, jS_0]; exact Nat.le_of_ble_eq_true rfl)⟩ rfl (k_LCoder_lengthOf (dd := d) (R := R) (m := m) (tg := tg) (ln := ln) (F := Fx) (op := Fx (F (me) (1 : Int)) (k)) (hd := by omega) (hC := hCx) (h_op := by omega)) (fun o V_q hq => ?_)
        obtain ⟨r44, rfl, rfl, b45, -⟩ := hq
        refine Or.inr (Or.inl ⟨_, rfl, ?_⟩)
        refine jx_go (tg := 183) rfl rfl ?_
        refine cx_i2b (pc_q := 184) rfl rfl (fun r46 hr46 kr46 => ?_)
        have qr46 : r46 = r44 := kr46 (by omega) (by omega)
        have b47 := HC_l hCx y25.1 y25.2.1 (by decide)
        refine cx_bas2 (pc_q := 185) (z := k) (y := r46) rfl rfl y25.1 y25.2.1 (by omega) (by omega) (by omega) (fun w48 hw48 kw48 => ?_)
        have qw48 : w48 = r46 := kw48 (by omega) (by omega)
        obtain ⟨F49, eF49⟩ : ∃ q, q = uF Fx (F (me) (4 : Int)) (k) (w48) := ⟨_, rfl⟩
        rw [← eF49]
        have hC50 : HC 0 m tg ln F49 := by rw [eF49]; exact HC_pi hCx y25.1 y25.2.1 (by decide) (by omega) (by rw [(show Fx (F (me) (4 : Int)) (-1) = 3 by have z := HC_n (c := 1) (q := 4) hCx o_me t_me (own_z o_me) (by decide) rfl; rw [show Fx (me) ((4 : Nat) : Int) = F (me) (4 : Int) from (show Fx (me) (4 : Int) = F (me) (4 : Int) from hMx _ _ o_me (own_z o_me) (by rw [t_me]; rfl))] at z; exact z.2.2.2 (by decide))]; exact ⟨(by show (0 : Int) ≤ _; omega), (by show _ ≤ (127 : Int); omega)⟩)
        have hM51 : Fq 0 [(2, 7), (2, 8), (2, 9), (2, 10), (2, 11), (7, 6), (7, 9), (7, 10), (20, -5), (21, -5)] m tg F F49 := by rw [eF49]; exact Fq_p hMx y25.2.1 (fun _ => rfl) (inL_a rfl (by omega) rfl)
        refine jx_inc (pc_q := 188) (l_q := jSto1 L 3 (.int (i32 (k + (1))))) (x := k) rfl gL_3 (by decide) rfl rfl ?_
        obtain ⟨L52, eL52⟩ : ∃ q : jL, q = jSto1 L 3 (.int (i32 ((k + (1))))) := ⟨_, rfl⟩
        rw [← eL52]
        have g53 : jGet L52 0 = some (rv (me)) := eL52 ▸ jg_nr (by decide) gL_0
        have g54 : jGet L52 1 = some (rv (pg_)) := eL52 ▸ jg_nr (by decide) gL_1
        have g55 : jGet L52 2 = some (rv (rt)) := eL52 ▸ jg_nr (by decide) gL_2
        have g56 : jGet L52 3 = some (.int (i32 ((k + (1))))) := eL52 ▸ jg_eq
        clear eL52
        refine jx_go (tg := 147) rfl rfl ?_
        exact ih _ (by omega) L52 F49 ((k + (1))) rfl g53 g54 g55 g56 hC50 hM51 (by omega) (by omega)
set_option maxRecDepth 20000 in
set_option maxHeartbeats 4000000 in
theorem k_LCoder_translate_at_22 {X : jX} {kk : Nat} {d : Nat} {R : Nat → jC} {m : Nat} {tg ln : Int → Int} {F : Int → Int → Int} {me pg_ rt : Int} (hd : 200 ≤ d + 1) (hC : HC 0 m tg ln F) (o_me : own m me) (t_me : tg me = 2) (o_pg_ : own m pg_) (t_pg_ : tg pg_ = 10) (o_rt : own m rt) (t_rt : tg rt = 8) (p_0 : kk = 60) (c_NT : NT m tg F) (c_PG : PG m tg F) (n_rt : SN m tg F rt (kk)) : ∀ (mm : Nat) (L : jL) (Fx : Int → Int → Int) (k : Int), (24 - k).toNat = mm → jGet L 0 = some (rv (me)) → jGet L 1 = some (rv (pg_)) → jGet L 2 = some (rv (rt)) → jGet L 3 = some (.int (i32 k)) → HC 0 m tg ln Fx → Fq 0 [(2, 7), (2, 8), (2, 9), (2, 10), (2, 11), (7, 6), (7, 9), (7, 10), (20, -5), (21, -5)] m tg F Fx → ((-2147483648 : Int) ≤ k ∧ k ≤ 2147483647) → (0 ≤ k) → wj X d jm43 (22, L, [], cV R m tg ln Fx) (fun o V_q => ∃ (F_q : Int → Int → Int), V_q = cV R m tg ln F_q ∧ o = .inl none ∧ HC 0 m tg ln F_q ∧ Fq 0 [(2, 7), (2, 8), (2, 9), (2, 10), (2, 11), (7, 6), (7, 9), (7, 10), (20, -5), (21, -5)] m tg F F_q ∧ True) := by
  intro mm
  induction mm using Nat.strongRecOn with
  | ind mm ih =>
    intro L Fx k hmm gL_0 gL_1 gL_2 gL_3 hCx hMx rx_k iv_0
    have k57 := SN_p n_rt (own_z o_rt)
    refine jx_ld (pc_q := 23) (l_q := L) (st_q := [.int (i32 (k))]) rfl (jl_iloadn gL_3) ?_
    refine jx_ld (pc_q := 24) (l_q := L) (st_q := [rv (pg_), .int (i32 (k))]) rfl (jl_rvn gL_1) ?_
    refine cx_gi (pc_q := 27) (c := 9) (q := 5) (v := F (pg_) (5 : Int)) rfl rfl (by decide) (by decide) (Or.inl rfl) rfl o_pg_ t_pg_ (show Fx (pg_) (5 : Int) = F (pg_) (5 : Int) from hMx _ _ o_pg_ (own_z o_pg_) (by rw [t_pg_]; rfl)) ?_
    have b58 : (0 : Int) ≤ F (pg_) (5 : Int) ∧ F (pg_) (5 : Int) ≤ 24 := by have z := HC_i (c := 9) (q := 5) hCx o_pg_ t_pg_ (by decide) rfl; rw [show Fx (pg_) ((5 : Nat) : Int) = F (pg_) (5 : Int) from (show Fx (pg_) (5 : Int) = F (pg_) (5 : Int) from hMx _ _ o_pg_ (own_z o_pg_) (by rw [t_pg_]; rfl))] at z; exact z
    refine jx_icmp_ge (pc_q := 30) (tg := 118) rfl rfl rfl (by omega) (by omega) (by omega) (by omega) (fun h59 => ?_) (fun h59 => ?_)
    · have _q := h59
      refine jx_ld (pc_q := 119) (l_q := L) (st_q := [rv (me)]) rfl (jl_rvn gL_0) ?_
      refine jx_ld (pc_q := 120) (l_q := L) (st_q := [rv (me), rv (me)]) rfl (jl_rvn gL_0) ?_
      refine cx_vi (c := 1) (a := me) (st := [rv (me)]) (as := []) rfl rfl rfl o_me t_me (by decide) rfl ⟨rfl, rfl, (by rw [jS_r, jS_0]; exact Nat.le_of_ble_eq_true rfl)⟩ rfl (k_LCoder_newLabel (dd := d) (R := R) (m := m) (tg := tg) (ln := ln) (F := Fx) (me := me) (hd := by omega) (hC := hCx) (o_me := o_me) (t_me := t_me)) (fun o V_q hq => ?_)
      obtain ⟨F60, r61, rfl, rfl, hC62, hM63, b64, -⟩ := hq
      have hM65 : Fq 0 [(2, 7), (2, 8), (2, 9), (2, 10), (2, 11), (7, 6), (7, 9), (7, 10), (20, -5), (21, -5)] m tg F F60 := Fq_t (ln := ln) (ln1 := ln) hMx Ex_r hM63 (by decide) (Or.inl rfl)
      refine Or.inr (Or.inl ⟨_, rfl, ?_⟩)
      refine cx_pi (pc_q := 126) (c := 1) (q := 9) (qi := (9 : Int)) (z := r61) rfl rfl (by decide) (by decide) rfl rfl rfl (by decide) rfl o_me t_me rfl ?_
      obtain ⟨F66, eF66⟩ : ∃ q, q = uF F60 (me) (9 : Int) (r61) := ⟨_, rfl⟩
      rw [← eF66]
      have hC67 : HC 0 m tg ln F66 := by rw [eF66]; exact HC_fi (c := 1) (q := 9) hC62 t_me (by decide) rfl (by omega) (by omega) ⟨fun w => absurd w (by decide), fun w => absurd w (by decide)⟩
      have hM68 : Fq 0 [(2, 7), (2, 8), (2, 9), (2, 10), (2, 11), (7, 6), (7, 9), (7, 10), (20, -5), (21, -5)] m tg F F66 := by rw [eF66]; exact Fq_p hM65 t_me (fun _ => rfl) rfl
      refine jx_ld (pc_q := 127) (l_q := L) (st_q := [rv (me)]) rfl (jl_rvn gL_0) ?_
      refine jx_ld (pc_q := 128) (l_q := L) (st_q := [rv (me), rv (me)]) rfl (jl_rvn gL_0) ?_
      refine cx_gi (pc_q := 131) (c := 1) (q := 9) (v := r61) rfl rfl (by decide) (by decide) (Or.inl rfl) rfl o_me t_me (show F66 (me) (9 : Int) = r61 from by rw [eF66]; exact uF_e) ?_
      refine cx_vi (c := 1) (a := me) (st := []) (as := [.int (i32 (r61))]) rfl rfl rfl o_me t_me (by decide) rfl ⟨rfl, rfl, (Nat.le_of_ble_eq_true rfl)⟩ rfl (k_LCoder_here (dd := d) (R := R) (m := m) (tg := tg) (ln := ln) (F := F66) (me := me) (lb := r61) (hd := by omega) (hC := hC67) (o_me := o_me) (t_me := t_me) (h_lb := by omega)) (fun o V_q hq => ?_)
      obtain ⟨F69, rfl, rfl, hC70, hM71, -⟩ := hq
      have hM72 : Fq 0 [(2, 7), (2, 8), (2, 9), (2, 10), (2, 11), (7, 6), (7, 9), (7, 10), (20, -5), (21, -5)] m tg F F69 := Fq_t (ln := ln) (ln1 := ln) hM68 Ex_r hM71 (by decide) (Or.inl rfl)
      refine Or.inl ⟨rfl, ?_⟩
      refine jx_ld (pc_q := 135) (l_q := L) (st_q := [rv (me)]) rfl (jl_rvn gL_0) ?_
      refine jx_ld (pc_q := 136) (l_q := L) (st_q := [rv (rt), rv (me)]) rfl (jl_rvn gL_2) ?_
      refine cx_vi (c := 1) (a := me) (st := []) (as := [rv (rt)]) rfl rfl rfl o_me t_me (by decide) rfl ⟨rfl, rfl, (Nat.le_of_ble_eq_true rfl)⟩ rfl (CPx_all X (kk) (dd := d) (R := R) (m := m) (tg := tg) (ln := ln) (F := F69) (me := me) (p := rt) (hd := by omega) (hC := hC70) (o_me := o_me) (t_me := t_me) (y_p := (Or.inr ⟨o_rt, t_rt⟩)) (c_NT := NT_q hC c_NT hM72 rfl) (n_p := (SN_q (SN_w n_rt (by omega)) hM72 rfl rfl))) (fun o V_q hq => ?_)
      obtain ⟨F73, rfl, rfl, hC74, hM75, -⟩ := hq
      have hM76 : Fq 0 [(2, 7), (2, 8), (2, 9), (2, 10), (2, 11), (7, 6), (7, 9), (7, 10), (20, -5), (21, -5)] m tg F F73 := Fq_t (ln := ln) (ln1 := ln) hM72 Ex_r hM75 (by decide) (Or.inl rfl)
      refine Or.inl ⟨rfl, ?_⟩
      refine jx_ld (pc_q := 140) (l_q := L) (st_q := [rv (me)]) rfl (jl_rvn gL_0) ?_
      refine jx_ar (pc_q := 142) (st_q := [.int (i32 (31)), rv (me)]) rfl rfl rfl rfl ?_
      refine cx_vi (c := 1) (a := me) (st := []) (as := [.int (i32 (31))]) rfl rfl rfl o_me t_me (by decide) rfl ⟨rfl, rfl, (Nat.le_of_ble_eq_true rfl)⟩ rfl (k_LCoder_operation (dd := d) (R := R) (m := m) (tg := tg) (ln := ln) (F := F73) (me := me) (op := 31) (hd := by omega) (hC := hC74) (o_me := o_me) (t_me := t_me) (h_op := by omega)) (fun o V_q hq => ?_)
      obtain ⟨F77, rfl, rfl, hC78, hM79, -⟩ := hq
      have hM80 : Fq 0 [(2, 7), (2, 8), (2, 9), (2, 10), (2, 11), (7, 6), (7, 9), (7, 10), (20, -5), (21, -5)] m tg F F77 := Fq_t (ln := ln) (ln1 := ln) hM76 Ex_r hM79 (by decide) (Or.inl rfl)
      refine Or.inl ⟨rfl, ?_⟩
      refine jx_ar (pc_q := 146) (st_q := [.int (i32 (0))]) rfl rfl rfl rfl ?_
      refine jx_ld (pc_q := 147) (l_q := jSto1 L 3 (.int (i32 (0)))) (st_q := []) rfl rfl ?_
      obtain ⟨L81, eL81⟩ : ∃ q : jL, q = jSto1 L 3 (.int (i32 (0))) := ⟨_, rfl⟩
      rw [← eL81]
      have g82 : jGet L81 0 = some (rv (me)) := eL81 ▸ jg_nr (by decide) gL_0
      have g83 : jGet L81 1 = some (rv (pg_)) := eL81 ▸ jg_nr (by decide) gL_1
      have g84 : jGet L81 2 = some (rv (rt)) := eL81 ▸ jg_nr (by decide) gL_2
      have g85 : jGet L81 3 = some (.int (i32 (0))) := eL81 ▸ jg_eq
      clear eL81
      exact k_LCoder_translate_at_147 (X := X) (kk := kk) (d := d) (R := R) (m := m) (tg := tg) (ln := ln) (F := F) (me := me) (pg_ := pg_) (rt := rt) (hd := hd) (hC := hC) (o_me := o_me) (t_me := t_me) (o_pg_ := o_pg_) (t_pg_ := t_pg_) (o_rt := o_rt) (t_rt := t_rt) (p_0 := p_0) (c_NT := c_NT) (c_PG := c_PG) (n_rt := n_rt) _ L81 F77 (0) rfl g82 g83 g84 g85 hC78 hM80 (by omega) (by omega)
    · have _q := h59
      refine jx_ld (pc_q := 31) (l_q := L) (st_q := [.int (i32 (k))]) rfl (jl_iloadn gL_3) ?_
      refine jx_ld (pc_q := 32) (l_q := L) (st_q := [rv (pg_), .int (i32 (k))]) rfl (jl_rvn gL_1) ?_
      refine cx_gr (pc_q := 35) (c := 9) (q := 4) (v := F (pg_) (4 : Int)) rfl rfl (by decide) (by decide) rfl rfl o_pg_ t_pg_ (show Fx (pg_) (4 : Int) = F (pg_) (4 : Int) from hMx _ _ o_pg_ (own_z o_pg_) (by rw [t_pg_]; rfl)) ?_
      have y86 : own m (F (pg_) (4 : Int)) ∧ tg (F (pg_) (4 : Int)) = 25 ∧ ((24 : Int) ≠ 0 → ln (F (pg_) (4 : Int)) = 24) := by have z := HC_n (c := 9) (q := 4) hCx o_pg_ t_pg_ (own_z o_pg_) (by decide) rfl; rw [show Fx (pg_) ((4 : Nat) : Int) = F (pg_) (4 : Int) from (show Fx (pg_) (4 : Int) = F (pg_) (4 : Int) from hMx _ _ o_pg_ (own_z o_pg_) (by rw [t_pg_]; rfl))] at z; exact ⟨z.1, z.2.1, z.2.2.1⟩
      have ly86 : ln (F (pg_) (4 : Int)) = 24 := y86.2.2 (by decide)
      have b87 := HC_l hCx y86.1 y86.2.1 (by decide)
      refine cx_len (pc_q := 36) rfl rfl y86.1 (by rw [y86.2.1]; decide) (by omega) ?_
      refine jx_icmp_ge (pc_q := 39) (tg := 118) rfl rfl rfl (by omega) (by omega) (by omega) (by omega) (fun h88 => ?_) (fun h88 => ?_)
      · have _q := h88
        refine jx_ld (pc_q := 119) (l_q := L) (st_q := [rv (me)]) rfl (jl_rvn gL_0) ?_
        refine jx_ld (pc_q := 120) (l_q := L) (st_q := [rv (me), rv (me)]) rfl (jl_rvn gL_0) ?_
        refine cx_vi (c := 1) (a := me) (st := [rv (me)]) (as := []) rfl rfl rfl o_me t_me (by decide) rfl ⟨rfl, rfl, (by rw [jS_r, jS_0]; exact Nat.le_of_ble_eq_true rfl)⟩ rfl (k_LCoder_newLabel (dd := d) (R := R) (m := m) (tg := tg) (ln := ln) (F := Fx) (me := me) (hd := by omega) (hC := hCx) (o_me := o_me) (t_me := t_me)) (fun o V_q hq => ?_)
        obtain ⟨F89, r90, rfl, rfl, hC91, hM92, b93, -⟩ := hq
        have hM94 : Fq 0 [(2, 7), (2, 8), (2, 9), (2, 10), (2, 11), (7, 6), (7, 9), (7, 10), (20, -5), (21, -5)] m tg F F89 := Fq_t (ln := ln) (ln1 := ln) hMx Ex_r hM92 (by decide) (Or.inl rfl)
        refine Or.inr (Or.inl ⟨_, rfl, ?_⟩)
        refine cx_pi (pc_q := 126) (c := 1) (q := 9) (qi := (9 : Int)) (z := r90) rfl rfl (by decide) (by decide) rfl rfl rfl (by decide) rfl o_me t_me rfl ?_
        obtain ⟨F95, eF95⟩ : ∃ q, q = uF F89 (me) (9 : Int) (r90) := ⟨_, rfl⟩
        rw [← eF95]
        have hC96 : HC 0 m tg ln F95 := by rw [eF95]; exact HC_fi (c := 1) (q := 9) hC91 t_me (by decide) rfl (by omega) (by omega) ⟨fun w => absurd w (by decide), fun w => absurd w (by decide)⟩
        have hM97 : Fq 0 [(2, 7), (2, 8), (2, 9), (2, 10), (2, 11), (7, 6), (7, 9), (7, 10), (20, -5), (21, -5)] m tg F F95 := by rw [eF95]; exact Fq_p hM94 t_me (fun _ => rfl) rfl
        refine jx_ld (pc_q := 127) (l_q := L) (st_q := [rv (me)]) rfl (jl_rvn gL_0) ?_
        refine jx_ld (pc_q := 128) (l_q := L) (st_q := [rv (me), rv (me)]) rfl (jl_rvn gL_0) ?_
        refine cx_gi (pc_q := 131) (c := 1) (q := 9) (v := r90) rfl rfl (by decide) (by decide) (Or.inl rfl) rfl o_me t_me (show F95 (me) (9 : Int) = r90 from by rw [eF95]; exact uF_e) ?_
        refine cx_vi (c := 1) (a := me) (st := []) (as := [.int (i32 (r90))]) rfl rfl rfl o_me t_me (by decide) rfl ⟨rfl, rfl, (Nat.le_of_ble_eq_true rfl)⟩ rfl (k_LCoder_here (dd := d) (R := R) (m := m) (tg := tg) (ln := ln) (F := F95) (me := me) (lb := r90) (hd := by omega) (hC := hC96) (o_me := o_me) (t_me := t_me) (h_lb := by omega)) (fun o V_q hq => ?_)
        obtain ⟨F98, rfl, rfl, hC99, hM100, -⟩ := hq
        have hM101 : Fq 0 [(2, 7), (2, 8), (2, 9), (2, 10), (2, 11), (7, 6), (7, 9), (7, 10), (20, -5), (21, -5)] m tg F F98 := Fq_t (ln := ln) (ln1 := ln) hM97 Ex_r hM100 (by decide) (Or.inl rfl)
        refine Or.inl ⟨rfl, ?_⟩
        refine jx_ld (pc_q := 135) (l_q := L) (st_q := [rv (me)]) rfl (jl_rvn gL_0) ?_
        refine jx_ld (pc_q := 136) (l_q := L) (st_q := [rv (rt), rv (me)]) rfl (jl_rvn gL_2) ?_
        refine cx_vi (c := 1) (a := me) (st := []) (as := [rv (rt)]) rfl rfl rfl o_me t_me (by decide) rfl ⟨rfl, rfl, (Nat.le_of_ble_eq_true rfl)⟩ rfl (CPx_all X (kk) (dd := d) (R := R) (m := m) (tg := tg) (ln := ln) (F := F98) (me := me) (p := rt) (hd := by omega) (hC := hC99) (o_me := o_me) (t_me := t_me) (y_p := (Or.inr ⟨o_rt, t_rt⟩)) (c_NT := NT_q hC c_NT hM101 rfl) (n_p := (SN_q (SN_w n_rt (by omega)) hM101 rfl rfl))) (fun o V_q hq => ?_)
        obtain ⟨F102, rfl, rfl, hC103, hM104, -⟩ := hq
        have hM105 : Fq 0 [(2, 7), (2, 8), (2, 9), (2, 10), (2, 11), (7, 6), (7, 9), (7, 10), (20, -5), (21, -5)] m tg F F102 := Fq_t (ln := ln) (ln1 := ln) hM101 Ex_r hM104 (by decide) (Or.inl rfl)
        refine Or.inl ⟨rfl, ?_⟩
        refine jx_ld (pc_q := 140) (l_q := L) (st_q := [rv (me)]) rfl (jl_rvn gL_0) ?_
        refine jx_ar (pc_q := 142) (st_q := [.int (i32 (31)), rv (me)]) rfl rfl rfl rfl ?_
        refine cx_vi (c := 1) (a := me) (st := []) (as := [.int (i32 (31))]) rfl rfl rfl o_me t_me (by decide) rfl ⟨rfl, rfl, (Nat.le_of_ble_eq_true rfl)⟩ rfl (k_LCoder_operation (dd := d) (R := R) (m := m) (tg := tg) (ln := ln) (F := F102) (me := me) (op := 31) (hd := by omega) (hC := hC103) (o_me := o_me) (t_me := t_me) (h_op := by omega)) (fun o V_q hq => ?_)
        obtain ⟨F106, rfl, rfl, hC107, hM108, -⟩ := hq
        have hM109 : Fq 0 [(2, 7), (2, 8), (2, 9), (2, 10), (2, 11), (7, 6), (7, 9), (7, 10), (20, -5), (21, -5)] m tg F F106 := Fq_t (ln := ln) (ln1 := ln) hM105 Ex_r hM108 (by decide) (Or.inl rfl)
        refine Or.inl ⟨rfl, ?_⟩
        refine jx_ar (pc_q := 146) (st_q := [.int (i32 (0))]) rfl rfl rfl rfl ?_
        refine jx_ld (pc_q := 147) (l_q := jSto1 L 3 (.int (i32 (0)))) (st_q := []) rfl rfl ?_
        obtain ⟨L110, eL110⟩ : ∃ q : jL, q = jSto1 L 3 (.int (i32 (0))) := ⟨_, rfl⟩
        rw [← eL110]
        have g111 : jGet L110 0 = some (rv (me)) := eL110 ▸ jg_nr (by decide) gL_0
        have g112 : jGet L110 1 = some (rv (pg_)) := eL110 ▸ jg_nr (by decide) gL_1
        have g113 : jGet L110 2 = some (rv (rt)) := eL110 ▸ jg_nr (by decide) gL_2
        have g114 : jGet L110 3 = some (.int (i32 (0))) := eL110 ▸ jg_eq
        clear eL110
        exact k_LCoder_translate_at_147 (X := X) (kk := kk) (d := d) (R := R) (m := m) (tg := tg) (ln := ln) (F := F) (me := me) (pg_ := pg_) (rt := rt) (hd := hd) (hC := hC) (o_me := o_me) (t_me := t_me) (o_pg_ := o_pg_) (t_pg_ := t_pg_) (o_rt := o_rt) (t_rt := t_rt) (p_0 := p_0) (c_NT := c_NT) (c_PG := c_PG) (n_rt := n_rt) _ L110 F106 (0) rfl g111 g112 g113 g114 hC107 hM109 (by omega) (by omega)
      · have _q := h88
        refine jx_ld (pc_q := 40) (l_q := L) (st_q := [rv (pg_)]) rfl (jl_rvn gL_1) ?_
        refine cx_gr (pc_q := 43) (c := 9) (q := 4) (v := F (pg_) (4 : Int)) rfl rfl (by decide) (by decide) rfl rfl o_pg_ t_pg_ (show Fx (pg_) (4 : Int) = F (pg_) (4 : Int) from hMx _ _ o_pg_ (own_z o_pg_) (by rw [t_pg_]; rfl)) ?_
        refine jx_ld (pc_q := 44) (l_q := L) (st_q := [.int (i32 (k)), rv (F (pg_) (4 : Int))]) rfl (jl_iloadn gL_3) ?_
        refine cx_aal (pc_q := 45) (z := k) rfl rfl y86.1 (by rw [y86.2.1]; decide) (by omega) (by omega) (by omega) ?_
        rw [show Fx (F (pg_) (4 : Int)) (k) = F (F (pg_) (4 : Int)) (k) from (show Fx (F (pg_) (4 : Int)) (k) = F (F (pg_) (4 : Int)) (k) from hMx _ _ y86.1 (own_z y86.1) (by rw [y86.2.1]; rfl))]
        have y115 : F (F (pg_) (4 : Int)) (k) = 0 ∨ (own m (F (F (pg_) (4 : Int)) (k)) ∧ tg (F (F (pg_) (4 : Int)) (k)) = 7) := by have z := HC_er (j := k) hCx y86.1 y86.2.1 (by decide) (by omega); rw [show Fx (F (pg_) (4 : Int)) (k) = F (F (pg_) (4 : Int)) (k) from (show Fx (F (pg_) (4 : Int)) (k) = F (F (pg_) (4 : Int)) (k) from hMx _ _ y86.1 (own_z y86.1) (by rw [y86.2.1]; rfl))] at z; exact z
        refine jx_ld (pc_q := 47) (l_q := jSto1 L 4 (rv (F (F (pg_) (4 : Int)) (k)))) (st_q := []) rfl (js_rv (by decide)) ?_
        obtain ⟨L116, eL116⟩ : ∃ q : jL, q = jSto1 L 4 (rv (F (F (pg_) (4 : Int)) (k))) := ⟨_, rfl⟩
        rw [← eL116]
        have g117 : jGet L116 0 = some (rv (me)) := eL116 ▸ jg_nr (by decide) gL_0
        have g118 : jGet L116 1 = some (rv (pg_)) := eL116 ▸ jg_nr (by decide) gL_1
        have g119 : jGet L116 2 = some (rv (rt)) := eL116 ▸ jg_nr (by decide) gL_2
        have g120 : jGet L116 3 = some (.int (i32 (k))) := eL116 ▸ jg_ne (by decide) gL_3 rfl
        have g121 : jGet L116 4 = some (rv (F (F (pg_) (4 : Int)) (k))) := eL116 ▸ jg_eq
        clear eL116
        refine jx_ld (pc_q := 49) (l_q := L116) (st_q := [rv (F (F (pg_) (4 : Int)) (k))]) rfl (jl_rv g121) ?_
        refine cx_nul (pc_q := 52) (tg_q := 112) rfl rfl rfl (fun h122 => ?_) (fun h122 => ?_)
        · have _q := h122
          refine jx_inc (pc_q := 115) (l_q := jSto1 L116 3 (.int (i32 (k + (1))))) (x := k) rfl g120 (by decide) rfl rfl ?_
          obtain ⟨L123, eL123⟩ : ∃ q : jL, q = jSto1 L116 3 (.int (i32 ((k + (1))))) := ⟨_, rfl⟩
          rw [← eL123]
          have g124 : jGet L123 0 = some (rv (me)) := eL123 ▸ jg_nr (by decide) g117
          have g125 : jGet L123 1 = some (rv (pg_)) := eL123 ▸ jg_nr (by decide) g118
          have g126 : jGet L123 2 = some (rv (rt)) := eL123 ▸ jg_nr (by decide) g119
          have g127 : jGet L123 4 = some (rv (F (F (pg_) (4 : Int)) (k))) := eL123 ▸ jg_nr (by decide) g121
          have g128 : jGet L123 3 = some (.int (i32 ((k + (1))))) := eL123 ▸ jg_eq
          clear eL123
          refine jx_go (tg := 22) rfl rfl ?_
          exact ih _ (by omega) L123 Fx ((k + (1))) rfl g124 g125 g126 g128 hCx hMx (by omega) (by omega)
        · have _q := h122
          have ho129 : own m (F (F (pg_) (4 : Int)) (k)) ∧ tg (F (F (pg_) (4 : Int)) (k)) = 7 := y115.resolve_left h122
          refine jx_ld (pc_q := 54) (l_q := L116) (st_q := [rv (F (F (pg_) (4 : Int)) (k))]) rfl (jl_rv g121) ?_
          refine jx_ld (pc_q := 55) (l_q := L116) (st_q := [rv (me), rv (F (F (pg_) (4 : Int)) (k))]) rfl (jl_rvn g117) ?_
          refine cx_vi (c := 1) (a := me) (st := [rv (F (F (pg_) (4 : Int)) (k))]) (as := []) rfl rfl rfl o_me t_me (by decide) rfl ⟨rfl, rfl, (by rw [jS_r, jS_0]; exact Nat.le_of_ble_eq_true rfl)⟩ rfl (k_LCoder_newLabel (dd := d) (R := R) (m := m) (tg := tg) (ln := ln) (F := Fx) (me := me) (hd := by omega) (hC := hCx) (o_me := o_me) (t_me := t_me)) (fun o V_q hq => ?_)
          obtain ⟨F130, r131, rfl, rfl, hC132, hM133, b134, -⟩ := hq
          have hM135 : Fq 0 [(2, 7), (2, 8), (2, 9), (2, 10), (2, 11), (7, 6), (7, 9), (7, 10), (20, -5), (21, -5)] m tg F F130 := Fq_t (ln := ln) (ln1 := ln) hMx Ex_r hM133 (by decide) (Or.inl rfl)
          refine Or.inr (Or.inl ⟨_, rfl, ?_⟩)
          refine cx_pi (pc_q := 61) (c := 6) (q := 10) (qi := (10 : Int)) (z := r131) rfl rfl (by decide) (by decide) rfl rfl rfl (by decide) rfl ho129.1 ho129.2 rfl ?_
          obtain ⟨F136, eF136⟩ : ∃ q, q = uF F130 (F (F (pg_) (4 : Int)) (k)) (10 : Int) (r131) := ⟨_, rfl⟩
          rw [← eF136]
          have hC137 : HC 0 m tg ln F136 := by rw [eF136]; exact HC_fi (c := 6) (q := 10) hC132 ho129.2 (by decide) rfl (by omega) (by omega) ⟨fun w => absurd w (by decide), fun w => absurd w (by decide)⟩
          have hM138 : Fq 0 [(2, 7), (2, 8), (2, 9), (2, 10), (2, 11), (7, 6), (7, 9), (7, 10), (20, -5), (21, -5)] m tg F F136 := by rw [eF136]; exact Fq_p hM135 ho129.2 (fun _ => rfl) rfl
          refine jx_ld (pc_q := 62) (l_q := L116) (st_q := [rv (me)]) rfl (jl_rvn g117) ?_
          refine jx_ld (pc_q := 64) (l_q := L116) (st_q := [rv (F (F (pg_) (4 : Int)) (k)), rv (me)]) rfl (jl_rv g121) ?_
          refine cx_gi (pc_q := 67) (c := 6) (q := 10) (v := r131) rfl rfl (by decide) (by decide) (Or.inl rfl) rfl ho129.1 ho129.2 (show F136 (F (F (pg_) (4 : Int)) (k)) (10 : Int) = r131 from by rw [eF136]; exact uF_e) ?_
          refine cx_vi (c := 1) (a := me) (st := []) (as := [.int (i32 (r131))]) rfl rfl rfl o_me t_me (by decide) rfl ⟨rfl, rfl, (Nat.le_of_ble_eq_true rfl)⟩ rfl (k_LCoder_here (dd := d) (R := R) (m := m) (tg := tg) (ln := ln) (F := F136) (me := me) (lb := r131) (hd := by omega) (hC := hC137) (o_me := o_me) (t_me := t_me) (h_lb := by omega)) (fun o V_q hq => ?_)
          obtain ⟨F139, rfl, rfl, hC140, hM141, -⟩ := hq
          have hM142 : Fq 0 [(2, 7), (2, 8), (2, 9), (2, 10), (2, 11), (7, 6), (7, 9), (7, 10), (20, -5), (21, -5)] m tg F F139 := Fq_t (ln := ln) (ln1 := ln) hM138 Ex_r hM141 (by decide) (Or.inl rfl)
          refine Or.inl ⟨rfl, ?_⟩
          refine jx_ld (pc_q := 71) (l_q := L116) (st_q := [rv (me)]) rfl (jl_rvn g117) ?_
          refine jx_ar (pc_q := 73) (st_q := [.int (i32 (11)), rv (me)]) rfl rfl rfl rfl ?_
          refine jx_ld (pc_q := 75) (l_q := L116) (st_q := [rv (F (F (pg_) (4 : Int)) (k)), .int (i32 (11)), rv (me)]) rfl (jl_rv g121) ?_
          refine cx_gi (pc_q := 78) (c := 6) (q := 3) (v := F (F (F (pg_) (4 : Int)) (k)) (3 : Int)) rfl rfl (by decide) (by decide) (Or.inl rfl) rfl ho129.1 ho129.2 ((show F139 (F (F (pg_) (4 : Int)) (k)) (3 : Int) = F136 (F (F (pg_) (4 : Int)) (k)) (3 : Int) from hM141 _ _ ho129.1 (own_z ho129.1) (by rw [ho129.2]; rfl)).trans ((show F136 (F (F (pg_) (4 : Int)) (k)) (3 : Int) = F130 (F (F (pg_) (4 : Int)) (k)) (3 : Int) from by rw [eF136]; exact uF_j (by decide)).trans ((show F130 (F (F (pg_) (4 : Int)) (k)) (3 : Int) = Fx (F (F (pg_) (4 : Int)) (k)) (3 : Int) from hM133 _ _ ho129.1 (own_z ho129.1) (by rw [ho129.2]; rfl)).trans (show Fx (F (F (pg_) (4 : Int)) (k)) (3 : Int) = F (F (F (pg_) (4 : Int)) (k)) (3 : Int) from hMx _ _ ho129.1 (own_z ho129.1) (by rw [ho129.2]; rfl))))) ?_
          have b143 : (-2147483648 : Int) ≤ F (F (F (pg_) (4 : Int)) (k)) (3 : Int) ∧ F (F (F (pg_) (4 : Int)) (k)) (3 : Int) ≤ 2147483647 := by have z := HC_i (c := 6) (q := 3) hC140 ho129.1 ho129.2 (by decide) rfl; rw [show F139 (F (F (pg_) (4 : Int)) (k)) ((3 : Nat) : Int) = F (F (F (pg_) (4 : Int)) (k)) (3 : Int) from ((show F139 (F (F (pg_) (4 : Int)) (k)) (3 : Int) = F136 (F (F (pg_) (4 : Int)) (k)) (3 : Int) from hM141 _ _ ho129.1 (own_z ho129.1) (by rw [ho129.2]; rfl)).trans ((show F136 (F (F (pg_) (4 : Int)) (k)) (3 : Int) = F130 (F (F (pg_) (4 : Int)) (k)) (3 : Int) from by rw [eF136]; exact uF_j (by decide)).trans ((show F130 (F (F (pg_) (4 : Int)) (k)) (3 : Int) = Fx (F (F (pg_) (4 : Int)) (k)) (3 : Int) from hM133 _ _ ho129.1 (own_z ho129.1) (by rw [ho129.2]; rfl)).trans (show Fx (F (F (pg_) (4 : Int)) (k)) (3 : Int) = F (F (F (pg_) (4 : Int)) (k)) (3 : Int) from hMx _ _ ho129.1 (own_z ho129.1) (by rw [ho129.2]; rfl)))))] at z; exact z
          refine jx_ar (pc_q := 79) (st_q := [.int (i32 (3)), .int (i32 (F (F (F (pg_) (4 : Int)) (k)) (3 : Int))), .int (i32 (11)), rv (me)]) rfl rfl rfl rfl ?_
          refine jx_add (pc_q := 80) rfl rfl ?_
          obtain ⟨z144, ez144⟩ : ∃ q, q = (i32 ((F (F (F (pg_) (4 : Int)) (k)) (3 : Int) + 3))).toInt := ⟨_, rfl⟩
          have bz144 : (-2147483648 : Int) ≤ z144 ∧ z144 ≤ 2147483647 := ez144 ▸ i32_rg _
          rw [show i32 ((F (F (F (pg_) (4 : Int)) (k)) (3 : Int) + 3)) = i32 z144 by rw [ez144, i32_of]]
          clear ez144
          refine jx_neg (pc_q := 81) rfl rfl ?_
          obtain ⟨z145, ez145⟩ : ∃ q, q = (i32 ((-z144))).toInt := ⟨_, rfl⟩
          have bz145 : (-2147483648 : Int) ≤ z145 ∧ z145 ≤ 2147483647 := ez145 ▸ i32_rg _
          rw [show i32 ((-z144)) = i32 z145 by rw [ez145, i32_of]]
          clear ez145
          refine cx_vi (c := 1) (a := me) (st := []) (as := [.int (i32 (11)), .int (i32 (z145))]) rfl rfl rfl o_me t_me (by decide) rfl ⟨rfl, rfl, (Nat.le_of_ble_eq_true rfl)⟩ rfl (k_LCoder_emit (dd := d) (R := R) (m := m) (tg := tg) (ln := ln) (F := F139) (me := me) (fu := 11) (op := z145) (hd := by omega) (hC := hC140) (o_me := o_me) (t_me := t_me) (h_fu := by omega) (h_op := by omega)) (fun o V_q hq => ?_)
          obtain ⟨F146, rfl, rfl, hC147, hM148, -⟩ := hq
          have hM149 : Fq 0 [(2, 7), (2, 8), (2, 9), (2, 10), (2, 11), (7, 6), (7, 9), (7, 10), (20, -5), (21, -5)] m tg F F146 := Fq_t (ln := ln) (ln1 := ln) hM142 Ex_r hM148 (by decide) (Or.inl rfl)
          refine Or.inl ⟨rfl, ?_⟩
          refine jx_ld (pc_q := 85) (l_q := L116) (st_q := [rv (me)]) rfl (jl_rvn g117) ?_
          refine jx_ld (pc_q := 87) (l_q := L116) (st_q := [rv (F (F (pg_) (4 : Int)) (k)), rv (me)]) rfl (jl_rv g121) ?_
          refine cx_gr (pc_q := 90) (c := 6) (q := 12) (v := F (F (F (pg_) (4 : Int)) (k)) (12 : Int)) rfl rfl (by decide) (by decide) rfl rfl ho129.1 ho129.2 ((show F146 (F (F (pg_) (4 : Int)) (k)) (12 : Int) = F139 (F (F (pg_) (4 : Int)) (k)) (12 : Int) from hM148 _ _ ho129.1 (own_z ho129.1) (by rw [ho129.2]; rfl)).trans ((show F139 (F (F (pg_) (4 : Int)) (k)) (12 : Int) = F136 (F (F (pg_) (4 : Int)) (k)) (12 : Int) from hM141 _ _ ho129.1 (own_z ho129.1) (by rw [ho129.2]; rfl)).trans ((show F136 (F (F (pg_) (4 : Int)) (k)) (12 : Int) = F130 (F (F (pg_) (4 : Int)) (k)) (12 : Int) from by rw [eF136]; exact uF_j (by decide)).trans ((show F130 (F (F (pg_) (4 : Int)) (k)) (12 : Int) = Fx (F (F (pg_) (4 : Int)) (k)) (12 : Int) from hM133 _ _ ho129.1 (own_z ho129.1) (by rw [ho129.2]; rfl)).trans (show Fx (F (F (pg_) (4 : Int)) (k)) (12 : Int) = F (F (F (pg_) (4 : Int)) (k)) (12 : Int) from hMx _ _ ho129.1 (own_z ho129.1) (by rw [ho129.2]; rfl)))))) ?_
          have y150 : F (F (F (pg_) (4 : Int)) (k)) (12 : Int) = 0 ∨ (own m (F (F (F (pg_) (4 : Int)) (k)) (12 : Int)) ∧ tg (F (F (F (pg_) (4 : Int)) (k)) (12 : Int)) = 8) := by have z := HC_r (c := 6) (q := 12) hC147 ho129.1 ho129.2 (by decide) rfl; rw [show F146 (F (F (pg_) (4 : Int)) (k)) ((12 : Nat) : Int) = F (F (F (pg_) (4 : Int)) (k)) (12 : Int) from ((show F146 (F (F (pg_) (4 : Int)) (k)) (12 : Int) = F139 (F (F (pg_) (4 : Int)) (k)) (12 : Int) from hM148 _ _ ho129.1 (own_z ho129.1) (by rw [ho129.2]; rfl)).trans ((show F139 (F (F (pg_) (4 : Int)) (k)) (12 : Int) = F136 (F (F (pg_) (4 : Int)) (k)) (12 : Int) from hM141 _ _ ho129.1 (own_z ho129.1) (by rw [ho129.2]; rfl)).trans ((show F136 (F (F (pg_) (4 : Int)) (k)) (12 : Int) = F130 (F (F (pg_) (4 : Int)) (k)) (12 : Int) from by rw [eF136]; exact uF_j (by decide)).trans ((show F130 (F (F (pg_) (4 : Int)) (k)) (12 : Int) = Fx (F (F (pg_) (4 : Int)) (k)) (12 : Int) from hM133 _ _ ho129.1 (own_z ho129.1) (by rw [ho129.2]; rfl)).trans (show Fx (F (F (pg_) (4 : Int)) (k)) (12 : Int) = F (F (F (pg_) (4 : Int)) (k)) (12 : Int) from hMx _ _ ho129.1 (own_z ho129.1) (by rw [ho129.2]; rfl))))))] at z; exact z
          refine cx_vi (c := 1) (a := me) (st := []) (as := [rv (F (F (F (pg_) (4 : Int)) (k)) (12 : Int))]) rfl rfl rfl o_me t_me (by decide) rfl ⟨rfl, rfl, (Nat.le_of_ble_eq_true rfl)⟩ rfl (CPx_all X (60) (dd := d) (R := R) (m := m) (tg := tg) (ln := ln) (F := F146) (me := me) (p := F (F (F (pg_) (4 : Int)) (k)) (12 : Int)) (hd := by omega) (hC := hC147) (o_me := o_me) (t_me := t_me) (y_p := y150) (c_NT := NT_q hC c_NT hM149 rfl) (n_p := (SN_q (SN_w (c_PG.2 _ ho129.1 ho129.2) (by omega)) hM149 rfl rfl))) (fun o V_q hq => ?_)
          obtain ⟨F151, rfl, rfl, hC152, hM153, -⟩ := hq
          have hM154 : Fq 0 [(2, 7), (2, 8), (2, 9), (2, 10), (2, 11), (7, 6), (7, 9), (7, 10), (20, -5), (21, -5)] m tg F F151 := Fq_t (ln := ln) (ln1 := ln) hM149 Ex_r hM153 (by decide) (Or.inl rfl)
          refine Or.inl ⟨rfl, ?_⟩
          refine jx_ld (pc_q := 94) (l_q := L116) (st_q := [rv (me)]) rfl (jl_rvn g117) ?_
          refine jx_ar (pc_q := 96) (st_q := [.int (i32 (11)), rv (me)]) rfl rfl rfl rfl ?_
          refine jx_ld (pc_q := 98) (l_q := L116) (st_q := [rv (F (F (pg_) (4 : Int)) (k)), .int (i32 (11)), rv (me)]) rfl (jl_rv g121) ?_
          refine cx_gi (pc_q := 101) (c := 6) (q := 3) (v := F (F (F (pg_) (4 : Int)) (k)) (3 : Int)) rfl rfl (by decide) (by decide) (Or.inl rfl) rfl ho129.1 ho129.2 ((show F151 (F (F (pg_) (4 : Int)) (k)) (3 : Int) = F146 (F (F (pg_) (4 : Int)) (k)) (3 : Int) from hM153 _ _ ho129.1 (own_z ho129.1) (by rw [ho129.2]; rfl)).trans ((show F146 (F (F (pg_) (4 : Int)) (k)) (3 : Int) = F139 (F (F (pg_) (4 : Int)) (k)) (3 : Int) from hM148 _ _ ho129.1 (own_z ho129.1) (by rw [ho129.2]; rfl)).trans ((show F139 (F (F (pg_) (4 : Int)) (k)) (3 : Int) = F136 (F (F (pg_) (4 : Int)) (k)) (3 : Int) from hM141 _ _ ho129.1 (own_z ho129.1) (by rw [ho129.2]; rfl)).trans ((show F136 (F (F (pg_) (4 : Int)) (k)) (3 : Int) = F130 (F (F (pg_) (4 : Int)) (k)) (3 : Int) from by rw [eF136]; exact uF_j (by decide)).trans ((show F130 (F (F (pg_) (4 : Int)) (k)) (3 : Int) = Fx (F (F (pg_) (4 : Int)) (k)) (3 : Int) from hM133 _ _ ho129.1 (own_z ho129.1) (by rw [ho129.2]; rfl)).trans (show Fx (F (F (pg_) (4 : Int)) (k)) (3 : Int) = F (F (F (pg_) (4 : Int)) (k)) (3 : Int) from hMx _ _ ho129.1 (own_z ho129.1) (by rw [ho129.2]; rfl))))))) ?_
          refine jx_ar (pc_q := 102) (st_q := [.int (i32 (3)), .int (i32 (F (F (F (pg_) (4 : Int)) (k)) (3 : Int))), .int (i32 (11)), rv (me)]) rfl rfl rfl rfl ?_
          refine jx_add (pc_q := 103) rfl rfl ?_
          obtain ⟨z155, ez155⟩ : ∃ q, q = (i32 ((F (F (F (pg_) (4 : Int)) (k)) (3 : Int) + 3))).toInt := ⟨_, rfl⟩
          have bz155 : (-2147483648 : Int) ≤ z155 ∧ z155 ≤ 2147483647 := ez155 ▸ i32_rg _
          rw [show i32 ((F (F (F (pg_) (4 : Int)) (k)) (3 : Int) + 3)) = i32 z155 by rw [ez155, i32_of]]
          clear ez155
          refine cx_vi (c := 1) (a := me) (st := []) (as := [.int (i32 (11)), .int (i32 (z155))]) rfl rfl rfl o_me t_me (by decide) rfl ⟨rfl, rfl, (Nat.le_of_ble_eq_true rfl)⟩ rfl (k_LCoder_emit (dd := d) (R := R) (m := m) (tg := tg) (ln := ln) (F := F151) (me := me) (fu := 11) (op := z155) (hd := by omega) (hC := hC152) (o_me := o_me) (t_me := t_me) (h_fu := by omega) (h_op := by omega)) (fun o V_q hq => ?_)
          obtain ⟨F156, rfl, rfl, hC157, hM158, -⟩ := hq
          have hM159 : Fq 0 [(2, 7), (2, 8), (2, 9), (2, 10), (2, 11), (7, 6), (7, 9), (7, 10), (20, -5), (21, -5)] m tg F F156 := Fq_t (ln := ln) (ln1 := ln) hM154 Ex_r hM158 (by decide) (Or.inl rfl)
          refine Or.inl ⟨rfl, ?_⟩
          refine jx_ld (pc_q := 107) (l_q := L116) (st_q := [rv (me)]) rfl (jl_rvn g117) ?_
          refine jx_ar (pc_q := 109) (st_q := [.int (i32 (19)), rv (me)]) rfl rfl rfl rfl ?_
          refine cx_vi (c := 1) (a := me) (st := []) (as := [.int (i32 (19))]) rfl rfl rfl o_me t_me (by decide) rfl ⟨rfl, rfl, (Nat.le_of_ble_eq_true rfl)⟩ rfl (k_LCoder_operation (dd := d) (R := R) (m := m) (tg := tg) (ln := ln) (F := F156) (me := me) (op := 19) (hd := by omega) (hC := hC157) (o_me := o_me) (t_me := t_me) (h_op := by omega)) (fun o V_q hq => ?_)
          obtain ⟨F160, rfl, rfl, hC161, hM162, -⟩ := hq
          have hM163 : Fq 0 [(2, 7), (2, 8), (2, 9), (2, 10), (2, 11), (7, 6), (7, 9), (7, 10), (20, -5), (21, -5)] m tg F F160 := Fq_t (ln := ln) (ln1 := ln) hM159 Ex_r hM162 (by decide) (Or.inl rfl)
          refine Or.inl ⟨rfl, ?_⟩
          refine jx_inc (pc_q := 115) (l_q := jSto1 L116 3 (.int (i32 (k + (1))))) (x := k) rfl g120 (by decide) rfl rfl ?_
          obtain ⟨L164, eL164⟩ : ∃ q : jL, q = jSto1 L116 3 (.int (i32 ((k + (1))))) := ⟨_, rfl⟩
          rw [← eL164]
          have g165 : jGet L164 0 = some (rv (me)) := eL164 ▸ jg_nr (by decide) g117
          have g166 : jGet L164 1 = some (rv (pg_)) := eL164 ▸ jg_nr (by decide) g118
          have g167 : jGet L164 2 = some (rv (rt)) := eL164 ▸ jg_nr (by decide) g119
          have g168 : jGet L164 4 = some (rv (F (F (pg_) (4 : Int)) (k))) := eL164 ▸ jg_nr (by decide) g121
          have g169 : jGet L164 3 = some (.int (i32 ((k + (1))))) := eL164 ▸ jg_eq
          clear eL164
          refine jx_go (tg := 22) rfl rfl ?_
          exact ih _ (by omega) L164 F160 ((k + (1))) rfl g165 g166 g167 g169 hC161 hM163 (by omega) (by omega)
set_option maxRecDepth 20000 in
set_option maxHeartbeats 4000000 in
theorem k_LCoder_translate {X : jX} {kk : Nat} {dd : Nat} {R : Nat → jC} {m : Nat} {tg ln : Int → Int} {F : Int → Int → Int} {me pg_ rt : Int} (hd : 200 ≤ dd) (hC : HC 0 m tg ln F) (o_me : own m me) (t_me : tg me = 2) (o_pg_ : own m pg_) (t_pg_ : tg pg_ = 10) (o_rt : own m rt) (t_rt : tg rt = 8) (p_0 : kk = 60) (c_NT : NT m tg F) (c_PG : PG m tg F) (n_rt : SN m tg F rt (kk)) : wk X dd 43 [rv me, rv pg_, rv rt] (cV R m tg ln F) (fun o V_q => ∃ (F_q : Int → Int → Int), V_q = cV R m tg ln F_q ∧ o = .inl none ∧ HC 0 m tg ln F_q ∧ Fq 0 [(2, 7), (2, 8), (2, 9), (2, 10), (2, 11), (7, 6), (7, 9), (7, 10), (20, -5), (21, -5)] m tg F F_q ∧ True) := by
  obtain ⟨d, rfl⟩ : ∃ d, dd = d + 1 := ⟨dd - 1, by omega⟩
  refine wk_of (e := jm43) rfl (by rw [jS_r, jS_r, jS_r, jS_0]; exact Nat.le_of_ble_eq_true rfl) ?_
  rw [la_r, la_r, la_r, la_0]
  show wj X d jm43 (0, [(0, rv (me)), (1, rv (pg_)), (2, rv (rt))], [], cV R m tg ln F) _
  have hM0 : Fq 0 [(2, 7), (2, 8), (2, 9), (2, 10), (2, 11), (7, 6), (7, 9), (7, 10), (20, -5), (21, -5)] m tg F F := Fq_r
  obtain ⟨L0, eL0⟩ : ∃ q : jL, q = [(0, rv (me)), (1, rv (pg_)), (2, rv (rt))] := ⟨_, rfl⟩
  rw [← eL0]
  have g170 : jGet L0 0 = some (rv (me)) := eL0 ▸ (rfl : jGet [(0, rv (me)), (1, rv (pg_)), (2, rv (rt))] 0 = some (rv (me)))
  have g171 : jGet L0 1 = some (rv (pg_)) := eL0 ▸ (rfl : jGet [(0, rv (me)), (1, rv (pg_)), (2, rv (rt))] 1 = some (rv (pg_)))
  have g172 : jGet L0 2 = some (rv (rt)) := eL0 ▸ (rfl : jGet [(0, rv (me)), (1, rv (pg_)), (2, rv (rt))] 2 = some (rv (rt)))
  clear eL0
  have k173 := SN_p n_rt (own_z o_rt)
  refine jx_ld (pc_q := 1) (l_q := L0) (st_q := [rv (me)]) rfl (jl_rvn g170) ?_
  refine jx_ar (pc_q := 2) (st_q := [.int (i32 (0)), rv (me)]) rfl rfl rfl rfl ?_
  refine cx_pi (pc_q := 5) (c := 1) (q := 7) (qi := (7 : Int)) (z := 0) rfl rfl (by decide) (by decide) rfl rfl rfl (by decide) rfl o_me t_me rfl ?_
  obtain ⟨F174, eF174⟩ : ∃ q, q = uF F (me) (7 : Int) (0) := ⟨_, rfl⟩
  rw [← eF174]
  have hC175 : HC 0 m tg ln F174 := by rw [eF174]; exact HC_fi (c := 1) (q := 7) hC t_me (by decide) rfl (by omega) (by omega) ⟨fun w => absurd w (by decide), fun w => absurd w (by decide)⟩
  have hM176 : Fq 0 [(2, 7), (2, 8), (2, 9), (2, 10), (2, 11), (7, 6), (7, 9), (7, 10), (20, -5), (21, -5)] m tg F F174 := by rw [eF174]; exact Fq_p hM0 t_me (fun _ => rfl) rfl
  refine jx_ld (pc_q := 6) (l_q := L0) (st_q := [rv (me)]) rfl (jl_rvn g170) ?_
  refine jx_ar (pc_q := 7) (st_q := [.int (i32 (0)), rv (me)]) rfl rfl rfl rfl ?_
  refine cx_pi (pc_q := 10) (c := 1) (q := 8) (qi := (8 : Int)) (z := 0) rfl rfl (by decide) (by decide) rfl rfl rfl (by decide) rfl o_me t_me rfl ?_
  obtain ⟨F177, eF177⟩ : ∃ q, q = uF F174 (me) (8 : Int) (0) := ⟨_, rfl⟩
  rw [← eF177]
  have hC178 : HC 0 m tg ln F177 := by rw [eF177]; exact HC_fi (c := 1) (q := 8) hC175 t_me (by decide) rfl (by omega) (by omega) ⟨fun w => absurd w (by decide), fun w => absurd w (by decide)⟩
  have hM179 : Fq 0 [(2, 7), (2, 8), (2, 9), (2, 10), (2, 11), (7, 6), (7, 9), (7, 10), (20, -5), (21, -5)] m tg F F177 := by rw [eF177]; exact Fq_p hM176 t_me (fun _ => rfl) rfl
  refine jx_ld (pc_q := 11) (l_q := L0) (st_q := [rv (me)]) rfl (jl_rvn g170) ?_
  refine jx_ar (pc_q := 12) (st_q := [.int (i32 (0)), rv (me)]) rfl rfl rfl rfl ?_
  refine cx_pb (pc_q := 15) (c := 1) (q := 11) (qi := (11 : Int)) (z := 0) rfl rfl (by decide) (by decide) rfl rfl rfl (by decide) (by omega) rfl o_me t_me rfl ?_
  obtain ⟨F180, eF180⟩ : ∃ q, q = uF F177 (me) (11 : Int) (0) := ⟨_, rfl⟩
  rw [← eF180]
  have hC181 : HC 0 m tg ln F180 := by rw [eF180]; exact HC_fi (c := 1) (q := 11) hC178 t_me (by decide) rfl (by omega) (by omega) ⟨fun w => absurd w (by decide), fun w => absurd w (by decide)⟩
  have hM182 : Fq 0 [(2, 7), (2, 8), (2, 9), (2, 10), (2, 11), (7, 6), (7, 9), (7, 10), (20, -5), (21, -5)] m tg F F180 := by rw [eF180]; exact Fq_p hM179 t_me (fun _ => rfl) rfl
  refine jx_ld (pc_q := 16) (l_q := L0) (st_q := [rv (me)]) rfl (jl_rvn g170) ?_
  refine jx_ar (pc_q := 17) (st_q := [.int (i32 (0)), rv (me)]) rfl rfl rfl rfl ?_
  refine cx_pi (pc_q := 20) (c := 1) (q := 10) (qi := (10 : Int)) (z := 0) rfl rfl (by decide) (by decide) rfl rfl rfl (by decide) rfl o_me t_me rfl ?_
  obtain ⟨F183, eF183⟩ : ∃ q, q = uF F180 (me) (10 : Int) (0) := ⟨_, rfl⟩
  rw [← eF183]
  have hC184 : HC 0 m tg ln F183 := by rw [eF183]; exact HC_fi (c := 1) (q := 10) hC181 t_me (by decide) rfl (by omega) (by omega) ⟨fun w => absurd w (by decide), fun w => absurd w (by decide)⟩
  have hM185 : Fq 0 [(2, 7), (2, 8), (2, 9), (2, 10), (2, 11), (7, 6), (7, 9), (7, 10), (20, -5), (21, -5)] m tg F F183 := by rw [eF183]; exact Fq_p hM182 t_me (fun _ => rfl) rfl
  refine jx_ar (pc_q := 21) (st_q := [.int (i32 (0))]) rfl rfl rfl rfl ?_
  refine jx_ld (pc_q := 22) (l_q := jSto1 L0 3 (.int (i32 (0)))) (st_q := []) rfl rfl ?_
  obtain ⟨L186, eL186⟩ : ∃ q : jL, q = jSto1 L0 3 (.int (i32 (0))) := ⟨_, rfl⟩
  rw [← eL186]
  have g187 : jGet L186 0 = some (rv (me)) := eL186 ▸ jg_nr (by decide) g170
  have g188 : jGet L186 1 = some (rv (pg_)) := eL186 ▸ jg_nr (by decide) g171
  have g189 : jGet L186 2 = some (rv (rt)) := eL186 ▸ jg_nr (by decide) g172
  have g190 : jGet L186 3 = some (.int (i32 (0))) := eL186 ▸ jg_eq
  clear eL186
  exact k_LCoder_translate_at_22 (X := X) (kk := kk) (d := d) (R := R) (m := m) (tg := tg) (ln := ln) (F := F) (me := me) (pg_ := pg_) (rt := rt) (hd := hd) (hC := hC) (o_me := o_me) (t_me := t_me) (o_pg_ := o_pg_) (t_pg_ := t_pg_) (o_rt := o_rt) (t_rt := t_rt) (p_0 := p_0) (c_NT := c_NT) (c_PG := c_PG) (n_rt := n_rt) _ L186 F183 (0) rfl g187 g188 g189 g190 hC184 hM185 (by omega) (by omega)
