def CVx (X : jX) (kk : Nat) : Prop := ∀ ⦃dd : Nat⦄ ⦃R : Nat → jC⦄ ⦃m : Nat⦄ ⦃tg ln : Int → Int⦄ ⦃F : Int → Int → Int⦄ ⦃me e : Int⦄ (hd : 3 * kk + 8 ≤ dd) (hC : HC 0 m tg ln F) (o_me : own m me) (t_me : tg me = 2) (y_e : e = 0 ∨ (own m e ∧ tg e = 8)) (c_NT : NT m tg F) (n_e : SN m tg F e (kk)), wk X dd 59 [rv me, rv e] (cV R m tg ln F) (fun o V_q => ∃ (F_q : Int → Int → Int), V_q = cV R m tg ln F_q ∧ o = .inl none ∧ HC 0 m tg ln F_q ∧ Fq 0 [(2, 7), (2, 8), (2, 11), (20, -5), (21, -5)] m tg F F_q ∧ True)
set_option maxRecDepth 20000 in
set_option maxHeartbeats 4000000 in
theorem k_LCoder_address_at_86 {X : jX} {kk : Nat} (hE : 1 ≤ kk → CVx X (kk - 1)) {d : Nat} {R : Nat → jC} {m : Nat} {tg ln : Int → Int} {F : Int → Int → Int} {me p : Int} (hd : 3 * kk + 6 ≤ d + 1) (hC : HC 0 m tg ln F) (o_me : own m me) (t_me : tg me = 2) (y_p : p = 0 ∨ (own m p ∧ tg p = 8)) (c_NT : NT m tg F) (n_p : SN m tg F p (kk)) : ∀ (L : jL) (Fx : Int → Int → Int) (hd_ nm : Int), jGet L 0 = some (rv (me)) → jGet L 1 = some (rv (p)) → jGet L 3 = some (.int (i32 hd_)) → jGet L 2 = some (rv nm) → HC 0 m tg ln Fx → Fq 0 [(2, 7), (2, 8), (2, 11), (20, -5), (21, -5)] m tg F Fx → ((-2147483648 : Int) ≤ hd_ ∧ hd_ ≤ 2147483647) → (nm = 0 ∨ (own m nm ∧ tg nm = 7)) → (p ≠ 0) → (nm ≠ 0) → wj X d jm62 (86, L, [], cV R m tg ln Fx) (fun o V_q => ∃ (F_q : Int → Int → Int), V_q = cV R m tg ln F_q ∧ o = .inl none ∧ HC 0 m tg ln F_q ∧ Fq 0 [(2, 7), (2, 8), (2, 11), (20, -5), (21, -5)] m tg F F_q ∧ True) := by
  intro L Fx hd_ nm gL_0 gL_1 gL_3 gL_2 hCx hMx rx_hd_ yx_nm iv_0 iv_1
  have hz1 : nm ≠ 0 := by omega
  have ho2 : own m (nm) ∧ tg (nm) = 7 := yx_nm.resolve_left hz1
  refine jx_ld (pc_q := 87) (l_q := L) (st_q := [rv (nm)]) rfl (jl_rvn gL_2) ?_
  refine cx_gi (pc_q := 90) (c := 6) (q := 0) (v := F (nm) (0 : Int)) rfl rfl (by decide) (by decide) (Or.inl rfl) rfl ho2.1 ho2.2 (show Fx (nm) (0 : Int) = F (nm) (0 : Int) from hMx _ _ ho2.1 (own_z ho2.1) (by rw [ho2.2]; rfl)) ?_
  have b3 : (-2147483648 : Int) ≤ F (nm) (0 : Int) ∧ F (nm) (0 : Int) ≤ 2147483647 := by have z := HC_i (c := 6) (q := 0) hCx ho2.1 ho2.2 (by decide) rfl; rw [show Fx (nm) ((0 : Nat) : Int) = F (nm) (0 : Int) from (show Fx (nm) (0 : Int) = F (nm) (0 : Int) from hMx _ _ ho2.1 (own_z ho2.1) (by rw [ho2.2]; rfl))] at z; exact z
  refine jx_ar (pc_q := 92) (st_q := [.int (i32 (10)), .int (i32 (F (nm) (0 : Int)))]) rfl rfl rfl rfl ?_
  refine jx_icmp_ne (pc_q := 95) (tg := 107) rfl rfl rfl (by omega) (by omega) (by decide) (by decide) (fun h4 => ?_) (fun h4 => ?_)
  · have _q := h4
    refine jx_ld (pc_q := 108) (l_q := L) (st_q := [rv (me)]) rfl (jl_rvn gL_0) ?_
    refine jx_ld (pc_q := 109) (l_q := L) (st_q := [.int (i32 (hd_)), rv (me)]) rfl (jl_iloadn gL_3) ?_
    refine jx_if_eq (pc_q := 112) (tg := 117) rfl rfl rfl (by omega) (by omega) (fun h5 => ?_) (fun h5 => ?_)
    · have _q := h5
      refine jx_ar (pc_q := 118) (st_q := [.int (i32 (1)), rv (me)]) rfl rfl rfl rfl ?_
      refine jx_ld (pc_q := 119) (l_q := L) (st_q := [rv (me), .int (i32 (1)), rv (me)]) rfl (jl_rvn gL_0) ?_
      refine jx_ld (pc_q := 120) (l_q := L) (st_q := [rv (nm), rv (me), .int (i32 (1)), rv (me)]) rfl (jl_rvn gL_2) ?_
      refine cx_vi (c := 1) (a := me) (st := [.int (i32 (1)), rv (me)]) (as := [rv (nm)]) rfl rfl rfl o_me t_me (by decide) rfl ⟨rfl, rfl, (by rw [jS_i, jS_r, jS_0]; exact Nat.le_of_ble_eq_true rfl)⟩ rfl (k_LCoder_wordOf (dd := d) (R := R) (m := m) (tg := tg) (ln := ln) (F := Fx) (me := me) (nm := nm) (hd := by omega) (hC := hCx) (o_me := o_me) (t_me := t_me) (o_nm := ho2.1) (t_nm := ho2.2)) (fun o V_q hq => ?_)
      obtain ⟨r6, rfl, rfl, b7, -⟩ := hq
      refine Or.inr (Or.inl ⟨_, rfl, ?_⟩)
      refine cx_vi (c := 1) (a := me) (st := []) (as := [.int (i32 (1)), .int (i32 (r6))]) rfl rfl rfl o_me t_me (by decide) rfl ⟨rfl, rfl, (Nat.le_of_ble_eq_true rfl)⟩ rfl (k_LCoder_emit (dd := d) (R := R) (m := m) (tg := tg) (ln := ln) (F := Fx) (me := me) (fu := 1) (op := r6) (hd := by omega) (hC := hCx) (o_me := o_me) (t_me := t_me) (h_fu := by omega) (h_op := by omega)) (fun o V_q hq => ?_)
      obtain ⟨F8, rfl, rfl, hC9, hM10, -⟩ := hq
      have hM11 : Fq 0 [(2, 7), (2, 8), (2, 11), (20, -5), (21, -5)] m tg F F8 := Fq_t (ln := ln) (ln1 := ln) hMx Ex_r hM10 (by decide) (Or.inl rfl)
      refine Or.inl ⟨rfl, ?_⟩
      refine jx_ld (pc_q := 127) (l_q := L) (st_q := [rv (p)]) rfl (jl_rvn gL_1) ?_
      have hn12 : p ≠ 0 := iv_0
      have ho13 : own m (p) ∧ tg (p) = 8 := y_p.resolve_left hn12
      have k14 := SN_p n_p hn12
      have hE15 := hE (by omega)
      refine cx_gr (pc_q := 130) (c := 7) (q := 4) (v := F8 (p) (4 : Int)) rfl rfl (by decide) (by decide) rfl rfl ho13.1 ho13.2 rfl ?_
      have y16 : F8 (p) (4 : Int) = 0 ∨ (own m (F8 (p) (4 : Int)) ∧ tg (F8 (p) (4 : Int)) = 8) := by have z := HC_r (c := 7) (q := 4) hC9 ho13.1 ho13.2 (by decide) rfl; rw [show F8 (p) ((4 : Nat) : Int) = F8 (p) (4 : Int) from rfl] at z; exact z
      refine cx_nul (pc_q := 133) (tg_q := 139) rfl rfl rfl (fun h17 => ?_) (fun h17 => ?_)
      · have _q := h17
        refine jx_rt (v := none) rfl rfl rfl rfl rfl rfl ?_
        exact ⟨F8, rfl, rfl, hC9, hM11, trivial⟩
      · have _q := h17
        have ho18 : own m (F8 (p) (4 : Int)) ∧ tg (F8 (p) (4 : Int)) = 8 := y16.resolve_left h17
        refine jx_ld (pc_q := 134) (l_q := L) (st_q := [rv (me)]) rfl (jl_rvn gL_0) ?_
        refine jx_ar (pc_q := 136) (st_q := [.int (i32 (11)), rv (me)]) rfl rfl rfl rfl ?_
        refine cx_vi (c := 1) (a := me) (st := []) (as := [.int (i32 (11))]) rfl rfl rfl o_me t_me (by decide) rfl ⟨rfl, rfl, (Nat.le_of_ble_eq_true rfl)⟩ rfl (k_LCoder_operation (dd := d) (R := R) (m := m) (tg := tg) (ln := ln) (F := F8) (me := me) (op := 11) (hd := by omega) (hC := hC9) (o_me := o_me) (t_me := t_me) (h_op := by omega)) (fun o V_q hq => ?_)
        obtain ⟨F19, rfl, rfl, hC20, hM21, -⟩ := hq
        have hM22 : Fq 0 [(2, 7), (2, 8), (2, 11), (20, -5), (21, -5)] m tg F F19 := Fq_t (ln := ln) (ln1 := ln) hM11 Ex_r hM21 (by decide) (Or.inl rfl)
        refine Or.inl ⟨rfl, ?_⟩
        refine jx_rt (v := none) rfl rfl rfl rfl rfl rfl ?_
        exact ⟨F19, rfl, rfl, hC20, hM22, trivial⟩
    · have _q := h5
      refine jx_ar (pc_q := 114) (st_q := [.int (i32 (7)), rv (me)]) rfl rfl rfl rfl ?_
      refine jx_go (tg := 118) rfl rfl ?_
      refine jx_ld (pc_q := 119) (l_q := L) (st_q := [rv (me), .int (i32 (7)), rv (me)]) rfl (jl_rvn gL_0) ?_
      refine jx_ld (pc_q := 120) (l_q := L) (st_q := [rv (nm), rv (me), .int (i32 (7)), rv (me)]) rfl (jl_rvn gL_2) ?_
      refine cx_vi (c := 1) (a := me) (st := [.int (i32 (7)), rv (me)]) (as := [rv (nm)]) rfl rfl rfl o_me t_me (by decide) rfl ⟨rfl, rfl, (by rw [jS_i, jS_r, jS_0]; exact Nat.le_of_ble_eq_true rfl)⟩ rfl (k_LCoder_wordOf (dd := d) (R := R) (m := m) (tg := tg) (ln := ln) (F := Fx) (me := me) (nm := nm) (hd := by omega) (hC := hCx) (o_me := o_me) (t_me := t_me) (o_nm := ho2.1) (t_nm := ho2.2)) (fun o V_q hq => ?_)
      obtain ⟨r23, rfl, rfl, b24, -⟩ := hq
      refine Or.inr (Or.inl ⟨_, rfl, ?_⟩)
      refine cx_vi (c := 1) (a := me) (st := []) (as := [.int (i32 (7)), .int (i32 (r23))]) rfl rfl rfl o_me t_me (by decide) rfl ⟨rfl, rfl, (Nat.le_of_ble_eq_true rfl)⟩ rfl (k_LCoder_emit (dd := d) (R := R) (m := m) (tg := tg) (ln := ln) (F := Fx) (me := me) (fu := 7) (op := r23) (hd := by omega) (hC := hCx) (o_me := o_me) (t_me := t_me) (h_fu := by omega) (h_op := by omega)) (fun o V_q hq => ?_)
      obtain ⟨F25, rfl, rfl, hC26, hM27, -⟩ := hq
      have hM28 : Fq 0 [(2, 7), (2, 8), (2, 11), (20, -5), (21, -5)] m tg F F25 := Fq_t (ln := ln) (ln1 := ln) hMx Ex_r hM27 (by decide) (Or.inl rfl)
      refine Or.inl ⟨rfl, ?_⟩
      refine jx_ld (pc_q := 127) (l_q := L) (st_q := [rv (p)]) rfl (jl_rvn gL_1) ?_
      have hn29 : p ≠ 0 := iv_0
      have ho30 : own m (p) ∧ tg (p) = 8 := y_p.resolve_left hn29
      have k31 := SN_p n_p hn29
      have hE32 := hE (by omega)
      refine cx_gr (pc_q := 130) (c := 7) (q := 4) (v := F25 (p) (4 : Int)) rfl rfl (by decide) (by decide) rfl rfl ho30.1 ho30.2 rfl ?_
      have y33 : F25 (p) (4 : Int) = 0 ∨ (own m (F25 (p) (4 : Int)) ∧ tg (F25 (p) (4 : Int)) = 8) := by have z := HC_r (c := 7) (q := 4) hC26 ho30.1 ho30.2 (by decide) rfl; rw [show F25 (p) ((4 : Nat) : Int) = F25 (p) (4 : Int) from rfl] at z; exact z
      refine cx_nul (pc_q := 133) (tg_q := 139) rfl rfl rfl (fun h34 => ?_) (fun h34 => ?_)
      · have _q := h34
        refine jx_rt (v := none) rfl rfl rfl rfl rfl rfl ?_
        exact ⟨F25, rfl, rfl, hC26, hM28, trivial⟩
      · have _q := h34
        have ho35 : own m (F25 (p) (4 : Int)) ∧ tg (F25 (p) (4 : Int)) = 8 := y33.resolve_left h34
        refine jx_ld (pc_q := 134) (l_q := L) (st_q := [rv (me)]) rfl (jl_rvn gL_0) ?_
        refine jx_ar (pc_q := 136) (st_q := [.int (i32 (11)), rv (me)]) rfl rfl rfl rfl ?_
        refine cx_vi (c := 1) (a := me) (st := []) (as := [.int (i32 (11))]) rfl rfl rfl o_me t_me (by decide) rfl ⟨rfl, rfl, (Nat.le_of_ble_eq_true rfl)⟩ rfl (k_LCoder_operation (dd := d) (R := R) (m := m) (tg := tg) (ln := ln) (F := F25) (me := me) (op := 11) (hd := by omega) (hC := hC26) (o_me := o_me) (t_me := t_me) (h_op := by omega)) (fun o V_q hq => ?_)
        obtain ⟨F36, rfl, rfl, hC37, hM38, -⟩ := hq
        have hM39 : Fq 0 [(2, 7), (2, 8), (2, 11), (20, -5), (21, -5)] m tg F F36 := Fq_t (ln := ln) (ln1 := ln) hM28 Ex_r hM38 (by decide) (Or.inl rfl)
        refine Or.inl ⟨rfl, ?_⟩
        refine jx_rt (v := none) rfl rfl rfl rfl rfl rfl ?_
        exact ⟨F36, rfl, rfl, hC37, hM39, trivial⟩
  · have _q := h4
    refine jx_ld (pc_q := 96) (l_q := L) (st_q := [rv (me)]) rfl (jl_rvn gL_0) ?_
    refine jx_ar (pc_q := 97) (st_q := [.int (i32 (4)), rv (me)]) rfl rfl rfl rfl ?_
    refine jx_ld (pc_q := 98) (l_q := L) (st_q := [rv (nm), .int (i32 (4)), rv (me)]) rfl (jl_rvn gL_2) ?_
    refine cx_gi (pc_q := 101) (c := 6) (q := 5) (v := F (nm) (5 : Int)) rfl rfl (by decide) (by decide) (Or.inl rfl) rfl ho2.1 ho2.2 (show Fx (nm) (5 : Int) = F (nm) (5 : Int) from hMx _ _ ho2.1 (own_z ho2.1) (by rw [ho2.2]; rfl)) ?_
    have b40 : (-2147483648 : Int) ≤ F (nm) (5 : Int) ∧ F (nm) (5 : Int) ≤ 2147483647 := by have z := HC_i (c := 6) (q := 5) hCx ho2.1 ho2.2 (by decide) rfl; rw [show Fx (nm) ((5 : Nat) : Int) = F (nm) (5 : Int) from (show Fx (nm) (5 : Int) = F (nm) (5 : Int) from hMx _ _ ho2.1 (own_z ho2.1) (by rw [ho2.2]; rfl))] at z; exact z
    refine cx_vi (c := 1) (a := me) (st := []) (as := [.int (i32 (4)), .int (i32 (F (nm) (5 : Int)))]) rfl rfl rfl o_me t_me (by decide) rfl ⟨rfl, rfl, (Nat.le_of_ble_eq_true rfl)⟩ rfl (k_LCoder_emit (dd := d) (R := R) (m := m) (tg := tg) (ln := ln) (F := Fx) (me := me) (fu := 4) (op := F (nm) (5 : Int)) (hd := by omega) (hC := hCx) (o_me := o_me) (t_me := t_me) (h_fu := by omega) (h_op := by omega)) (fun o V_q hq => ?_)
    obtain ⟨F41, rfl, rfl, hC42, hM43, -⟩ := hq
    have hM44 : Fq 0 [(2, 7), (2, 8), (2, 11), (20, -5), (21, -5)] m tg F F41 := Fq_t (ln := ln) (ln1 := ln) hMx Ex_r hM43 (by decide) (Or.inl rfl)
    refine Or.inl ⟨rfl, ?_⟩
    refine jx_go (tg := 126) rfl rfl ?_
    refine jx_ld (pc_q := 127) (l_q := L) (st_q := [rv (p)]) rfl (jl_rvn gL_1) ?_
    have hn45 : p ≠ 0 := iv_0
    have ho46 : own m (p) ∧ tg (p) = 8 := y_p.resolve_left hn45
    have k47 := SN_p n_p hn45
    have hE48 := hE (by omega)
    refine cx_gr (pc_q := 130) (c := 7) (q := 4) (v := F41 (p) (4 : Int)) rfl rfl (by decide) (by decide) rfl rfl ho46.1 ho46.2 rfl ?_
    have y49 : F41 (p) (4 : Int) = 0 ∨ (own m (F41 (p) (4 : Int)) ∧ tg (F41 (p) (4 : Int)) = 8) := by have z := HC_r (c := 7) (q := 4) hC42 ho46.1 ho46.2 (by decide) rfl; rw [show F41 (p) ((4 : Nat) : Int) = F41 (p) (4 : Int) from rfl] at z; exact z
    refine cx_nul (pc_q := 133) (tg_q := 139) rfl rfl rfl (fun h50 => ?_) (fun h50 => ?_)
    · have _q := h50
      refine jx_rt (v := none) rfl rfl rfl rfl rfl rfl ?_
      exact ⟨F41, rfl, rfl, hC42, hM44, trivial⟩
    · have _q := h50
      have ho51 : own m (F41 (p) (4 : Int)) ∧ tg (F41 (p) (4 : Int)) = 8 := y49.resolve_left h50
      refine jx_ld (pc_q := 134) (l_q := L) (st_q := [rv (me)]) rfl (jl_rvn gL_0) ?_
      refine jx_ar (pc_q := 136) (st_q := [.int (i32 (11)), rv (me)]) rfl rfl rfl rfl ?_
      refine cx_vi (c := 1) (a := me) (st := []) (as := [.int (i32 (11))]) rfl rfl rfl o_me t_me (by decide) rfl ⟨rfl, rfl, (Nat.le_of_ble_eq_true rfl)⟩ rfl (k_LCoder_operation (dd := d) (R := R) (m := m) (tg := tg) (ln := ln) (F := F41) (me := me) (op := 11) (hd := by omega) (hC := hC42) (o_me := o_me) (t_me := t_me) (h_op := by omega)) (fun o V_q hq => ?_)
      obtain ⟨F52, rfl, rfl, hC53, hM54, -⟩ := hq
      have hM55 : Fq 0 [(2, 7), (2, 8), (2, 11), (20, -5), (21, -5)] m tg F F52 := Fq_t (ln := ln) (ln1 := ln) hM44 Ex_r hM54 (by decide) (Or.inl rfl)
      refine Or.inl ⟨rfl, ?_⟩
      refine jx_rt (v := none) rfl rfl rfl rfl rfl rfl ?_
      exact ⟨F52, rfl, rfl, hC53, hM55, trivial⟩
set_option maxRecDepth 20000 in
set_option maxHeartbeats 4000000 in
theorem k_LCoder_address_at_54 {X : jX} {kk : Nat} (hE : 1 ≤ kk → CVx X (kk - 1)) {d : Nat} {R : Nat → jC} {m : Nat} {tg ln : Int → Int} {F : Int → Int → Int} {me p : Int} (hd : 3 * kk + 6 ≤ d + 1) (hC : HC 0 m tg ln F) (o_me : own m me) (t_me : tg me = 2) (y_p : p = 0 ∨ (own m p ∧ tg p = 8)) (c_NT : NT m tg F) (n_p : SN m tg F p (kk)) : ∀ (L : jL) (Fx : Int → Int → Int) (nm : Int), jGet L 0 = some (rv (me)) → jGet L 1 = some (rv (p)) → jGet L 2 = some (rv nm) → HC 0 m tg ln Fx → Fq 0 [(2, 7), (2, 8), (2, 11), (20, -5), (21, -5)] m tg F Fx → (nm = 0 ∨ (own m nm ∧ tg nm = 7)) → (p ≠ 0) → (nm ≠ 0) → wj X d jm62 (54, L, [], cV R m tg ln Fx) (fun o V_q => ∃ (F_q : Int → Int → Int), V_q = cV R m tg ln F_q ∧ o = .inl none ∧ HC 0 m tg ln F_q ∧ Fq 0 [(2, 7), (2, 8), (2, 11), (20, -5), (21, -5)] m tg F F_q ∧ True) := by
  intro L Fx nm gL_0 gL_1 gL_2 hCx hMx yx_nm iv_0 iv_1
  have hz56 : nm ≠ 0 := by omega
  have ho57 : own m (nm) ∧ tg (nm) = 7 := yx_nm.resolve_left hz56
  refine jx_ld (pc_q := 55) (l_q := L) (st_q := [rv (nm)]) rfl (jl_rvn gL_2) ?_
  refine cx_gi (pc_q := 58) (c := 6) (q := 0) (v := F (nm) (0 : Int)) rfl rfl (by decide) (by decide) (Or.inl rfl) rfl ho57.1 ho57.2 (show Fx (nm) (0 : Int) = F (nm) (0 : Int) from hMx _ _ ho57.1 (own_z ho57.1) (by rw [ho57.2]; rfl)) ?_
  have b58 : (-2147483648 : Int) ≤ F (nm) (0 : Int) ∧ F (nm) (0 : Int) ≤ 2147483647 := by have z := HC_i (c := 6) (q := 0) hCx ho57.1 ho57.2 (by decide) rfl; rw [show Fx (nm) ((0 : Nat) : Int) = F (nm) (0 : Int) from (show Fx (nm) (0 : Int) = F (nm) (0 : Int) from hMx _ _ ho57.1 (own_z ho57.1) (by rw [ho57.2]; rfl))] at z; exact z
  refine jx_ar (pc_q := 59) (st_q := [.int (i32 (2)), .int (i32 (F (nm) (0 : Int)))]) rfl rfl rfl rfl ?_
  refine jx_icmp_eq (pc_q := 62) (tg := 80) rfl rfl rfl (by omega) (by omega) (by decide) (by decide) (fun h59 => ?_) (fun h59 => ?_)
  · have _q := h59
    refine jx_ar (pc_q := 81) (st_q := [.int (i32 (1))]) rfl rfl rfl rfl ?_
    refine jx_go (tg := 85) rfl rfl ?_
    refine jx_ld (pc_q := 86) (l_q := jSto1 L 3 (.int (i32 (1)))) (st_q := []) rfl rfl ?_
    obtain ⟨L60, eL60⟩ : ∃ q : jL, q = jSto1 L 3 (.int (i32 (1))) := ⟨_, rfl⟩
    rw [← eL60]
    have g61 : jGet L60 0 = some (rv (me)) := eL60 ▸ jg_nr (by decide) gL_0
    have g62 : jGet L60 1 = some (rv (p)) := eL60 ▸ jg_nr (by decide) gL_1
    have g63 : jGet L60 2 = some (rv (nm)) := eL60 ▸ jg_nr (by decide) gL_2
    have g64 : jGet L60 3 = some (.int (i32 (1))) := eL60 ▸ jg_eq
    clear eL60
    exact k_LCoder_address_at_86 (X := X) (kk := kk) (hE := hE) (d := d) (R := R) (m := m) (tg := tg) (ln := ln) (F := F) (me := me) (p := p) (hd := hd) (hC := hC) (o_me := o_me) (t_me := t_me) (y_p := y_p) (c_NT := c_NT) (n_p := n_p) L60 Fx (1) (nm) g61 g62 g64 g63 hCx hMx (by omega) (Or.inr ⟨ho57.1, ho57.2⟩) (by omega) (by omega)
  · have _q := h59
    refine jx_ld (pc_q := 63) (l_q := L) (st_q := [rv (nm)]) rfl (jl_rvn gL_2) ?_
    refine cx_gi (pc_q := 66) (c := 6) (q := 0) (v := F (nm) (0 : Int)) rfl rfl (by decide) (by decide) (Or.inl rfl) rfl ho57.1 ho57.2 (show Fx (nm) (0 : Int) = F (nm) (0 : Int) from hMx _ _ ho57.1 (own_z ho57.1) (by rw [ho57.2]; rfl)) ?_
    refine jx_ar (pc_q := 68) (st_q := [.int (i32 (6)), .int (i32 (F (nm) (0 : Int)))]) rfl rfl rfl rfl ?_
    refine jx_icmp_eq (pc_q := 71) (tg := 80) rfl rfl rfl (by omega) (by omega) (by decide) (by decide) (fun h65 => ?_) (fun h65 => ?_)
    · have _q := h65
      refine jx_ar (pc_q := 81) (st_q := [.int (i32 (1))]) rfl rfl rfl rfl ?_
      refine jx_go (tg := 85) rfl rfl ?_
      refine jx_ld (pc_q := 86) (l_q := jSto1 L 3 (.int (i32 (1)))) (st_q := []) rfl rfl ?_
      obtain ⟨L66, eL66⟩ : ∃ q : jL, q = jSto1 L 3 (.int (i32 (1))) := ⟨_, rfl⟩
      rw [← eL66]
      have g67 : jGet L66 0 = some (rv (me)) := eL66 ▸ jg_nr (by decide) gL_0
      have g68 : jGet L66 1 = some (rv (p)) := eL66 ▸ jg_nr (by decide) gL_1
      have g69 : jGet L66 2 = some (rv (nm)) := eL66 ▸ jg_nr (by decide) gL_2
      have g70 : jGet L66 3 = some (.int (i32 (1))) := eL66 ▸ jg_eq
      clear eL66
      exact k_LCoder_address_at_86 (X := X) (kk := kk) (hE := hE) (d := d) (R := R) (m := m) (tg := tg) (ln := ln) (F := F) (me := me) (p := p) (hd := hd) (hC := hC) (o_me := o_me) (t_me := t_me) (y_p := y_p) (c_NT := c_NT) (n_p := n_p) L66 Fx (1) (nm) g67 g68 g70 g69 hCx hMx (by omega) (Or.inr ⟨ho57.1, ho57.2⟩) (by omega) (by omega)
    · have _q := h65
      refine jx_ld (pc_q := 72) (l_q := L) (st_q := [rv (nm)]) rfl (jl_rvn gL_2) ?_
      refine cx_gi (pc_q := 75) (c := 6) (q := 0) (v := F (nm) (0 : Int)) rfl rfl (by decide) (by decide) (Or.inl rfl) rfl ho57.1 ho57.2 (show Fx (nm) (0 : Int) = F (nm) (0 : Int) from hMx _ _ ho57.1 (own_z ho57.1) (by rw [ho57.2]; rfl)) ?_
      refine jx_ar (pc_q := 77) (st_q := [.int (i32 (8)), .int (i32 (F (nm) (0 : Int)))]) rfl rfl rfl rfl ?_
      refine jx_icmp_ne (pc_q := 80) (tg := 84) rfl rfl rfl (by omega) (by omega) (by decide) (by decide) (fun h71 => ?_) (fun h71 => ?_)
      · have _q := h71
        refine jx_ar (pc_q := 85) (st_q := [.int (i32 (0))]) rfl rfl rfl rfl ?_
        refine jx_ld (pc_q := 86) (l_q := jSto1 L 3 (.int (i32 (0)))) (st_q := []) rfl rfl ?_
        obtain ⟨L72, eL72⟩ : ∃ q : jL, q = jSto1 L 3 (.int (i32 (0))) := ⟨_, rfl⟩
        rw [← eL72]
        have g73 : jGet L72 0 = some (rv (me)) := eL72 ▸ jg_nr (by decide) gL_0
        have g74 : jGet L72 1 = some (rv (p)) := eL72 ▸ jg_nr (by decide) gL_1
        have g75 : jGet L72 2 = some (rv (nm)) := eL72 ▸ jg_nr (by decide) gL_2
        have g76 : jGet L72 3 = some (.int (i32 (0))) := eL72 ▸ jg_eq
        clear eL72
        exact k_LCoder_address_at_86 (X := X) (kk := kk) (hE := hE) (d := d) (R := R) (m := m) (tg := tg) (ln := ln) (F := F) (me := me) (p := p) (hd := hd) (hC := hC) (o_me := o_me) (t_me := t_me) (y_p := y_p) (c_NT := c_NT) (n_p := n_p) L72 Fx (0) (nm) g73 g74 g76 g75 hCx hMx (by omega) (Or.inr ⟨ho57.1, ho57.2⟩) (by omega) (by omega)
      · have _q := h71
        refine jx_ar (pc_q := 81) (st_q := [.int (i32 (1))]) rfl rfl rfl rfl ?_
        refine jx_go (tg := 85) rfl rfl ?_
        refine jx_ld (pc_q := 86) (l_q := jSto1 L 3 (.int (i32 (1)))) (st_q := []) rfl rfl ?_
        obtain ⟨L77, eL77⟩ : ∃ q : jL, q = jSto1 L 3 (.int (i32 (1))) := ⟨_, rfl⟩
        rw [← eL77]
        have g78 : jGet L77 0 = some (rv (me)) := eL77 ▸ jg_nr (by decide) gL_0
        have g79 : jGet L77 1 = some (rv (p)) := eL77 ▸ jg_nr (by decide) gL_1
        have g80 : jGet L77 2 = some (rv (nm)) := eL77 ▸ jg_nr (by decide) gL_2
        have g81 : jGet L77 3 = some (.int (i32 (1))) := eL77 ▸ jg_eq
        clear eL77
        exact k_LCoder_address_at_86 (X := X) (kk := kk) (hE := hE) (d := d) (R := R) (m := m) (tg := tg) (ln := ln) (F := F) (me := me) (p := p) (hd := hd) (hC := hC) (o_me := o_me) (t_me := t_me) (y_p := y_p) (c_NT := c_NT) (n_p := n_p) L77 Fx (1) (nm) g78 g79 g81 g80 hCx hMx (by omega) (Or.inr ⟨ho57.1, ho57.2⟩) (by omega) (by omega)
set_option maxRecDepth 20000 in
set_option maxHeartbeats 4000000 in
theorem k_LCoder_address {X : jX} {kk : Nat} (hE : 1 ≤ kk → CVx X (kk - 1)) {dd : Nat} {R : Nat → jC} {m : Nat} {tg ln : Int → Int} {F : Int → Int → Int} {me p : Int} (hd : 3 * kk + 6 ≤ dd) (hC : HC 0 m tg ln F) (o_me : own m me) (t_me : tg me = 2) (y_p : p = 0 ∨ (own m p ∧ tg p = 8)) (c_NT : NT m tg F) (n_p : SN m tg F p (kk)) : wk X dd 62 [rv me, rv p] (cV R m tg ln F) (fun o V_q => ∃ (F_q : Int → Int → Int), V_q = cV R m tg ln F_q ∧ o = .inl none ∧ HC 0 m tg ln F_q ∧ Fq 0 [(2, 7), (2, 8), (2, 11), (20, -5), (21, -5)] m tg F F_q ∧ True) := by
  obtain ⟨d, rfl⟩ : ∃ d, dd = d + 1 := ⟨dd - 1, by omega⟩
  refine wk_of (e := jm62) rfl (by rw [jS_r, jS_r, jS_0]; exact Nat.le_of_ble_eq_true rfl) ?_
  rw [la_r, la_r, la_0]
  show wj X d jm62 (0, [(0, rv (me)), (1, rv (p))], [], cV R m tg ln F) _
  have hM0 : Fq 0 [(2, 7), (2, 8), (2, 11), (20, -5), (21, -5)] m tg F F := Fq_r
  obtain ⟨L0, eL0⟩ : ∃ q : jL, q = [(0, rv (me)), (1, rv (p))] := ⟨_, rfl⟩
  rw [← eL0]
  have g82 : jGet L0 0 = some (rv (me)) := eL0 ▸ (rfl : jGet [(0, rv (me)), (1, rv (p))] 0 = some (rv (me)))
  have g83 : jGet L0 1 = some (rv (p)) := eL0 ▸ (rfl : jGet [(0, rv (me)), (1, rv (p))] 1 = some (rv (p)))
  clear eL0
  refine jx_ld (pc_q := 1) (l_q := L0) (st_q := [rv (p)]) rfl (jl_rvn g83) ?_
  refine cx_nul (pc_q := 4) (tg_q := 18) rfl rfl rfl (fun h84 => ?_) (fun h84 => ?_)
  · have _q := h84
    refine jx_rt (v := none) rfl rfl rfl rfl rfl rfl ?_
    exact ⟨F, rfl, rfl, hC, hM0, trivial⟩
  · have _q := h84
    have ho85 : own m (p) ∧ tg (p) = 8 := y_p.resolve_left h84
    have k86 := SN_p n_p h84
    have hE87 := hE (by omega)
    refine jx_ld (pc_q := 5) (l_q := L0) (st_q := [rv (p)]) rfl (jl_rvn g83) ?_
    refine cx_gr (pc_q := 8) (c := 7) (q := 3) (v := F (p) (3 : Int)) rfl rfl (by decide) (by decide) rfl rfl ho85.1 ho85.2 rfl ?_
    have y88 : F (p) (3 : Int) = 0 ∨ (own m (F (p) (3 : Int)) ∧ tg (F (p) (3 : Int)) = 7) := by have z := HC_r (c := 7) (q := 3) hC ho85.1 ho85.2 (by decide) rfl; rw [show F (p) ((3 : Nat) : Int) = F (p) (3 : Int) from rfl] at z; exact z
    refine cx_nul (pc_q := 11) (tg_q := 18) rfl rfl rfl (fun h89 => ?_) (fun h89 => ?_)
    · have _q := h89
      refine jx_rt (v := none) rfl rfl rfl rfl rfl rfl ?_
      exact ⟨F, rfl, rfl, hC, hM0, trivial⟩
    · have _q := h89
      have ho90 : own m (F (p) (3 : Int)) ∧ tg (F (p) (3 : Int)) = 7 := y88.resolve_left h89
      refine jx_ld (pc_q := 12) (l_q := L0) (st_q := [rv (me)]) rfl (jl_rvn g82) ?_
      refine cx_gi (pc_q := 15) (c := 1) (q := 11) (v := F (me) (11 : Int)) rfl rfl (by decide) (by decide) (Or.inr rfl) rfl o_me t_me rfl ?_
      have b91 : (0 : Int) ≤ F (me) (11 : Int) ∧ F (me) (11 : Int) ≤ 1 := by have z := HC_i (c := 1) (q := 11) hC o_me t_me (by decide) rfl; rw [show F (me) ((11 : Nat) : Int) = F (me) (11 : Int) from rfl] at z; exact z
      refine jx_if_eq (pc_q := 18) (tg := 19) rfl rfl rfl (by omega) (by omega) (fun h92 => ?_) (fun h92 => ?_)
      · have _q := h92
        refine jx_ld (pc_q := 20) (l_q := L0) (st_q := [rv (p)]) rfl (jl_rvn g83) ?_
        refine cx_gr (pc_q := 23) (c := 7) (q := 3) (v := F (p) (3 : Int)) rfl rfl (by decide) (by decide) rfl rfl ho85.1 ho85.2 rfl ?_
        refine jx_ld (pc_q := 24) (l_q := jSto1 L0 2 (rv (F (p) (3 : Int)))) (st_q := []) rfl (js_rvn (by decide)) ?_
        obtain ⟨L93, eL93⟩ : ∃ q : jL, q = jSto1 L0 2 (rv (F (p) (3 : Int))) := ⟨_, rfl⟩
        rw [← eL93]
        have g94 : jGet L93 0 = some (rv (me)) := eL93 ▸ jg_nr (by decide) g82
        have g95 : jGet L93 1 = some (rv (p)) := eL93 ▸ jg_nr (by decide) g83
        have g96 : jGet L93 2 = some (rv (F (p) (3 : Int))) := eL93 ▸ jg_eq
        clear eL93
        refine jx_ld (pc_q := 25) (l_q := L93) (st_q := [rv (p)]) rfl (jl_rvn g95) ?_
        refine cx_gr (pc_q := 28) (c := 7) (q := 4) (v := F (p) (4 : Int)) rfl rfl (by decide) (by decide) rfl rfl ho85.1 ho85.2 rfl ?_
        have y97 : F (p) (4 : Int) = 0 ∨ (own m (F (p) (4 : Int)) ∧ tg (F (p) (4 : Int)) = 8) := by have z := HC_r (c := 7) (q := 4) hC ho85.1 ho85.2 (by decide) rfl; rw [show F (p) ((4 : Nat) : Int) = F (p) (4 : Int) from rfl] at z; exact z
        refine cx_nul (pc_q := 31) (tg_q := 54) rfl rfl rfl (fun h98 => ?_) (fun h98 => ?_)
        · have _q := h98
          exact k_LCoder_address_at_54 (X := X) (kk := kk) (hE := hE) (d := d) (R := R) (m := m) (tg := tg) (ln := ln) (F := F) (me := me) (p := p) (hd := hd) (hC := hC) (o_me := o_me) (t_me := t_me) (y_p := y_p) (c_NT := c_NT) (n_p := n_p) L93 F (F (p) (3 : Int)) g94 g95 g96 hC hM0 (Or.inr ⟨ho90.1, ho90.2⟩) (by omega) (by omega)
        · have _q := h98
          have ho99 : own m (F (p) (4 : Int)) ∧ tg (F (p) (4 : Int)) = 8 := y97.resolve_left h98
          have k100 := SN_p (SN_c hC c_NT n_p (own_z ho85.1) (by omega)) h98
          refine jx_ld (pc_q := 32) (l_q := L93) (st_q := [rv (me)]) rfl (jl_rvn g94) ?_
          refine jx_ld (pc_q := 33) (l_q := L93) (st_q := [rv (p), rv (me)]) rfl (jl_rvn g95) ?_
          refine cx_gr (pc_q := 36) (c := 7) (q := 4) (v := F (p) (4 : Int)) rfl rfl (by decide) (by decide) rfl rfl ho85.1 ho85.2 rfl ?_
          refine cx_vi (c := 1) (a := me) (st := []) (as := [rv (F (p) (4 : Int))]) rfl rfl rfl o_me t_me (by decide) rfl ⟨rfl, rfl, (Nat.le_of_ble_eq_true rfl)⟩ rfl (hE87 (dd := d) (R := R) (m := m) (tg := tg) (ln := ln) (F := F) (me := me) (e := F (p) (4 : Int)) (hd := by omega) (hC := hC) (o_me := o_me) (t_me := t_me) (y_e := (Or.inr ⟨ho99.1, ho99.2⟩)) (c_NT := c_NT) (n_e := (SN_w (k_q := kk - 1) (SN_c hC c_NT n_p (own_z ho85.1) (by omega)) (by omega)))) (fun o V_q hq => ?_)
          obtain ⟨F101, rfl, rfl, hC102, hM103, -⟩ := hq
          have hM104 : Fq 0 [(2, 7), (2, 8), (2, 11), (20, -5), (21, -5)] m tg F F101 := Fq_t (ln := ln) (ln1 := ln) hM0 Ex_r hM103 (by decide) (Or.inl rfl)
          refine Or.inl ⟨rfl, ?_⟩
          refine jx_ld (pc_q := 40) (l_q := L93) (st_q := [rv (me)]) rfl (jl_rvn g94) ?_
          refine jx_ar (pc_q := 41) (st_q := [.int (i32 (4)), rv (me)]) rfl rfl rfl rfl ?_
          refine jx_ld (pc_q := 42) (l_q := L93) (st_q := [rv (F (p) (3 : Int)), .int (i32 (4)), rv (me)]) rfl (jl_rvn g96) ?_
          refine cx_gi (pc_q := 45) (c := 6) (q := 3) (v := F (F (p) (3 : Int)) (3 : Int)) rfl rfl (by decide) (by decide) (Or.inl rfl) rfl ho90.1 ho90.2 (show F101 (F (p) (3 : Int)) (3 : Int) = F (F (p) (3 : Int)) (3 : Int) from hM103 _ _ ho90.1 (own_z ho90.1) (by rw [ho90.2]; rfl)) ?_
          have b105 : (-2147483648 : Int) ≤ F (F (p) (3 : Int)) (3 : Int) ∧ F (F (p) (3 : Int)) (3 : Int) ≤ 2147483647 := by have z := HC_i (c := 6) (q := 3) hC102 ho90.1 ho90.2 (by decide) rfl; rw [show F101 (F (p) (3 : Int)) ((3 : Nat) : Int) = F (F (p) (3 : Int)) (3 : Int) from (show F101 (F (p) (3 : Int)) (3 : Int) = F (F (p) (3 : Int)) (3 : Int) from hM103 _ _ ho90.1 (own_z ho90.1) (by rw [ho90.2]; rfl))] at z; exact z
          refine cx_vi (c := 1) (a := me) (st := []) (as := [.int (i32 (4)), .int (i32 (F (F (p) (3 : Int)) (3 : Int)))]) rfl rfl rfl o_me t_me (by decide) rfl ⟨rfl, rfl, (Nat.le_of_ble_eq_true rfl)⟩ rfl (k_LCoder_emit (dd := d) (R := R) (m := m) (tg := tg) (ln := ln) (F := F101) (me := me) (fu := 4) (op := F (F (p) (3 : Int)) (3 : Int)) (hd := by omega) (hC := hC102) (o_me := o_me) (t_me := t_me) (h_fu := by omega) (h_op := by omega)) (fun o V_q hq => ?_)
          obtain ⟨F106, rfl, rfl, hC107, hM108, -⟩ := hq
          have hM109 : Fq 0 [(2, 7), (2, 8), (2, 11), (20, -5), (21, -5)] m tg F F106 := Fq_t (ln := ln) (ln1 := ln) hM104 Ex_r hM108 (by decide) (Or.inl rfl)
          refine Or.inl ⟨rfl, ?_⟩
          refine jx_ld (pc_q := 49) (l_q := L93) (st_q := [rv (me)]) rfl (jl_rvn g94) ?_
          refine jx_ar (pc_q := 51) (st_q := [.int (i32 (12)), rv (me)]) rfl rfl rfl rfl ?_
          refine cx_vi (c := 1) (a := me) (st := []) (as := [.int (i32 (12))]) rfl rfl rfl o_me t_me (by decide) rfl ⟨rfl, rfl, (Nat.le_of_ble_eq_true rfl)⟩ rfl (k_LCoder_operation (dd := d) (R := R) (m := m) (tg := tg) (ln := ln) (F := F106) (me := me) (op := 12) (hd := by omega) (hC := hC107) (o_me := o_me) (t_me := t_me) (h_op := by omega)) (fun o V_q hq => ?_)
          obtain ⟨F110, rfl, rfl, hC111, hM112, -⟩ := hq
          have hM113 : Fq 0 [(2, 7), (2, 8), (2, 11), (20, -5), (21, -5)] m tg F F110 := Fq_t (ln := ln) (ln1 := ln) hM109 Ex_r hM112 (by decide) (Or.inl rfl)
          refine Or.inl ⟨rfl, ?_⟩
          exact k_LCoder_address_at_54 (X := X) (kk := kk) (hE := hE) (d := d) (R := R) (m := m) (tg := tg) (ln := ln) (F := F) (me := me) (p := p) (hd := hd) (hC := hC) (o_me := o_me) (t_me := t_me) (y_p := y_p) (c_NT := c_NT) (n_p := n_p) L93 F110 (F (p) (3 : Int)) g94 g95 g96 hC111 hM113 (Or.inr ⟨ho90.1, ho90.2⟩) (by omega) (by omega)
      · have _q := h92
        refine jx_rt (v := none) rfl rfl rfl rfl rfl rfl ?_
        exact ⟨F, rfl, rfl, hC, hM0, trivial⟩
set_option maxRecDepth 20000 in
set_option maxHeartbeats 4000000 in
theorem k_LCoder_valueOfPart {X : jX} {kk : Nat} (hE : 1 ≤ kk → CVx X (kk - 1)) {dd : Nat} {R : Nat → jC} {m : Nat} {tg ln : Int → Int} {F : Int → Int → Int} {me p : Int} (hd : 3 * kk + 7 ≤ dd) (hC : HC 0 m tg ln F) (o_me : own m me) (t_me : tg me = 2) (o_p : own m p) (t_p : tg p = 8) (c_NT : NT m tg F) (n_p : SN m tg F p (kk)) : wk X dd 60 [rv me, rv p] (cV R m tg ln F) (fun o V_q => ∃ (F_q : Int → Int → Int), V_q = cV R m tg ln F_q ∧ o = .inl none ∧ HC 0 m tg ln F_q ∧ Fq 0 [(2, 7), (2, 8), (2, 11), (20, -5), (21, -5)] m tg F F_q ∧ True) := by
  obtain ⟨d, rfl⟩ : ∃ d, dd = d + 1 := ⟨dd - 1, by omega⟩
  refine wk_of (e := jm60) rfl (by rw [jS_r, jS_r, jS_0]; exact Nat.le_of_ble_eq_true rfl) ?_
  rw [la_r, la_r, la_0]
  show wj X d jm60 (0, [(0, rv (me)), (1, rv (p))], [], cV R m tg ln F) _
  have hM0 : Fq 0 [(2, 7), (2, 8), (2, 11), (20, -5), (21, -5)] m tg F F := Fq_r
  obtain ⟨L0, eL0⟩ : ∃ q : jL, q = [(0, rv (me)), (1, rv (p))] := ⟨_, rfl⟩
  rw [← eL0]
  have g1 : jGet L0 0 = some (rv (me)) := eL0 ▸ (rfl : jGet [(0, rv (me)), (1, rv (p))] 0 = some (rv (me)))
  have g2 : jGet L0 1 = some (rv (p)) := eL0 ▸ (rfl : jGet [(0, rv (me)), (1, rv (p))] 1 = some (rv (p)))
  clear eL0
  have k3 := SN_p n_p (own_z o_p)
  have hE4 := hE (by omega)
  refine jx_ld (pc_q := 1) (l_q := L0) (st_q := [rv (p)]) rfl (jl_rvn g2) ?_
  refine cx_gr (pc_q := 4) (c := 7) (q := 3) (v := F (p) (3 : Int)) rfl rfl (by decide) (by decide) rfl rfl o_p t_p rfl ?_
  have y5 : F (p) (3 : Int) = 0 ∨ (own m (F (p) (3 : Int)) ∧ tg (F (p) (3 : Int)) = 7) := by have z := HC_r (c := 7) (q := 3) hC o_p t_p (by decide) rfl; rw [show F (p) ((3 : Nat) : Int) = F (p) (3 : Int) from rfl] at z; exact z
  refine jx_ld (pc_q := 5) (l_q := jSto1 L0 2 (rv (F (p) (3 : Int)))) (st_q := []) rfl (js_rvn (by decide)) ?_
  obtain ⟨L6, eL6⟩ : ∃ q : jL, q = jSto1 L0 2 (rv (F (p) (3 : Int))) := ⟨_, rfl⟩
  rw [← eL6]
  have g7 : jGet L6 0 = some (rv (me)) := eL6 ▸ jg_nr (by decide) g1
  have g8 : jGet L6 1 = some (rv (p)) := eL6 ▸ jg_nr (by decide) g2
  have g9 : jGet L6 2 = some (rv (F (p) (3 : Int))) := eL6 ▸ jg_eq
  clear eL6
  refine jx_ld (pc_q := 6) (l_q := L6) (st_q := [rv (F (p) (3 : Int))]) rfl (jl_rvn g9) ?_
  refine cx_non (pc_q := 9) (tg_q := 10) rfl rfl rfl (fun h10 => ?_) (fun h10 => ?_)
  · have _q := h10
    have ho11 : own m (F (p) (3 : Int)) ∧ tg (F (p) (3 : Int)) = 7 := y5.resolve_left h10
    refine jx_ld (pc_q := 11) (l_q := L6) (st_q := [rv (F (p) (3 : Int))]) rfl (jl_rvn g9) ?_
    refine cx_gi (pc_q := 14) (c := 6) (q := 0) (v := F (F (p) (3 : Int)) (0 : Int)) rfl rfl (by decide) (by decide) (Or.inl rfl) rfl ho11.1 ho11.2 rfl ?_
    have b12 : (-2147483648 : Int) ≤ F (F (p) (3 : Int)) (0 : Int) ∧ F (F (p) (3 : Int)) (0 : Int) ≤ 2147483647 := by have z := HC_i (c := 6) (q := 0) hC ho11.1 ho11.2 (by decide) rfl; rw [show F (F (p) (3 : Int)) ((0 : Nat) : Int) = F (F (p) (3 : Int)) (0 : Int) from rfl] at z; exact z
    refine jx_ar (pc_q := 15) (st_q := [.int (i32 (4)), .int (i32 (F (F (p) (3 : Int)) (0 : Int)))]) rfl rfl rfl rfl ?_
    refine jx_icmp_ne (pc_q := 18) (tg := 30) rfl rfl rfl (by omega) (by omega) (by decide) (by decide) (fun h13 => ?_) (fun h13 => ?_)
    · have _q := h13
      refine jx_ld (pc_q := 31) (l_q := L6) (st_q := [rv (F (p) (3 : Int))]) rfl (jl_rvn g9) ?_
      refine cx_gi (pc_q := 34) (c := 6) (q := 0) (v := F (F (p) (3 : Int)) (0 : Int)) rfl rfl (by decide) (by decide) (Or.inl rfl) rfl ho11.1 ho11.2 rfl ?_
      refine jx_ar (pc_q := 35) (st_q := [.int (i32 (2)), .int (i32 (F (F (p) (3 : Int)) (0 : Int)))]) rfl rfl rfl rfl ?_
      refine jx_icmp_eq (pc_q := 38) (tg := 45) rfl rfl rfl (by omega) (by omega) (by decide) (by decide) (fun h14 => ?_) (fun h14 => ?_)
      · have _q := h14
        refine jx_ld (pc_q := 46) (l_q := L6) (st_q := [rv (me)]) rfl (jl_rvn g7) ?_
        refine jx_ld (pc_q := 47) (l_q := L6) (st_q := [rv (p), rv (me)]) rfl (jl_rvn g8) ?_
        refine cx_vi (c := 1) (a := me) (st := []) (as := [rv (p)]) rfl rfl rfl o_me t_me (by decide) rfl ⟨rfl, rfl, (Nat.le_of_ble_eq_true rfl)⟩ rfl (k_LCoder_address (dd := d) (R := R) (m := m) (tg := tg) (ln := ln) (F := F) (kk := kk) (hE := hE) (me := me) (p := p) (hd := by omega) (hC := hC) (o_me := o_me) (t_me := t_me) (y_p := (Or.inr ⟨o_p, t_p⟩)) (c_NT := c_NT) (n_p := (SN_w n_p (by omega)))) (fun o V_q hq => ?_)
        obtain ⟨F15, rfl, rfl, hC16, hM17, -⟩ := hq
        have hM18 : Fq 0 [(2, 7), (2, 8), (2, 11), (20, -5), (21, -5)] m tg F F15 := Fq_t (ln := ln) (ln1 := ln) hM0 Ex_r hM17 (by decide) (Or.inl rfl)
        refine Or.inl ⟨rfl, ?_⟩
        refine jx_ld (pc_q := 51) (l_q := L6) (st_q := [rv (me)]) rfl (jl_rvn g7) ?_
        refine jx_ar (pc_q := 52) (st_q := [.int (i32 (3)), rv (me)]) rfl rfl rfl rfl ?_
        refine jx_ar (pc_q := 53) (st_q := [.int (i32 (0)), .int (i32 (3)), rv (me)]) rfl rfl rfl rfl ?_
        refine cx_vi (c := 1) (a := me) (st := []) (as := [.int (i32 (3)), .int (i32 (0))]) rfl rfl rfl o_me t_me (by decide) rfl ⟨rfl, rfl, (Nat.le_of_ble_eq_true rfl)⟩ rfl (k_LCoder_emit (dd := d) (R := R) (m := m) (tg := tg) (ln := ln) (F := F15) (me := me) (fu := 3) (op := 0) (hd := by omega) (hC := hC16) (o_me := o_me) (t_me := t_me) (h_fu := by omega) (h_op := by omega)) (fun o V_q hq => ?_)
        obtain ⟨F19, rfl, rfl, hC20, hM21, -⟩ := hq
        have hM22 : Fq 0 [(2, 7), (2, 8), (2, 11), (20, -5), (21, -5)] m tg F F19 := Fq_t (ln := ln) (ln1 := ln) hM18 Ex_r hM21 (by decide) (Or.inl rfl)
        refine Or.inl ⟨rfl, ?_⟩
        refine jx_go (tg := 70) rfl rfl ?_
        refine jx_rt (v := none) rfl rfl rfl rfl rfl rfl ?_
        exact ⟨F19, rfl, rfl, hC20, hM22, trivial⟩
      · have _q := h14
        refine jx_ld (pc_q := 39) (l_q := L6) (st_q := [rv (p)]) rfl (jl_rvn g8) ?_
        refine cx_gr (pc_q := 42) (c := 7) (q := 4) (v := F (p) (4 : Int)) rfl rfl (by decide) (by decide) rfl rfl o_p t_p rfl ?_
        have y23 : F (p) (4 : Int) = 0 ∨ (own m (F (p) (4 : Int)) ∧ tg (F (p) (4 : Int)) = 8) := by have z := HC_r (c := 7) (q := 4) hC o_p t_p (by decide) rfl; rw [show F (p) ((4 : Nat) : Int) = F (p) (4 : Int) from rfl] at z; exact z
        refine cx_nul (pc_q := 45) (tg_q := 59) rfl rfl rfl (fun h24 => ?_) (fun h24 => ?_)
        · have _q := h24
          refine jx_ld (pc_q := 60) (l_q := L6) (st_q := [rv (me)]) rfl (jl_rvn g7) ?_
          refine jx_ar (pc_q := 62) (st_q := [.int (i32 (7)), rv (me)]) rfl rfl rfl rfl ?_
          refine jx_ld (pc_q := 63) (l_q := L6) (st_q := [rv (me), .int (i32 (7)), rv (me)]) rfl (jl_rvn g7) ?_
          refine jx_ld (pc_q := 64) (l_q := L6) (st_q := [rv (F (p) (3 : Int)), rv (me), .int (i32 (7)), rv (me)]) rfl (jl_rvn g9) ?_
          refine cx_vi (c := 1) (a := me) (st := [.int (i32 (7)), rv (me)]) (as := [rv (F (p) (3 : Int))]) rfl rfl rfl o_me t_me (by decide) rfl ⟨rfl, rfl, (by rw [jS_i, jS_r, jS_0]; exact Nat.le_of_ble_eq_true rfl)⟩ rfl (k_LCoder_wordOf (dd := d) (R := R) (m := m) (tg := tg) (ln := ln) (F := F) (me := me) (nm := F (p) (3 : Int)) (hd := by omega) (hC := hC) (o_me := o_me) (t_me := t_me) (o_nm := ho11.1) (t_nm := ho11.2)) (fun o V_q hq => ?_)
          obtain ⟨r25, rfl, rfl, b26, -⟩ := hq
          refine Or.inr (Or.inl ⟨_, rfl, ?_⟩)
          refine cx_vi (c := 1) (a := me) (st := []) (as := [.int (i32 (7)), .int (i32 (r25))]) rfl rfl rfl o_me t_me (by decide) rfl ⟨rfl, rfl, (Nat.le_of_ble_eq_true rfl)⟩ rfl (k_LCoder_emit (dd := d) (R := R) (m := m) (tg := tg) (ln := ln) (F := F) (me := me) (fu := 7) (op := r25) (hd := by omega) (hC := hC) (o_me := o_me) (t_me := t_me) (h_fu := by omega) (h_op := by omega)) (fun o V_q hq => ?_)
          obtain ⟨F27, rfl, rfl, hC28, hM29, -⟩ := hq
          have hM30 : Fq 0 [(2, 7), (2, 8), (2, 11), (20, -5), (21, -5)] m tg F F27 := Fq_t (ln := ln) (ln1 := ln) hM0 Ex_r hM29 (by decide) (Or.inl rfl)
          refine Or.inl ⟨rfl, ?_⟩
          refine jx_rt (v := none) rfl rfl rfl rfl rfl rfl ?_
          exact ⟨F27, rfl, rfl, hC28, hM30, trivial⟩
        · have _q := h24
          have ho31 : own m (F (p) (4 : Int)) ∧ tg (F (p) (4 : Int)) = 8 := y23.resolve_left h24
          have k32 := SN_p (SN_c hC c_NT n_p (own_z o_p) (by omega)) h24
          refine jx_ld (pc_q := 46) (l_q := L6) (st_q := [rv (me)]) rfl (jl_rvn g7) ?_
          refine jx_ld (pc_q := 47) (l_q := L6) (st_q := [rv (p), rv (me)]) rfl (jl_rvn g8) ?_
          refine cx_vi (c := 1) (a := me) (st := []) (as := [rv (p)]) rfl rfl rfl o_me t_me (by decide) rfl ⟨rfl, rfl, (Nat.le_of_ble_eq_true rfl)⟩ rfl (k_LCoder_address (dd := d) (R := R) (m := m) (tg := tg) (ln := ln) (F := F) (kk := kk) (hE := hE) (me := me) (p := p) (hd := by omega) (hC := hC) (o_me := o_me) (t_me := t_me) (y_p := (Or.inr ⟨o_p, t_p⟩)) (c_NT := c_NT) (n_p := (SN_w n_p (by omega)))) (fun o V_q hq => ?_)
          obtain ⟨F33, rfl, rfl, hC34, hM35, -⟩ := hq
          have hM36 : Fq 0 [(2, 7), (2, 8), (2, 11), (20, -5), (21, -5)] m tg F F33 := Fq_t (ln := ln) (ln1 := ln) hM0 Ex_r hM35 (by decide) (Or.inl rfl)
          refine Or.inl ⟨rfl, ?_⟩
          refine jx_ld (pc_q := 51) (l_q := L6) (st_q := [rv (me)]) rfl (jl_rvn g7) ?_
          refine jx_ar (pc_q := 52) (st_q := [.int (i32 (3)), rv (me)]) rfl rfl rfl rfl ?_
          refine jx_ar (pc_q := 53) (st_q := [.int (i32 (0)), .int (i32 (3)), rv (me)]) rfl rfl rfl rfl ?_
          refine cx_vi (c := 1) (a := me) (st := []) (as := [.int (i32 (3)), .int (i32 (0))]) rfl rfl rfl o_me t_me (by decide) rfl ⟨rfl, rfl, (Nat.le_of_ble_eq_true rfl)⟩ rfl (k_LCoder_emit (dd := d) (R := R) (m := m) (tg := tg) (ln := ln) (F := F33) (me := me) (fu := 3) (op := 0) (hd := by omega) (hC := hC34) (o_me := o_me) (t_me := t_me) (h_fu := by omega) (h_op := by omega)) (fun o V_q hq => ?_)
          obtain ⟨F37, rfl, rfl, hC38, hM39, -⟩ := hq
          have hM40 : Fq 0 [(2, 7), (2, 8), (2, 11), (20, -5), (21, -5)] m tg F F37 := Fq_t (ln := ln) (ln1 := ln) hM36 Ex_r hM39 (by decide) (Or.inl rfl)
          refine Or.inl ⟨rfl, ?_⟩
          refine jx_go (tg := 70) rfl rfl ?_
          refine jx_rt (v := none) rfl rfl rfl rfl rfl rfl ?_
          exact ⟨F37, rfl, rfl, hC38, hM40, trivial⟩
    · have _q := h13
      refine jx_ld (pc_q := 19) (l_q := L6) (st_q := [rv (me)]) rfl (jl_rvn g7) ?_
      refine jx_ar (pc_q := 20) (st_q := [.int (i32 (4)), rv (me)]) rfl rfl rfl rfl ?_
      refine jx_ld (pc_q := 21) (l_q := L6) (st_q := [rv (F (p) (3 : Int)), .int (i32 (4)), rv (me)]) rfl (jl_rvn g9) ?_
      refine cx_gi (pc_q := 24) (c := 6) (q := 9) (v := F (F (p) (3 : Int)) (9 : Int)) rfl rfl (by decide) (by decide) (Or.inl rfl) rfl ho11.1 ho11.2 rfl ?_
      have b41 : (-2147483648 : Int) ≤ F (F (p) (3 : Int)) (9 : Int) ∧ F (F (p) (3 : Int)) (9 : Int) ≤ 2147483647 := by have z := HC_i (c := 6) (q := 9) hC ho11.1 ho11.2 (by decide) rfl; rw [show F (F (p) (3 : Int)) ((9 : Nat) : Int) = F (F (p) (3 : Int)) (9 : Int) from rfl] at z; exact z
      refine cx_vi (c := 1) (a := me) (st := []) (as := [.int (i32 (4)), .int (i32 (F (F (p) (3 : Int)) (9 : Int)))]) rfl rfl rfl o_me t_me (by decide) rfl ⟨rfl, rfl, (Nat.le_of_ble_eq_true rfl)⟩ rfl (k_LCoder_emit (dd := d) (R := R) (m := m) (tg := tg) (ln := ln) (F := F) (me := me) (fu := 4) (op := F (F (p) (3 : Int)) (9 : Int)) (hd := by omega) (hC := hC) (o_me := o_me) (t_me := t_me) (h_fu := by omega) (h_op := by omega)) (fun o V_q hq => ?_)
      obtain ⟨F42, rfl, rfl, hC43, hM44, -⟩ := hq
      have hM45 : Fq 0 [(2, 7), (2, 8), (2, 11), (20, -5), (21, -5)] m tg F F42 := Fq_t (ln := ln) (ln1 := ln) hM0 Ex_r hM44 (by decide) (Or.inl rfl)
      refine Or.inl ⟨rfl, ?_⟩
      refine jx_go (tg := 70) rfl rfl ?_
      refine jx_rt (v := none) rfl rfl rfl rfl rfl rfl ?_
      exact ⟨F42, rfl, rfl, hC43, hM45, trivial⟩
  · have _q := h10
    refine jx_rt (v := none) rfl rfl rfl rfl rfl rfl ?_
    exact ⟨F, rfl, rfl, hC, hM0, trivial⟩
set_option maxRecDepth 20000 in
set_option maxHeartbeats 4000000 in
theorem k_LCoder_logical_at_68 {X : jX} {kk : Nat} (hE : 1 ≤ kk → CVx X (kk - 1)) {d : Nat} {R : Nat → jC} {m : Nat} {tg ln : Int → Int} {F : Int → Int → Int} {me e : Int} (hd : 3 * kk + 6 ≤ d + 1) (hC : HC 0 m tg ln F) (o_me : own m me) (t_me : tg me = 2) (o_e : own m e) (t_e : tg e = 8) (c_NT : NT m tg F) (n_e : SN m tg F e (kk)) : ∀ (L : jL) (Fx : Int → Int → Int) (en : Int), jGet L 0 = some (rv (me)) → jGet L 1 = some (rv (e)) → jGet L 2 = some (.int (i32 en)) → HC 0 m tg ln Fx → Fq 0 [(2, 7), (2, 8), (2, 11), (20, -5), (21, -5)] m tg F Fx → ((-2147483648 : Int) ≤ en ∧ en ≤ 2147483647) → wj X d jm64 (68, L, [], cV R m tg ln Fx) (fun o V_q => ∃ (F_q : Int → Int → Int), V_q = cV R m tg ln F_q ∧ o = .inl none ∧ HC 0 m tg ln F_q ∧ Fq 0 [(2, 7), (2, 8), (2, 11), (20, -5), (21, -5)] m tg F F_q ∧ True) := by
  intro L Fx en gL_0 gL_1 gL_2 hCx hMx rx_en
  have k1 := SN_p n_e (own_z o_e)
  have hE2 := hE (by omega)
  refine jx_ld (pc_q := 69) (l_q := L) (st_q := [rv (me)]) rfl (jl_rvn gL_0) ?_
  refine jx_ld (pc_q := 70) (l_q := L) (st_q := [.int (i32 (en)), rv (me)]) rfl (jl_iloadn gL_2) ?_
  refine cx_vi (c := 1) (a := me) (st := []) (as := [.int (i32 (en))]) rfl rfl rfl o_me t_me (by decide) rfl ⟨rfl, rfl, (Nat.le_of_ble_eq_true rfl)⟩ rfl (k_LCoder_here (dd := d) (R := R) (m := m) (tg := tg) (ln := ln) (F := Fx) (me := me) (lb := en) (hd := by omega) (hC := hCx) (o_me := o_me) (t_me := t_me) (h_lb := by omega)) (fun o V_q hq => ?_)
  obtain ⟨F3, rfl, rfl, hC4, hM5, -⟩ := hq
  have hM6 : Fq 0 [(2, 7), (2, 8), (2, 11), (20, -5), (21, -5)] m tg F F3 := Fq_t (ln := ln) (ln1 := ln) hMx Ex_r hM5 (by decide) (Or.inl rfl)
  refine Or.inl ⟨rfl, ?_⟩
  refine jx_ld (pc_q := 74) (l_q := L) (st_q := [rv (e)]) rfl (jl_rvn gL_1) ?_
  refine cx_gi (pc_q := 77) (c := 7) (q := 2) (v := F (e) (2 : Int)) rfl rfl (by decide) (by decide) (Or.inl rfl) rfl o_e t_e ((show F3 (e) (2 : Int) = Fx (e) (2 : Int) from hM5 _ _ o_e (own_z o_e) (by rw [t_e]; rfl)).trans (show Fx (e) (2 : Int) = F (e) (2 : Int) from hMx _ _ o_e (own_z o_e) (by rw [t_e]; rfl))) ?_
  have b7 : (-2147483648 : Int) ≤ F (e) (2 : Int) ∧ F (e) (2 : Int) ≤ 2147483647 := by have z := HC_i (c := 7) (q := 2) hC4 o_e t_e (by decide) rfl; rw [show F3 (e) ((2 : Nat) : Int) = F (e) (2 : Int) from ((show F3 (e) (2 : Int) = Fx (e) (2 : Int) from hM5 _ _ o_e (own_z o_e) (by rw [t_e]; rfl)).trans (show Fx (e) (2 : Int) = F (e) (2 : Int) from hMx _ _ o_e (own_z o_e) (by rw [t_e]; rfl)))] at z; exact z
  refine jx_ar (pc_q := 79) (st_q := [.int (i32 (27)), .int (i32 (F (e) (2 : Int)))]) rfl rfl rfl rfl ?_
  refine jx_icmp_ne (pc_q := 82) (tg := 89) rfl rfl rfl (by omega) (by omega) (by decide) (by decide) (fun h8 => ?_) (fun h8 => ?_)
  · have _q := h8
    refine jx_rt (v := none) rfl rfl rfl rfl rfl rfl ?_
    exact ⟨F3, rfl, rfl, hC4, hM6, trivial⟩
  · have _q := h8
    refine jx_ld (pc_q := 83) (l_q := L) (st_q := [rv (me)]) rfl (jl_rvn gL_0) ?_
    refine jx_ar (pc_q := 85) (st_q := [.int (i32 (12)), rv (me)]) rfl rfl rfl rfl ?_
    refine jx_ar (pc_q := 86) (st_q := [.int (i32 (0)), .int (i32 (12)), rv (me)]) rfl rfl rfl rfl ?_
    refine cx_vi (c := 1) (a := me) (st := []) (as := [.int (i32 (12)), .int (i32 (0))]) rfl rfl rfl o_me t_me (by decide) rfl ⟨rfl, rfl, (Nat.le_of_ble_eq_true rfl)⟩ rfl (k_LCoder_emit (dd := d) (R := R) (m := m) (tg := tg) (ln := ln) (F := F3) (me := me) (fu := 12) (op := 0) (hd := by omega) (hC := hC4) (o_me := o_me) (t_me := t_me) (h_fu := by omega) (h_op := by omega)) (fun o V_q hq => ?_)
    obtain ⟨F9, rfl, rfl, hC10, hM11, -⟩ := hq
    have hM12 : Fq 0 [(2, 7), (2, 8), (2, 11), (20, -5), (21, -5)] m tg F F9 := Fq_t (ln := ln) (ln1 := ln) hM6 Ex_r hM11 (by decide) (Or.inl rfl)
    refine Or.inl ⟨rfl, ?_⟩
    refine jx_rt (v := none) rfl rfl rfl rfl rfl rfl ?_
    exact ⟨F9, rfl, rfl, hC10, hM12, trivial⟩
set_option maxRecDepth 20000 in
set_option maxHeartbeats 4000000 in
theorem k_LCoder_logical_at_29 {X : jX} {kk : Nat} (hE : 1 ≤ kk → CVx X (kk - 1)) {d : Nat} {R : Nat → jC} {m : Nat} {tg ln : Int → Int} {F : Int → Int → Int} {me e : Int} (hd : 3 * kk + 6 ≤ d + 1) (hC : HC 0 m tg ln F) (o_me : own m me) (t_me : tg me = 2) (o_e : own m e) (t_e : tg e = 8) (c_NT : NT m tg F) (n_e : SN m tg F e (kk)) : ∀ (L : jL) (Fx : Int → Int → Int) (en : Int), jGet L 0 = some (rv (me)) → jGet L 1 = some (rv (e)) → jGet L 2 = some (.int (i32 en)) → HC 0 m tg ln Fx → Fq 0 [(2, 7), (2, 8), (2, 11), (20, -5), (21, -5)] m tg F Fx → ((-2147483648 : Int) ≤ en ∧ en ≤ 2147483647) → wj X d jm64 (29, L, [], cV R m tg ln Fx) (fun o V_q => ∃ (F_q : Int → Int → Int), V_q = cV R m tg ln F_q ∧ o = .inl none ∧ HC 0 m tg ln F_q ∧ Fq 0 [(2, 7), (2, 8), (2, 11), (20, -5), (21, -5)] m tg F F_q ∧ True) := by
  intro L Fx en gL_0 gL_1 gL_2 hCx hMx rx_en
  have k13 := SN_p n_e (own_z o_e)
  have hE14 := hE (by omega)
  refine jx_ld (pc_q := 30) (l_q := L) (st_q := [rv (me)]) rfl (jl_rvn gL_0) ?_
  refine jx_ar (pc_q := 32) (st_q := [.int (i32 (10)), rv (me)]) rfl rfl rfl rfl ?_
  refine jx_ld (pc_q := 33) (l_q := L) (st_q := [.int (i32 (en)), .int (i32 (10)), rv (me)]) rfl (jl_iloadn gL_2) ?_
  refine jx_ar (pc_q := 34) (st_q := [.int (i32 (-1)), .int (i32 (en)), .int (i32 (10)), rv (me)]) rfl rfl rfl rfl ?_
  refine cx_vi (c := 1) (a := me) (st := []) (as := [.int (i32 (10)), .int (i32 (en)), .int (i32 (-1))]) rfl rfl rfl o_me t_me (by decide) rfl ⟨rfl, rfl, (Nat.le_of_ble_eq_true rfl)⟩ rfl (k_LCoder_way (dd := d) (R := R) (m := m) (tg := tg) (ln := ln) (F := Fx) (me := me) (fu := 10) (lb := en) (og := -1) (hd := by omega) (hC := hCx) (o_me := o_me) (t_me := t_me) (h_fu := by omega) (h_lb := by omega) (h_og := by omega)) (fun o V_q hq => ?_)
  obtain ⟨F15, rfl, rfl, hC16, hM17, -⟩ := hq
  have hM18 : Fq 0 [(2, 7), (2, 8), (2, 11), (20, -5), (21, -5)] m tg F F15 := Fq_t (ln := ln) (ln1 := ln) hMx Ex_r hM17 (by decide) (Or.inl rfl)
  refine Or.inl ⟨rfl, ?_⟩
  refine jx_ld (pc_q := 38) (l_q := L) (st_q := [rv (me)]) rfl (jl_rvn gL_0) ?_
  refine jx_ld (pc_q := 39) (l_q := L) (st_q := [rv (e), rv (me)]) rfl (jl_rvn gL_1) ?_
  refine cx_gr (pc_q := 42) (c := 7) (q := 5) (v := F (e) (5 : Int)) rfl rfl (by decide) (by decide) rfl rfl o_e t_e ((show F15 (e) (5 : Int) = Fx (e) (5 : Int) from hM17 _ _ o_e (own_z o_e) (by rw [t_e]; rfl)).trans (show Fx (e) (5 : Int) = F (e) (5 : Int) from hMx _ _ o_e (own_z o_e) (by rw [t_e]; rfl))) ?_
  have y19 : F (e) (5 : Int) = 0 ∨ (own m (F (e) (5 : Int)) ∧ tg (F (e) (5 : Int)) = 8) := by have z := HC_r (c := 7) (q := 5) hC16 o_e t_e (by decide) rfl; rw [show F15 (e) ((5 : Nat) : Int) = F (e) (5 : Int) from ((show F15 (e) (5 : Int) = Fx (e) (5 : Int) from hM17 _ _ o_e (own_z o_e) (by rw [t_e]; rfl)).trans (show Fx (e) (5 : Int) = F (e) (5 : Int) from hMx _ _ o_e (own_z o_e) (by rw [t_e]; rfl)))] at z; exact z
  refine cx_vi (c := 1) (a := me) (st := []) (as := [rv (F (e) (5 : Int))]) rfl rfl rfl o_me t_me (by decide) rfl ⟨rfl, rfl, (Nat.le_of_ble_eq_true rfl)⟩ rfl (hE14 (dd := d) (R := R) (m := m) (tg := tg) (ln := ln) (F := F15) (me := me) (e := F (e) (5 : Int)) (hd := by omega) (hC := hC16) (o_me := o_me) (t_me := t_me) (y_e := y19) (c_NT := NT_q hC c_NT hM18 rfl) (n_e := (SN_q (SN_w (k_q := kk - 1) (SN_c hC c_NT n_e (own_z o_e) (by omega)) (by omega)) hM18 rfl rfl))) (fun o V_q hq => ?_)
  obtain ⟨F20, rfl, rfl, hC21, hM22, -⟩ := hq
  have hM23 : Fq 0 [(2, 7), (2, 8), (2, 11), (20, -5), (21, -5)] m tg F F20 := Fq_t (ln := ln) (ln1 := ln) hM18 Ex_r hM22 (by decide) (Or.inl rfl)
  refine Or.inl ⟨rfl, ?_⟩
  refine jx_ld (pc_q := 46) (l_q := L) (st_q := [rv (me)]) rfl (jl_rvn gL_0) ?_
  refine jx_ar (pc_q := 48) (st_q := [.int (i32 (12)), rv (me)]) rfl rfl rfl rfl ?_
  refine jx_ar (pc_q := 49) (st_q := [.int (i32 (0)), .int (i32 (12)), rv (me)]) rfl rfl rfl rfl ?_
  refine cx_vi (c := 1) (a := me) (st := []) (as := [.int (i32 (12)), .int (i32 (0))]) rfl rfl rfl o_me t_me (by decide) rfl ⟨rfl, rfl, (Nat.le_of_ble_eq_true rfl)⟩ rfl (k_LCoder_emit (dd := d) (R := R) (m := m) (tg := tg) (ln := ln) (F := F20) (me := me) (fu := 12) (op := 0) (hd := by omega) (hC := hC21) (o_me := o_me) (t_me := t_me) (h_fu := by omega) (h_op := by omega)) (fun o V_q hq => ?_)
  obtain ⟨F24, rfl, rfl, hC25, hM26, -⟩ := hq
  have hM27 : Fq 0 [(2, 7), (2, 8), (2, 11), (20, -5), (21, -5)] m tg F F24 := Fq_t (ln := ln) (ln1 := ln) hM23 Ex_r hM26 (by decide) (Or.inl rfl)
  refine Or.inl ⟨rfl, ?_⟩
  refine jx_ld (pc_q := 53) (l_q := L) (st_q := [rv (e)]) rfl (jl_rvn gL_1) ?_
  refine cx_gi (pc_q := 56) (c := 7) (q := 2) (v := F (e) (2 : Int)) rfl rfl (by decide) (by decide) (Or.inl rfl) rfl o_e t_e ((show F24 (e) (2 : Int) = F20 (e) (2 : Int) from hM26 _ _ o_e (own_z o_e) (by rw [t_e]; rfl)).trans ((show F20 (e) (2 : Int) = F15 (e) (2 : Int) from hM22 _ _ o_e (own_z o_e) (by rw [t_e]; rfl)).trans ((show F15 (e) (2 : Int) = Fx (e) (2 : Int) from hM17 _ _ o_e (own_z o_e) (by rw [t_e]; rfl)).trans (show Fx (e) (2 : Int) = F (e) (2 : Int) from hMx _ _ o_e (own_z o_e) (by rw [t_e]; rfl))))) ?_
  have b28 : (-2147483648 : Int) ≤ F (e) (2 : Int) ∧ F (e) (2 : Int) ≤ 2147483647 := by have z := HC_i (c := 7) (q := 2) hC25 o_e t_e (by decide) rfl; rw [show F24 (e) ((2 : Nat) : Int) = F (e) (2 : Int) from ((show F24 (e) (2 : Int) = F20 (e) (2 : Int) from hM26 _ _ o_e (own_z o_e) (by rw [t_e]; rfl)).trans ((show F20 (e) (2 : Int) = F15 (e) (2 : Int) from hM22 _ _ o_e (own_z o_e) (by rw [t_e]; rfl)).trans ((show F15 (e) (2 : Int) = Fx (e) (2 : Int) from hM17 _ _ o_e (own_z o_e) (by rw [t_e]; rfl)).trans (show Fx (e) (2 : Int) = F (e) (2 : Int) from hMx _ _ o_e (own_z o_e) (by rw [t_e]; rfl)))))] at z; exact z
  refine jx_ar (pc_q := 58) (st_q := [.int (i32 (26)), .int (i32 (F (e) (2 : Int)))]) rfl rfl rfl rfl ?_
  refine jx_icmp_ne (pc_q := 61) (tg := 68) rfl rfl rfl (by omega) (by omega) (by decide) (by decide) (fun h29 => ?_) (fun h29 => ?_)
  · have _q := h29
    exact k_LCoder_logical_at_68 (X := X) (kk := kk) (hE := hE) (d := d) (R := R) (m := m) (tg := tg) (ln := ln) (F := F) (me := me) (e := e) (hd := hd) (hC := hC) (o_me := o_me) (t_me := t_me) (o_e := o_e) (t_e := t_e) (c_NT := c_NT) (n_e := n_e) L F24 (en) gL_0 gL_1 gL_2 hC25 hM27 (by omega)
  · have _q := h29
    refine jx_ld (pc_q := 62) (l_q := L) (st_q := [rv (me)]) rfl (jl_rvn gL_0) ?_
    refine jx_ar (pc_q := 64) (st_q := [.int (i32 (12)), rv (me)]) rfl rfl rfl rfl ?_
    refine jx_ar (pc_q := 65) (st_q := [.int (i32 (0)), .int (i32 (12)), rv (me)]) rfl rfl rfl rfl ?_
    refine cx_vi (c := 1) (a := me) (st := []) (as := [.int (i32 (12)), .int (i32 (0))]) rfl rfl rfl o_me t_me (by decide) rfl ⟨rfl, rfl, (Nat.le_of_ble_eq_true rfl)⟩ rfl (k_LCoder_emit (dd := d) (R := R) (m := m) (tg := tg) (ln := ln) (F := F24) (me := me) (fu := 12) (op := 0) (hd := by omega) (hC := hC25) (o_me := o_me) (t_me := t_me) (h_fu := by omega) (h_op := by omega)) (fun o V_q hq => ?_)
    obtain ⟨F30, rfl, rfl, hC31, hM32, -⟩ := hq
    have hM33 : Fq 0 [(2, 7), (2, 8), (2, 11), (20, -5), (21, -5)] m tg F F30 := Fq_t (ln := ln) (ln1 := ln) hM27 Ex_r hM32 (by decide) (Or.inl rfl)
    refine Or.inl ⟨rfl, ?_⟩
    exact k_LCoder_logical_at_68 (X := X) (kk := kk) (hE := hE) (d := d) (R := R) (m := m) (tg := tg) (ln := ln) (F := F) (me := me) (e := e) (hd := hd) (hC := hC) (o_me := o_me) (t_me := t_me) (o_e := o_e) (t_e := t_e) (c_NT := c_NT) (n_e := n_e) L F30 (en) gL_0 gL_1 gL_2 hC31 hM33 (by omega)
set_option maxRecDepth 20000 in
set_option maxHeartbeats 4000000 in
theorem k_LCoder_logical {X : jX} {kk : Nat} (hE : 1 ≤ kk → CVx X (kk - 1)) {dd : Nat} {R : Nat → jC} {m : Nat} {tg ln : Int → Int} {F : Int → Int → Int} {me e : Int} (hd : 3 * kk + 6 ≤ dd) (hC : HC 0 m tg ln F) (o_me : own m me) (t_me : tg me = 2) (o_e : own m e) (t_e : tg e = 8) (c_NT : NT m tg F) (n_e : SN m tg F e (kk)) : wk X dd 64 [rv me, rv e] (cV R m tg ln F) (fun o V_q => ∃ (F_q : Int → Int → Int), V_q = cV R m tg ln F_q ∧ o = .inl none ∧ HC 0 m tg ln F_q ∧ Fq 0 [(2, 7), (2, 8), (2, 11), (20, -5), (21, -5)] m tg F F_q ∧ True) := by
  obtain ⟨d, rfl⟩ : ∃ d, dd = d + 1 := ⟨dd - 1, by omega⟩
  refine wk_of (e := jm64) rfl (by rw [jS_r, jS_r, jS_0]; exact Nat.le_of_ble_eq_true rfl) ?_
  rw [la_r, la_r, la_0]
  show wj X d jm64 (0, [(0, rv (me)), (1, rv (e))], [], cV R m tg ln F) _
  have hM0 : Fq 0 [(2, 7), (2, 8), (2, 11), (20, -5), (21, -5)] m tg F F := Fq_r
  obtain ⟨L0, eL0⟩ : ∃ q : jL, q = [(0, rv (me)), (1, rv (e))] := ⟨_, rfl⟩
  rw [← eL0]
  have g34 : jGet L0 0 = some (rv (me)) := eL0 ▸ (rfl : jGet [(0, rv (me)), (1, rv (e))] 0 = some (rv (me)))
  have g35 : jGet L0 1 = some (rv (e)) := eL0 ▸ (rfl : jGet [(0, rv (me)), (1, rv (e))] 1 = some (rv (e)))
  clear eL0
  have k36 := SN_p n_e (own_z o_e)
  have hE37 := hE (by omega)
  refine jx_ld (pc_q := 1) (l_q := L0) (st_q := [rv (me)]) rfl (jl_rvn g34) ?_
  refine cx_vi (c := 1) (a := me) (st := []) (as := []) rfl rfl rfl o_me t_me (by decide) rfl ⟨rfl, rfl, (Nat.le_of_ble_eq_true rfl)⟩ rfl (k_LCoder_newLabel (dd := d) (R := R) (m := m) (tg := tg) (ln := ln) (F := F) (me := me) (hd := by omega) (hC := hC) (o_me := o_me) (t_me := t_me)) (fun o V_q hq => ?_)
  obtain ⟨F38, r39, rfl, rfl, hC40, hM41, b42, -⟩ := hq
  have hM43 : Fq 0 [(2, 7), (2, 8), (2, 11), (20, -5), (21, -5)] m tg F F38 := Fq_t (ln := ln) (ln1 := ln) hM0 Ex_r hM41 (by decide) (Or.inl rfl)
  refine Or.inr (Or.inl ⟨_, rfl, ?_⟩)
  refine jx_ld (pc_q := 5) (l_q := jSto1 L0 2 (.int (i32 (r39)))) (st_q := []) rfl rfl ?_
  obtain ⟨L44, eL44⟩ : ∃ q : jL, q = jSto1 L0 2 (.int (i32 (r39))) := ⟨_, rfl⟩
  rw [← eL44]
  have g45 : jGet L44 0 = some (rv (me)) := eL44 ▸ jg_nr (by decide) g34
  have g46 : jGet L44 1 = some (rv (e)) := eL44 ▸ jg_nr (by decide) g35
  have g47 : jGet L44 2 = some (.int (i32 (r39))) := eL44 ▸ jg_eq
  clear eL44
  refine jx_ld (pc_q := 6) (l_q := L44) (st_q := [rv (me)]) rfl (jl_rvn g45) ?_
  refine jx_ld (pc_q := 7) (l_q := L44) (st_q := [rv (e), rv (me)]) rfl (jl_rvn g46) ?_
  refine cx_gr (pc_q := 10) (c := 7) (q := 4) (v := F (e) (4 : Int)) rfl rfl (by decide) (by decide) rfl rfl o_e t_e (show F38 (e) (4 : Int) = F (e) (4 : Int) from hM41 _ _ o_e (own_z o_e) (by rw [t_e]; rfl)) ?_
  have y48 : F (e) (4 : Int) = 0 ∨ (own m (F (e) (4 : Int)) ∧ tg (F (e) (4 : Int)) = 8) := by have z := HC_r (c := 7) (q := 4) hC40 o_e t_e (by decide) rfl; rw [show F38 (e) ((4 : Nat) : Int) = F (e) (4 : Int) from (show F38 (e) (4 : Int) = F (e) (4 : Int) from hM41 _ _ o_e (own_z o_e) (by rw [t_e]; rfl))] at z; exact z
  refine cx_vi (c := 1) (a := me) (st := []) (as := [rv (F (e) (4 : Int))]) rfl rfl rfl o_me t_me (by decide) rfl ⟨rfl, rfl, (Nat.le_of_ble_eq_true rfl)⟩ rfl (hE37 (dd := d) (R := R) (m := m) (tg := tg) (ln := ln) (F := F38) (me := me) (e := F (e) (4 : Int)) (hd := by omega) (hC := hC40) (o_me := o_me) (t_me := t_me) (y_e := y48) (c_NT := NT_q hC c_NT hM43 rfl) (n_e := (SN_q (SN_w (k_q := kk - 1) (SN_c hC c_NT n_e (own_z o_e) (by omega)) (by omega)) hM43 rfl rfl))) (fun o V_q hq => ?_)
  obtain ⟨F49, rfl, rfl, hC50, hM51, -⟩ := hq
  have hM52 : Fq 0 [(2, 7), (2, 8), (2, 11), (20, -5), (21, -5)] m tg F F49 := Fq_t (ln := ln) (ln1 := ln) hM43 Ex_r hM51 (by decide) (Or.inl rfl)
  refine Or.inl ⟨rfl, ?_⟩
  refine jx_ld (pc_q := 14) (l_q := L44) (st_q := [rv (e)]) rfl (jl_rvn g46) ?_
  refine cx_gi (pc_q := 17) (c := 7) (q := 2) (v := F (e) (2 : Int)) rfl rfl (by decide) (by decide) (Or.inl rfl) rfl o_e t_e ((show F49 (e) (2 : Int) = F38 (e) (2 : Int) from hM51 _ _ o_e (own_z o_e) (by rw [t_e]; rfl)).trans (show F38 (e) (2 : Int) = F (e) (2 : Int) from hM41 _ _ o_e (own_z o_e) (by rw [t_e]; rfl))) ?_
  have b53 : (-2147483648 : Int) ≤ F (e) (2 : Int) ∧ F (e) (2 : Int) ≤ 2147483647 := by have z := HC_i (c := 7) (q := 2) hC50 o_e t_e (by decide) rfl; rw [show F49 (e) ((2 : Nat) : Int) = F (e) (2 : Int) from ((show F49 (e) (2 : Int) = F38 (e) (2 : Int) from hM51 _ _ o_e (own_z o_e) (by rw [t_e]; rfl)).trans (show F38 (e) (2 : Int) = F (e) (2 : Int) from hM41 _ _ o_e (own_z o_e) (by rw [t_e]; rfl)))] at z; exact z
  refine jx_ar (pc_q := 19) (st_q := [.int (i32 (27)), .int (i32 (F (e) (2 : Int)))]) rfl rfl rfl rfl ?_
  refine jx_icmp_ne (pc_q := 22) (tg := 29) rfl rfl rfl (by omega) (by omega) (by decide) (by decide) (fun h54 => ?_) (fun h54 => ?_)
  · have _q := h54
    exact k_LCoder_logical_at_29 (X := X) (kk := kk) (hE := hE) (d := d) (R := R) (m := m) (tg := tg) (ln := ln) (F := F) (me := me) (e := e) (hd := hd) (hC := hC) (o_me := o_me) (t_me := t_me) (o_e := o_e) (t_e := t_e) (c_NT := c_NT) (n_e := n_e) L44 F49 (r39) g45 g46 g47 hC50 hM52 (by omega)
  · have _q := h54
    refine jx_ld (pc_q := 23) (l_q := L44) (st_q := [rv (me)]) rfl (jl_rvn g45) ?_
    refine jx_ar (pc_q := 25) (st_q := [.int (i32 (12)), rv (me)]) rfl rfl rfl rfl ?_
    refine jx_ar (pc_q := 26) (st_q := [.int (i32 (0)), .int (i32 (12)), rv (me)]) rfl rfl rfl rfl ?_
    refine cx_vi (c := 1) (a := me) (st := []) (as := [.int (i32 (12)), .int (i32 (0))]) rfl rfl rfl o_me t_me (by decide) rfl ⟨rfl, rfl, (Nat.le_of_ble_eq_true rfl)⟩ rfl (k_LCoder_emit (dd := d) (R := R) (m := m) (tg := tg) (ln := ln) (F := F49) (me := me) (fu := 12) (op := 0) (hd := by omega) (hC := hC50) (o_me := o_me) (t_me := t_me) (h_fu := by omega) (h_op := by omega)) (fun o V_q hq => ?_)
    obtain ⟨F55, rfl, rfl, hC56, hM57, -⟩ := hq
    have hM58 : Fq 0 [(2, 7), (2, 8), (2, 11), (20, -5), (21, -5)] m tg F F55 := Fq_t (ln := ln) (ln1 := ln) hM52 Ex_r hM57 (by decide) (Or.inl rfl)
    refine Or.inl ⟨rfl, ?_⟩
    exact k_LCoder_logical_at_29 (X := X) (kk := kk) (hE := hE) (d := d) (R := R) (m := m) (tg := tg) (ln := ln) (F := F) (me := me) (e := e) (hd := hd) (hC := hC) (o_me := o_me) (t_me := t_me) (o_e := o_e) (t_e := t_e) (c_NT := c_NT) (n_e := n_e) L44 F55 (r39) g45 g46 g47 hC56 hM58 (by omega)
set_option maxRecDepth 20000 in
set_option maxHeartbeats 4000000 in
theorem k_LCoder_binary {X : jX} {kk : Nat} (hE : 1 ≤ kk → CVx X (kk - 1)) {dd : Nat} {R : Nat → jC} {m : Nat} {tg ln : Int → Int} {F : Int → Int → Int} {me e : Int} (hd : 3 * kk + 7 ≤ dd) (hC : HC 0 m tg ln F) (o_me : own m me) (t_me : tg me = 2) (o_e : own m e) (t_e : tg e = 8) (c_NT : NT m tg F) (n_e : SN m tg F e (kk)) : wk X dd 63 [rv me, rv e] (cV R m tg ln F) (fun o V_q => ∃ (F_q : Int → Int → Int), V_q = cV R m tg ln F_q ∧ o = .inl none ∧ HC 0 m tg ln F_q ∧ Fq 0 [(2, 7), (2, 8), (2, 11), (20, -5), (21, -5)] m tg F F_q ∧ True) := by
  obtain ⟨d, rfl⟩ : ∃ d, dd = d + 1 := ⟨dd - 1, by omega⟩
  refine wk_of (e := jm63) rfl (by rw [jS_r, jS_r, jS_0]; exact Nat.le_of_ble_eq_true rfl) ?_
  rw [la_r, la_r, la_0]
  show wj X d jm63 (0, [(0, rv (me)), (1, rv (e))], [], cV R m tg ln F) _
  have hM0 : Fq 0 [(2, 7), (2, 8), (2, 11), (20, -5), (21, -5)] m tg F F := Fq_r
  obtain ⟨L0, eL0⟩ : ∃ q : jL, q = [(0, rv (me)), (1, rv (e))] := ⟨_, rfl⟩
  rw [← eL0]
  have g1 : jGet L0 0 = some (rv (me)) := eL0 ▸ (rfl : jGet [(0, rv (me)), (1, rv (e))] 0 = some (rv (me)))
  have g2 : jGet L0 1 = some (rv (e)) := eL0 ▸ (rfl : jGet [(0, rv (me)), (1, rv (e))] 1 = some (rv (e)))
  clear eL0
  have k3 := SN_p n_e (own_z o_e)
  have hE4 := hE (by omega)
  refine jx_ld (pc_q := 1) (l_q := L0) (st_q := [rv (e)]) rfl (jl_rvn g2) ?_
  refine cx_gi (pc_q := 4) (c := 7) (q := 2) (v := F (e) (2 : Int)) rfl rfl (by decide) (by decide) (Or.inl rfl) rfl o_e t_e rfl ?_
  have b5 : (-2147483648 : Int) ≤ F (e) (2 : Int) ∧ F (e) (2 : Int) ≤ 2147483647 := by have z := HC_i (c := 7) (q := 2) hC o_e t_e (by decide) rfl; rw [show F (e) ((2 : Nat) : Int) = F (e) (2 : Int) from rfl] at z; exact z
  refine jx_ar (pc_q := 6) (st_q := [.int (i32 (26)), .int (i32 (F (e) (2 : Int)))]) rfl rfl rfl rfl ?_
  refine jx_icmp_eq (pc_q := 9) (tg := 18) rfl rfl rfl (by omega) (by omega) (by decide) (by decide) (fun h6 => ?_) (fun h6 => ?_)
  · have _q := h6
    refine jx_ld (pc_q := 19) (l_q := L0) (st_q := [rv (me)]) rfl (jl_rvn g1) ?_
    refine jx_ld (pc_q := 20) (l_q := L0) (st_q := [rv (e), rv (me)]) rfl (jl_rvn g2) ?_
    refine cx_vi (c := 1) (a := me) (st := []) (as := [rv (e)]) rfl rfl rfl o_me t_me (by decide) rfl ⟨rfl, rfl, (Nat.le_of_ble_eq_true rfl)⟩ rfl (k_LCoder_logical (dd := d) (R := R) (m := m) (tg := tg) (ln := ln) (F := F) (kk := kk) (hE := hE) (me := me) (e := e) (hd := by omega) (hC := hC) (o_me := o_me) (t_me := t_me) (o_e := o_e) (t_e := t_e) (c_NT := c_NT) (n_e := (SN_w n_e (by omega)))) (fun o V_q hq => ?_)
    obtain ⟨F7, rfl, rfl, hC8, hM9, -⟩ := hq
    have hM10 : Fq 0 [(2, 7), (2, 8), (2, 11), (20, -5), (21, -5)] m tg F F7 := Fq_t (ln := ln) (ln1 := ln) hM0 Ex_r hM9 (by decide) (Or.inl rfl)
    refine Or.inl ⟨rfl, ?_⟩
    refine jx_go (tg := 104) rfl rfl ?_
    refine jx_rt (v := none) rfl rfl rfl rfl rfl rfl ?_
    exact ⟨F7, rfl, rfl, hC8, hM10, trivial⟩
  · have _q := h6
    refine jx_ld (pc_q := 10) (l_q := L0) (st_q := [rv (e)]) rfl (jl_rvn g2) ?_
    refine cx_gi (pc_q := 13) (c := 7) (q := 2) (v := F (e) (2 : Int)) rfl rfl (by decide) (by decide) (Or.inl rfl) rfl o_e t_e rfl ?_
    refine jx_ar (pc_q := 15) (st_q := [.int (i32 (27)), .int (i32 (F (e) (2 : Int)))]) rfl rfl rfl rfl ?_
    refine jx_icmp_ne (pc_q := 18) (tg := 26) rfl rfl rfl (by omega) (by omega) (by decide) (by decide) (fun h11 => ?_) (fun h11 => ?_)
    · have _q := h11
      refine jx_ld (pc_q := 27) (l_q := L0) (st_q := [rv (e)]) rfl (jl_rvn g2) ?_
      refine cx_st (st := []) (as := [rv (e)]) rfl rfl rfl ⟨rfl, (Nat.le_of_ble_eq_true rfl)⟩ rfl (k_LCoder_keepsRight (dd := d) (R := R) (m := m) (tg := tg) (ln := ln) (F := F) (e := e) (hd := by omega) (hC := hC) (o_e := o_e) (t_e := t_e)) (fun o V_q hq => ?_)
      obtain ⟨r12, rfl, rfl, b13, -⟩ := hq
      refine Or.inr (Or.inl ⟨_, rfl, ?_⟩)
      refine jx_if_eq (pc_q := 33) (tg := 80) rfl rfl rfl (by omega) (by omega) (fun h14 => ?_) (fun h14 => ?_)
      · have _q := h14
        refine jx_ld (pc_q := 81) (l_q := L0) (st_q := [rv (me)]) rfl (jl_rvn g1) ?_
        refine jx_ld (pc_q := 82) (l_q := L0) (st_q := [rv (e), rv (me)]) rfl (jl_rvn g2) ?_
        refine cx_gr (pc_q := 85) (c := 7) (q := 4) (v := F (e) (4 : Int)) rfl rfl (by decide) (by decide) rfl rfl o_e t_e rfl ?_
        have y15 : F (e) (4 : Int) = 0 ∨ (own m (F (e) (4 : Int)) ∧ tg (F (e) (4 : Int)) = 8) := by have z := HC_r (c := 7) (q := 4) hC o_e t_e (by decide) rfl; rw [show F (e) ((4 : Nat) : Int) = F (e) (4 : Int) from rfl] at z; exact z
        refine cx_vi (c := 1) (a := me) (st := []) (as := [rv (F (e) (4 : Int))]) rfl rfl rfl o_me t_me (by decide) rfl ⟨rfl, rfl, (Nat.le_of_ble_eq_true rfl)⟩ rfl (hE4 (dd := d) (R := R) (m := m) (tg := tg) (ln := ln) (F := F) (me := me) (e := F (e) (4 : Int)) (hd := by omega) (hC := hC) (o_me := o_me) (t_me := t_me) (y_e := y15) (c_NT := c_NT) (n_e := (SN_w (k_q := kk - 1) (SN_c hC c_NT n_e (own_z o_e) (by omega)) (by omega)))) (fun o V_q hq => ?_)
        obtain ⟨F16, rfl, rfl, hC17, hM18, -⟩ := hq
        have hM19 : Fq 0 [(2, 7), (2, 8), (2, 11), (20, -5), (21, -5)] m tg F F16 := Fq_t (ln := ln) (ln1 := ln) hM0 Ex_r hM18 (by decide) (Or.inl rfl)
        refine Or.inl ⟨rfl, ?_⟩
        refine jx_ld (pc_q := 89) (l_q := L0) (st_q := [rv (me)]) rfl (jl_rvn g1) ?_
        refine jx_ld (pc_q := 90) (l_q := L0) (st_q := [rv (e), rv (me)]) rfl (jl_rvn g2) ?_
        refine cx_gr (pc_q := 93) (c := 7) (q := 5) (v := F (e) (5 : Int)) rfl rfl (by decide) (by decide) rfl rfl o_e t_e (show F16 (e) (5 : Int) = F (e) (5 : Int) from hM18 _ _ o_e (own_z o_e) (by rw [t_e]; rfl)) ?_
        have y20 : F (e) (5 : Int) = 0 ∨ (own m (F (e) (5 : Int)) ∧ tg (F (e) (5 : Int)) = 8) := by have z := HC_r (c := 7) (q := 5) hC17 o_e t_e (by decide) rfl; rw [show F16 (e) ((5 : Nat) : Int) = F (e) (5 : Int) from (show F16 (e) (5 : Int) = F (e) (5 : Int) from hM18 _ _ o_e (own_z o_e) (by rw [t_e]; rfl))] at z; exact z
        refine cx_vi (c := 1) (a := me) (st := []) (as := [rv (F (e) (5 : Int))]) rfl rfl rfl o_me t_me (by decide) rfl ⟨rfl, rfl, (Nat.le_of_ble_eq_true rfl)⟩ rfl (hE4 (dd := d) (R := R) (m := m) (tg := tg) (ln := ln) (F := F16) (me := me) (e := F (e) (5 : Int)) (hd := by omega) (hC := hC17) (o_me := o_me) (t_me := t_me) (y_e := y20) (c_NT := NT_q hC c_NT hM19 rfl) (n_e := (SN_q (SN_w (k_q := kk - 1) (SN_c hC c_NT n_e (own_z o_e) (by omega)) (by omega)) hM19 rfl rfl))) (fun o V_q hq => ?_)
        obtain ⟨F21, rfl, rfl, hC22, hM23, -⟩ := hq
        have hM24 : Fq 0 [(2, 7), (2, 8), (2, 11), (20, -5), (21, -5)] m tg F F21 := Fq_t (ln := ln) (ln1 := ln) hM19 Ex_r hM23 (by decide) (Or.inl rfl)
        refine Or.inl ⟨rfl, ?_⟩
        refine jx_ld (pc_q := 97) (l_q := L0) (st_q := [rv (me)]) rfl (jl_rvn g1) ?_
        refine jx_ld (pc_q := 98) (l_q := L0) (st_q := [rv (e), rv (me)]) rfl (jl_rvn g2) ?_
        refine cx_gi (pc_q := 101) (c := 7) (q := 2) (v := F (e) (2 : Int)) rfl rfl (by decide) (by decide) (Or.inl rfl) rfl o_e t_e ((show F21 (e) (2 : Int) = F16 (e) (2 : Int) from hM23 _ _ o_e (own_z o_e) (by rw [t_e]; rfl)).trans (show F16 (e) (2 : Int) = F (e) (2 : Int) from hM18 _ _ o_e (own_z o_e) (by rw [t_e]; rfl))) ?_
        refine cx_vi (c := 1) (a := me) (st := []) (as := [.int (i32 (F (e) (2 : Int)))]) rfl rfl rfl o_me t_me (by decide) rfl ⟨rfl, rfl, (Nat.le_of_ble_eq_true rfl)⟩ rfl (k_LCoder_operator (dd := d) (R := R) (m := m) (tg := tg) (ln := ln) (F := F21) (me := me) (tk := F (e) (2 : Int)) (hd := by omega) (hC := hC22) (o_me := o_me) (t_me := t_me) (h_tk := by omega)) (fun o V_q hq => ?_)
        obtain ⟨F25, rfl, rfl, hC26, hM27, -⟩ := hq
        have hM28 : Fq 0 [(2, 7), (2, 8), (2, 11), (20, -5), (21, -5)] m tg F F25 := Fq_t (ln := ln) (ln1 := ln) hM24 Ex_r hM27 (by decide) (Or.inl rfl)
        refine Or.inl ⟨rfl, ?_⟩
        refine jx_rt (v := none) rfl rfl rfl rfl rfl rfl ?_
        exact ⟨F25, rfl, rfl, hC26, hM28, trivial⟩
      · have _q := h14
        refine jx_ld (pc_q := 34) (l_q := L0) (st_q := [rv (me)]) rfl (jl_rvn g1) ?_
        refine jx_ld (pc_q := 35) (l_q := L0) (st_q := [rv (e), rv (me)]) rfl (jl_rvn g2) ?_
        refine cx_gr (pc_q := 38) (c := 7) (q := 5) (v := F (e) (5 : Int)) rfl rfl (by decide) (by decide) rfl rfl o_e t_e rfl ?_
        have y29 : F (e) (5 : Int) = 0 ∨ (own m (F (e) (5 : Int)) ∧ tg (F (e) (5 : Int)) = 8) := by have z := HC_r (c := 7) (q := 5) hC o_e t_e (by decide) rfl; rw [show F (e) ((5 : Nat) : Int) = F (e) (5 : Int) from rfl] at z; exact z
        refine cx_vi (c := 1) (a := me) (st := []) (as := [rv (F (e) (5 : Int))]) rfl rfl rfl o_me t_me (by decide) rfl ⟨rfl, rfl, (Nat.le_of_ble_eq_true rfl)⟩ rfl (hE4 (dd := d) (R := R) (m := m) (tg := tg) (ln := ln) (F := F) (me := me) (e := F (e) (5 : Int)) (hd := by omega) (hC := hC) (o_me := o_me) (t_me := t_me) (y_e := y29) (c_NT := c_NT) (n_e := (SN_w (k_q := kk - 1) (SN_c hC c_NT n_e (own_z o_e) (by omega)) (by omega)))) (fun o V_q hq => ?_)
        obtain ⟨F30, rfl, rfl, hC31, hM32, -⟩ := hq
        have hM33 : Fq 0 [(2, 7), (2, 8), (2, 11), (20, -5), (21, -5)] m tg F F30 := Fq_t (ln := ln) (ln1 := ln) hM0 Ex_r hM32 (by decide) (Or.inl rfl)
        refine Or.inl ⟨rfl, ?_⟩
        refine jx_ld (pc_q := 42) (l_q := L0) (st_q := [rv (me)]) rfl (jl_rvn g1) ?_
        refine jx_ar (pc_q := 44) (st_q := [.int (i32 (13)), rv (me)]) rfl rfl rfl rfl ?_
        refine jx_ld (pc_q := 45) (l_q := L0) (st_q := [rv (e), .int (i32 (13)), rv (me)]) rfl (jl_rvn g2) ?_
        refine cx_gi (pc_q := 48) (c := 7) (q := 10) (v := F (e) (10 : Int)) rfl rfl (by decide) (by decide) (Or.inl rfl) rfl o_e t_e (show F30 (e) (10 : Int) = F (e) (10 : Int) from hM32 _ _ o_e (own_z o_e) (by rw [t_e]; rfl)) ?_
        have b34 : (-2147483648 : Int) ≤ F (e) (10 : Int) ∧ F (e) (10 : Int) ≤ 2147483647 := by have z := HC_i (c := 7) (q := 10) hC31 o_e t_e (by decide) rfl; rw [show F30 (e) ((10 : Nat) : Int) = F (e) (10 : Int) from (show F30 (e) (10 : Int) = F (e) (10 : Int) from hM32 _ _ o_e (own_z o_e) (by rw [t_e]; rfl))] at z; exact z
        refine cx_vi (c := 1) (a := me) (st := []) (as := [.int (i32 (13)), .int (i32 (F (e) (10 : Int)))]) rfl rfl rfl o_me t_me (by decide) rfl ⟨rfl, rfl, (Nat.le_of_ble_eq_true rfl)⟩ rfl (k_LCoder_emit (dd := d) (R := R) (m := m) (tg := tg) (ln := ln) (F := F30) (me := me) (fu := 13) (op := F (e) (10 : Int)) (hd := by omega) (hC := hC31) (o_me := o_me) (t_me := t_me) (h_fu := by omega) (h_op := by omega)) (fun o V_q hq => ?_)
        obtain ⟨F35, rfl, rfl, hC36, hM37, -⟩ := hq
        have hM38 : Fq 0 [(2, 7), (2, 8), (2, 11), (20, -5), (21, -5)] m tg F F35 := Fq_t (ln := ln) (ln1 := ln) hM33 Ex_r hM37 (by decide) (Or.inl rfl)
        refine Or.inl ⟨rfl, ?_⟩
        refine jx_ld (pc_q := 52) (l_q := L0) (st_q := [rv (me)]) rfl (jl_rvn g1) ?_
        refine jx_ld (pc_q := 53) (l_q := L0) (st_q := [rv (e), rv (me)]) rfl (jl_rvn g2) ?_
        refine cx_gr (pc_q := 56) (c := 7) (q := 4) (v := F (e) (4 : Int)) rfl rfl (by decide) (by decide) rfl rfl o_e t_e ((show F35 (e) (4 : Int) = F30 (e) (4 : Int) from hM37 _ _ o_e (own_z o_e) (by rw [t_e]; rfl)).trans (show F30 (e) (4 : Int) = F (e) (4 : Int) from hM32 _ _ o_e (own_z o_e) (by rw [t_e]; rfl))) ?_
        have y39 : F (e) (4 : Int) = 0 ∨ (own m (F (e) (4 : Int)) ∧ tg (F (e) (4 : Int)) = 8) := by have z := HC_r (c := 7) (q := 4) hC36 o_e t_e (by decide) rfl; rw [show F35 (e) ((4 : Nat) : Int) = F (e) (4 : Int) from ((show F35 (e) (4 : Int) = F30 (e) (4 : Int) from hM37 _ _ o_e (own_z o_e) (by rw [t_e]; rfl)).trans (show F30 (e) (4 : Int) = F (e) (4 : Int) from hM32 _ _ o_e (own_z o_e) (by rw [t_e]; rfl)))] at z; exact z
        refine cx_vi (c := 1) (a := me) (st := []) (as := [rv (F (e) (4 : Int))]) rfl rfl rfl o_me t_me (by decide) rfl ⟨rfl, rfl, (Nat.le_of_ble_eq_true rfl)⟩ rfl (hE4 (dd := d) (R := R) (m := m) (tg := tg) (ln := ln) (F := F35) (me := me) (e := F (e) (4 : Int)) (hd := by omega) (hC := hC36) (o_me := o_me) (t_me := t_me) (y_e := y39) (c_NT := NT_q hC c_NT hM38 rfl) (n_e := (SN_q (SN_w (k_q := kk - 1) (SN_c hC c_NT n_e (own_z o_e) (by omega)) (by omega)) hM38 rfl rfl))) (fun o V_q hq => ?_)
        obtain ⟨F40, rfl, rfl, hC41, hM42, -⟩ := hq
        have hM43 : Fq 0 [(2, 7), (2, 8), (2, 11), (20, -5), (21, -5)] m tg F F40 := Fq_t (ln := ln) (ln1 := ln) hM38 Ex_r hM42 (by decide) (Or.inl rfl)
        refine Or.inl ⟨rfl, ?_⟩
        refine jx_ld (pc_q := 60) (l_q := L0) (st_q := [rv (me)]) rfl (jl_rvn g1) ?_
        refine jx_ar (pc_q := 62) (st_q := [.int (i32 (7)), rv (me)]) rfl rfl rfl rfl ?_
        refine jx_ld (pc_q := 63) (l_q := L0) (st_q := [rv (e), .int (i32 (7)), rv (me)]) rfl (jl_rvn g2) ?_
        refine cx_gi (pc_q := 66) (c := 7) (q := 10) (v := F (e) (10 : Int)) rfl rfl (by decide) (by decide) (Or.inl rfl) rfl o_e t_e ((show F40 (e) (10 : Int) = F35 (e) (10 : Int) from hM42 _ _ o_e (own_z o_e) (by rw [t_e]; rfl)).trans ((show F35 (e) (10 : Int) = F30 (e) (10 : Int) from hM37 _ _ o_e (own_z o_e) (by rw [t_e]; rfl)).trans (show F30 (e) (10 : Int) = F (e) (10 : Int) from hM32 _ _ o_e (own_z o_e) (by rw [t_e]; rfl)))) ?_
        refine cx_vi (c := 1) (a := me) (st := []) (as := [.int (i32 (7)), .int (i32 (F (e) (10 : Int)))]) rfl rfl rfl o_me t_me (by decide) rfl ⟨rfl, rfl, (Nat.le_of_ble_eq_true rfl)⟩ rfl (k_LCoder_emit (dd := d) (R := R) (m := m) (tg := tg) (ln := ln) (F := F40) (me := me) (fu := 7) (op := F (e) (10 : Int)) (hd := by omega) (hC := hC41) (o_me := o_me) (t_me := t_me) (h_fu := by omega) (h_op := by omega)) (fun o V_q hq => ?_)
        obtain ⟨F44, rfl, rfl, hC45, hM46, -⟩ := hq
        have hM47 : Fq 0 [(2, 7), (2, 8), (2, 11), (20, -5), (21, -5)] m tg F F44 := Fq_t (ln := ln) (ln1 := ln) hM43 Ex_r hM46 (by decide) (Or.inl rfl)
        refine Or.inl ⟨rfl, ?_⟩
        refine jx_ld (pc_q := 70) (l_q := L0) (st_q := [rv (me)]) rfl (jl_rvn g1) ?_
        refine jx_ld (pc_q := 71) (l_q := L0) (st_q := [rv (e), rv (me)]) rfl (jl_rvn g2) ?_
        refine cx_gi (pc_q := 74) (c := 7) (q := 2) (v := F (e) (2 : Int)) rfl rfl (by decide) (by decide) (Or.inl rfl) rfl o_e t_e ((show F44 (e) (2 : Int) = F40 (e) (2 : Int) from hM46 _ _ o_e (own_z o_e) (by rw [t_e]; rfl)).trans ((show F40 (e) (2 : Int) = F35 (e) (2 : Int) from hM42 _ _ o_e (own_z o_e) (by rw [t_e]; rfl)).trans ((show F35 (e) (2 : Int) = F30 (e) (2 : Int) from hM37 _ _ o_e (own_z o_e) (by rw [t_e]; rfl)).trans (show F30 (e) (2 : Int) = F (e) (2 : Int) from hM32 _ _ o_e (own_z o_e) (by rw [t_e]; rfl))))) ?_
        refine cx_vi (c := 1) (a := me) (st := []) (as := [.int (i32 (F (e) (2 : Int)))]) rfl rfl rfl o_me t_me (by decide) rfl ⟨rfl, rfl, (Nat.le_of_ble_eq_true rfl)⟩ rfl (k_LCoder_operator (dd := d) (R := R) (m := m) (tg := tg) (ln := ln) (F := F44) (me := me) (tk := F (e) (2 : Int)) (hd := by omega) (hC := hC45) (o_me := o_me) (t_me := t_me) (h_tk := by omega)) (fun o V_q hq => ?_)
        obtain ⟨F48, rfl, rfl, hC49, hM50, -⟩ := hq
        have hM51 : Fq 0 [(2, 7), (2, 8), (2, 11), (20, -5), (21, -5)] m tg F F48 := Fq_t (ln := ln) (ln1 := ln) hM47 Ex_r hM50 (by decide) (Or.inl rfl)
        refine Or.inl ⟨rfl, ?_⟩
        refine jx_go (tg := 104) rfl rfl ?_
        refine jx_rt (v := none) rfl rfl rfl rfl rfl rfl ?_
        exact ⟨F48, rfl, rfl, hC49, hM51, trivial⟩
    · have _q := h11
      refine jx_ld (pc_q := 19) (l_q := L0) (st_q := [rv (me)]) rfl (jl_rvn g1) ?_
      refine jx_ld (pc_q := 20) (l_q := L0) (st_q := [rv (e), rv (me)]) rfl (jl_rvn g2) ?_
      refine cx_vi (c := 1) (a := me) (st := []) (as := [rv (e)]) rfl rfl rfl o_me t_me (by decide) rfl ⟨rfl, rfl, (Nat.le_of_ble_eq_true rfl)⟩ rfl (k_LCoder_logical (dd := d) (R := R) (m := m) (tg := tg) (ln := ln) (F := F) (kk := kk) (hE := hE) (me := me) (e := e) (hd := by omega) (hC := hC) (o_me := o_me) (t_me := t_me) (o_e := o_e) (t_e := t_e) (c_NT := c_NT) (n_e := (SN_w n_e (by omega)))) (fun o V_q hq => ?_)
      obtain ⟨F52, rfl, rfl, hC53, hM54, -⟩ := hq
      have hM55 : Fq 0 [(2, 7), (2, 8), (2, 11), (20, -5), (21, -5)] m tg F F52 := Fq_t (ln := ln) (ln1 := ln) hM0 Ex_r hM54 (by decide) (Or.inl rfl)
      refine Or.inl ⟨rfl, ?_⟩
      refine jx_go (tg := 104) rfl rfl ?_
      refine jx_rt (v := none) rfl rfl rfl rfl rfl rfl ?_
      exact ⟨F52, rfl, rfl, hC53, hM55, trivial⟩
set_option maxRecDepth 20000 in
set_option maxHeartbeats 4000000 in
theorem k_LCoder_value {X : jX} {kk : Nat} (hE : 1 ≤ kk → CVx X (kk - 1)) {dd : Nat} {R : Nat → jC} {m : Nat} {tg ln : Int → Int} {F : Int → Int → Int} {me e : Int} (hd : 3 * kk + 8 ≤ dd) (hC : HC 0 m tg ln F) (o_me : own m me) (t_me : tg me = 2) (y_e : e = 0 ∨ (own m e ∧ tg e = 8)) (c_NT : NT m tg F) (n_e : SN m tg F e (kk)) : wk X dd 59 [rv me, rv e] (cV R m tg ln F) (fun o V_q => ∃ (F_q : Int → Int → Int), V_q = cV R m tg ln F_q ∧ o = .inl none ∧ HC 0 m tg ln F_q ∧ Fq 0 [(2, 7), (2, 8), (2, 11), (20, -5), (21, -5)] m tg F F_q ∧ True) := by
  obtain ⟨d, rfl⟩ : ∃ d, dd = d + 1 := ⟨dd - 1, by omega⟩
  refine wk_of (e := jm59) rfl (by rw [jS_r, jS_r, jS_0]; exact Nat.le_of_ble_eq_true rfl) ?_
  rw [la_r, la_r, la_0]
  show wj X d jm59 (0, [(0, rv (me)), (1, rv (e))], [], cV R m tg ln F) _
  have hM0 : Fq 0 [(2, 7), (2, 8), (2, 11), (20, -5), (21, -5)] m tg F F := Fq_r
  obtain ⟨L0, eL0⟩ : ∃ q : jL, q = [(0, rv (me)), (1, rv (e))] := ⟨_, rfl⟩
  rw [← eL0]
  have g1 : jGet L0 0 = some (rv (me)) := eL0 ▸ (rfl : jGet [(0, rv (me)), (1, rv (e))] 0 = some (rv (me)))
  have g2 : jGet L0 1 = some (rv (e)) := eL0 ▸ (rfl : jGet [(0, rv (me)), (1, rv (e))] 1 = some (rv (e)))
  clear eL0
  refine jx_ld (pc_q := 1) (l_q := L0) (st_q := [rv (e)]) rfl (jl_rvn g2) ?_
  refine cx_nul (pc_q := 4) (tg_q := 11) rfl rfl rfl (fun h3 => ?_) (fun h3 => ?_)
  · have _q := h3
    refine jx_rt (v := none) rfl rfl rfl rfl rfl rfl ?_
    exact ⟨F, rfl, rfl, hC, hM0, trivial⟩
  · have _q := h3
    have ho4 : own m (e) ∧ tg (e) = 8 := y_e.resolve_left h3
    have k5 := SN_p n_e h3
    have hE6 := hE (by omega)
    refine jx_ld (pc_q := 5) (l_q := L0) (st_q := [rv (me)]) rfl (jl_rvn g1) ?_
    refine cx_gi (pc_q := 8) (c := 1) (q := 11) (v := F (me) (11 : Int)) rfl rfl (by decide) (by decide) (Or.inr rfl) rfl o_me t_me rfl ?_
    have b7 : (0 : Int) ≤ F (me) (11 : Int) ∧ F (me) (11 : Int) ≤ 1 := by have z := HC_i (c := 1) (q := 11) hC o_me t_me (by decide) rfl; rw [show F (me) ((11 : Nat) : Int) = F (me) (11 : Int) from rfl] at z; exact z
    refine jx_if_eq (pc_q := 11) (tg := 12) rfl rfl rfl (by omega) (by omega) (fun h8 => ?_) (fun h8 => ?_)
    · have _q := h8
      refine jx_ld (pc_q := 13) (l_q := L0) (st_q := [rv (e)]) rfl (jl_rvn g2) ?_
      refine cx_gi (pc_q := 16) (c := 7) (q := 0) (v := F (e) (0 : Int)) rfl rfl (by decide) (by decide) (Or.inl rfl) rfl ho4.1 ho4.2 rfl ?_
      have b9 : (-2147483648 : Int) ≤ F (e) (0 : Int) ∧ F (e) (0 : Int) ≤ 2147483647 := by have z := HC_i (c := 7) (q := 0) hC ho4.1 ho4.2 (by decide) rfl; rw [show F (e) ((0 : Nat) : Int) = F (e) (0 : Int) from rfl] at z; exact z
      by_cases h10 : F (e) (0 : Int) = 20
      · refine jx_swe (tg := 52) h10 rfl rfl rfl rfl ?_
        refine jx_ld (pc_q := 53) (l_q := L0) (st_q := [rv (me)]) rfl (jl_rvn g1) ?_
        refine jx_ar (pc_q := 54) (st_q := [.int (i32 (4)), rv (me)]) rfl rfl rfl rfl ?_
        refine jx_ld (pc_q := 55) (l_q := L0) (st_q := [rv (e), .int (i32 (4)), rv (me)]) rfl (jl_rvn g2) ?_
        refine cx_gi (pc_q := 58) (c := 7) (q := 2) (v := F (e) (2 : Int)) rfl rfl (by decide) (by decide) (Or.inl rfl) rfl ho4.1 ho4.2 rfl ?_
        have b11 : (-2147483648 : Int) ≤ F (e) (2 : Int) ∧ F (e) (2 : Int) ≤ 2147483647 := by have z := HC_i (c := 7) (q := 2) hC ho4.1 ho4.2 (by decide) rfl; rw [show F (e) ((2 : Nat) : Int) = F (e) (2 : Int) from rfl] at z; exact z
        refine cx_vi (c := 1) (a := me) (st := []) (as := [.int (i32 (4)), .int (i32 (F (e) (2 : Int)))]) rfl rfl rfl o_me t_me (by decide) rfl ⟨rfl, rfl, (Nat.le_of_ble_eq_true rfl)⟩ rfl (k_LCoder_emit (dd := d) (R := R) (m := m) (tg := tg) (ln := ln) (F := F) (me := me) (fu := 4) (op := F (e) (2 : Int)) (hd := by omega) (hC := hC) (o_me := o_me) (t_me := t_me) (h_fu := by omega) (h_op := by omega)) (fun o V_q hq => ?_)
        obtain ⟨F12, rfl, rfl, hC13, hM14, -⟩ := hq
        have hM15 : Fq 0 [(2, 7), (2, 8), (2, 11), (20, -5), (21, -5)] m tg F F12 := Fq_t (ln := ln) (ln1 := ln) hM0 Ex_r hM14 (by decide) (Or.inl rfl)
        refine Or.inl ⟨rfl, ?_⟩
        refine jx_go (tg := 122) rfl rfl ?_
        refine jx_rt (v := none) rfl rfl rfl rfl rfl rfl ?_
        exact ⟨F12, rfl, rfl, hC13, hM15, trivial⟩
      by_cases h16 : F (e) (0 : Int) = 21
      · refine jx_swe (tg := 64) h16 rfl rfl rfl rfl ?_
        refine jx_ld (pc_q := 65) (l_q := L0) (st_q := [rv (me)]) rfl (jl_rvn g1) ?_
        refine jx_ld (pc_q := 66) (l_q := L0) (st_q := [rv (e), rv (me)]) rfl (jl_rvn g2) ?_
        refine cx_vi (c := 1) (a := me) (st := []) (as := [rv (e)]) rfl rfl rfl o_me t_me (by decide) rfl ⟨rfl, rfl, (Nat.le_of_ble_eq_true rfl)⟩ rfl (k_LCoder_valueOfPart (dd := d) (R := R) (m := m) (tg := tg) (ln := ln) (F := F) (kk := kk) (hE := hE) (me := me) (p := e) (hd := by omega) (hC := hC) (o_me := o_me) (t_me := t_me) (o_p := ho4.1) (t_p := ho4.2) (c_NT := c_NT) (n_p := (SN_w n_e (by omega)))) (fun o V_q hq => ?_)
        obtain ⟨F17, rfl, rfl, hC18, hM19, -⟩ := hq
        have hM20 : Fq 0 [(2, 7), (2, 8), (2, 11), (20, -5), (21, -5)] m tg F F17 := Fq_t (ln := ln) (ln1 := ln) hM0 Ex_r hM19 (by decide) (Or.inl rfl)
        refine Or.inl ⟨rfl, ?_⟩
        refine jx_go (tg := 122) rfl rfl ?_
        refine jx_rt (v := none) rfl rfl rfl rfl rfl rfl ?_
        exact ⟨F17, rfl, rfl, hC18, hM20, trivial⟩
      by_cases h21 : F (e) (0 : Int) = 22
      · refine jx_swe (tg := 117) h21 rfl rfl rfl rfl ?_
        refine jx_ld (pc_q := 118) (l_q := L0) (st_q := [rv (me)]) rfl (jl_rvn g1) ?_
        refine jx_ld (pc_q := 119) (l_q := L0) (st_q := [rv (e), rv (me)]) rfl (jl_rvn g2) ?_
        refine cx_vi (c := 1) (a := me) (st := []) (as := [rv (e)]) rfl rfl rfl o_me t_me (by decide) rfl ⟨rfl, rfl, (Nat.le_of_ble_eq_true rfl)⟩ rfl (k_LCoder_binary (dd := d) (R := R) (m := m) (tg := tg) (ln := ln) (F := F) (kk := kk) (hE := hE) (me := me) (e := e) (hd := by omega) (hC := hC) (o_me := o_me) (t_me := t_me) (o_e := ho4.1) (t_e := ho4.2) (c_NT := c_NT) (n_e := (SN_w n_e (by omega)))) (fun o V_q hq => ?_)
        obtain ⟨F22, rfl, rfl, hC23, hM24, -⟩ := hq
        have hM25 : Fq 0 [(2, 7), (2, 8), (2, 11), (20, -5), (21, -5)] m tg F F22 := Fq_t (ln := ln) (ln1 := ln) hM0 Ex_r hM24 (by decide) (Or.inl rfl)
        refine Or.inl ⟨rfl, ?_⟩
        refine jx_rt (v := none) rfl rfl rfl rfl rfl rfl ?_
        exact ⟨F22, rfl, rfl, hC23, hM25, trivial⟩
      by_cases h26 : F (e) (0 : Int) = 23
      · refine jx_swe (tg := 72) h26 rfl rfl rfl rfl ?_
        refine jx_ld (pc_q := 73) (l_q := L0) (st_q := [rv (me)]) rfl (jl_rvn g1) ?_
        refine jx_ld (pc_q := 74) (l_q := L0) (st_q := [rv (e), rv (me)]) rfl (jl_rvn g2) ?_
        refine cx_gr (pc_q := 77) (c := 7) (q := 4) (v := F (e) (4 : Int)) rfl rfl (by decide) (by decide) rfl rfl ho4.1 ho4.2 rfl ?_
        have y27 : F (e) (4 : Int) = 0 ∨ (own m (F (e) (4 : Int)) ∧ tg (F (e) (4 : Int)) = 8) := by have z := HC_r (c := 7) (q := 4) hC ho4.1 ho4.2 (by decide) rfl; rw [show F (e) ((4 : Nat) : Int) = F (e) (4 : Int) from rfl] at z; exact z
        refine cx_vi (c := 1) (a := me) (st := []) (as := [rv (F (e) (4 : Int))]) rfl rfl rfl o_me t_me (by decide) rfl ⟨rfl, rfl, (Nat.le_of_ble_eq_true rfl)⟩ rfl (hE6 (dd := d) (R := R) (m := m) (tg := tg) (ln := ln) (F := F) (me := me) (e := F (e) (4 : Int)) (hd := by omega) (hC := hC) (o_me := o_me) (t_me := t_me) (y_e := y27) (c_NT := c_NT) (n_e := (SN_w (k_q := kk - 1) (SN_c hC c_NT n_e (own_z ho4.1) (by omega)) (by omega)))) (fun o V_q hq => ?_)
        obtain ⟨F28, rfl, rfl, hC29, hM30, -⟩ := hq
        have hM31 : Fq 0 [(2, 7), (2, 8), (2, 11), (20, -5), (21, -5)] m tg F F28 := Fq_t (ln := ln) (ln1 := ln) hM0 Ex_r hM30 (by decide) (Or.inl rfl)
        refine Or.inl ⟨rfl, ?_⟩
        refine jx_ld (pc_q := 81) (l_q := L0) (st_q := [rv (me)]) rfl (jl_rvn g1) ?_
        refine jx_ar (pc_q := 82) (st_q := [.int (i32 (4)), rv (me)]) rfl rfl rfl rfl ?_
        refine jx_ar (pc_q := 83) (st_q := [.int (i32 (0)), .int (i32 (4)), rv (me)]) rfl rfl rfl rfl ?_
        refine cx_vi (c := 1) (a := me) (st := []) (as := [.int (i32 (4)), .int (i32 (0))]) rfl rfl rfl o_me t_me (by decide) rfl ⟨rfl, rfl, (Nat.le_of_ble_eq_true rfl)⟩ rfl (k_LCoder_emit (dd := d) (R := R) (m := m) (tg := tg) (ln := ln) (F := F28) (me := me) (fu := 4) (op := 0) (hd := by omega) (hC := hC29) (o_me := o_me) (t_me := t_me) (h_fu := by omega) (h_op := by omega)) (fun o V_q hq => ?_)
        obtain ⟨F32, rfl, rfl, hC33, hM34, -⟩ := hq
        have hM35 : Fq 0 [(2, 7), (2, 8), (2, 11), (20, -5), (21, -5)] m tg F F32 := Fq_t (ln := ln) (ln1 := ln) hM31 Ex_r hM34 (by decide) (Or.inl rfl)
        refine Or.inl ⟨rfl, ?_⟩
        refine jx_ld (pc_q := 87) (l_q := L0) (st_q := [rv (me)]) rfl (jl_rvn g1) ?_
        refine jx_ar (pc_q := 88) (st_q := [.int (i32 (0)), rv (me)]) rfl rfl rfl rfl ?_
        refine cx_vi (c := 1) (a := me) (st := []) (as := [.int (i32 (0))]) rfl rfl rfl o_me t_me (by decide) rfl ⟨rfl, rfl, (Nat.le_of_ble_eq_true rfl)⟩ rfl (k_LCoder_operation (dd := d) (R := R) (m := m) (tg := tg) (ln := ln) (F := F32) (me := me) (op := 0) (hd := by omega) (hC := hC33) (o_me := o_me) (t_me := t_me) (h_op := by omega)) (fun o V_q hq => ?_)
        obtain ⟨F36, rfl, rfl, hC37, hM38, -⟩ := hq
        have hM39 : Fq 0 [(2, 7), (2, 8), (2, 11), (20, -5), (21, -5)] m tg F F36 := Fq_t (ln := ln) (ln1 := ln) hM35 Ex_r hM38 (by decide) (Or.inl rfl)
        refine Or.inl ⟨rfl, ?_⟩
        refine jx_ld (pc_q := 92) (l_q := L0) (st_q := [rv (me)]) rfl (jl_rvn g1) ?_
        refine jx_ar (pc_q := 93) (st_q := [.int (i32 (2)), rv (me)]) rfl rfl rfl rfl ?_
        refine cx_vi (c := 1) (a := me) (st := []) (as := [.int (i32 (2))]) rfl rfl rfl o_me t_me (by decide) rfl ⟨rfl, rfl, (Nat.le_of_ble_eq_true rfl)⟩ rfl (k_LCoder_operation (dd := d) (R := R) (m := m) (tg := tg) (ln := ln) (F := F36) (me := me) (op := 2) (hd := by omega) (hC := hC37) (o_me := o_me) (t_me := t_me) (h_op := by omega)) (fun o V_q hq => ?_)
        obtain ⟨F40, rfl, rfl, hC41, hM42, -⟩ := hq
        have hM43 : Fq 0 [(2, 7), (2, 8), (2, 11), (20, -5), (21, -5)] m tg F F40 := Fq_t (ln := ln) (ln1 := ln) hM39 Ex_r hM42 (by decide) (Or.inl rfl)
        refine Or.inl ⟨rfl, ?_⟩
        refine jx_go (tg := 122) rfl rfl ?_
        refine jx_rt (v := none) rfl rfl rfl rfl rfl rfl ?_
        exact ⟨F40, rfl, rfl, hC41, hM43, trivial⟩
      by_cases h44 : F (e) (0 : Int) = 24
      · refine jx_swe (tg := 99) h44 rfl rfl rfl rfl ?_
        refine jx_ld (pc_q := 100) (l_q := L0) (st_q := [rv (me)]) rfl (jl_rvn g1) ?_
        refine jx_ld (pc_q := 101) (l_q := L0) (st_q := [rv (e), rv (me)]) rfl (jl_rvn g2) ?_
        refine cx_gr (pc_q := 104) (c := 7) (q := 4) (v := F (e) (4 : Int)) rfl rfl (by decide) (by decide) rfl rfl ho4.1 ho4.2 rfl ?_
        have y45 : F (e) (4 : Int) = 0 ∨ (own m (F (e) (4 : Int)) ∧ tg (F (e) (4 : Int)) = 8) := by have z := HC_r (c := 7) (q := 4) hC ho4.1 ho4.2 (by decide) rfl; rw [show F (e) ((4 : Nat) : Int) = F (e) (4 : Int) from rfl] at z; exact z
        refine cx_vi (c := 1) (a := me) (st := []) (as := [rv (F (e) (4 : Int))]) rfl rfl rfl o_me t_me (by decide) rfl ⟨rfl, rfl, (Nat.le_of_ble_eq_true rfl)⟩ rfl (hE6 (dd := d) (R := R) (m := m) (tg := tg) (ln := ln) (F := F) (me := me) (e := F (e) (4 : Int)) (hd := by omega) (hC := hC) (o_me := o_me) (t_me := t_me) (y_e := y45) (c_NT := c_NT) (n_e := (SN_w (k_q := kk - 1) (SN_c hC c_NT n_e (own_z ho4.1) (by omega)) (by omega)))) (fun o V_q hq => ?_)
        obtain ⟨F46, rfl, rfl, hC47, hM48, -⟩ := hq
        have hM49 : Fq 0 [(2, 7), (2, 8), (2, 11), (20, -5), (21, -5)] m tg F F46 := Fq_t (ln := ln) (ln1 := ln) hM0 Ex_r hM48 (by decide) (Or.inl rfl)
        refine Or.inl ⟨rfl, ?_⟩
        refine jx_ld (pc_q := 108) (l_q := L0) (st_q := [rv (me)]) rfl (jl_rvn g1) ?_
        refine jx_ar (pc_q := 110) (st_q := [.int (i32 (12)), rv (me)]) rfl rfl rfl rfl ?_
        refine jx_ar (pc_q := 111) (st_q := [.int (i32 (0)), .int (i32 (12)), rv (me)]) rfl rfl rfl rfl ?_
        refine cx_vi (c := 1) (a := me) (st := []) (as := [.int (i32 (12)), .int (i32 (0))]) rfl rfl rfl o_me t_me (by decide) rfl ⟨rfl, rfl, (Nat.le_of_ble_eq_true rfl)⟩ rfl (k_LCoder_emit (dd := d) (R := R) (m := m) (tg := tg) (ln := ln) (F := F46) (me := me) (fu := 12) (op := 0) (hd := by omega) (hC := hC47) (o_me := o_me) (t_me := t_me) (h_fu := by omega) (h_op := by omega)) (fun o V_q hq => ?_)
        obtain ⟨F50, rfl, rfl, hC51, hM52, -⟩ := hq
        have hM53 : Fq 0 [(2, 7), (2, 8), (2, 11), (20, -5), (21, -5)] m tg F F50 := Fq_t (ln := ln) (ln1 := ln) hM49 Ex_r hM52 (by decide) (Or.inl rfl)
        refine Or.inl ⟨rfl, ?_⟩
        refine jx_go (tg := 122) rfl rfl ?_
        refine jx_rt (v := none) rfl rfl rfl rfl rfl rfl ?_
        exact ⟨F50, rfl, rfl, hC51, hM53, trivial⟩
      refine jx_swt (tg := 117) (by omega) (by omega) rfl (by omega) rfl ?_
      refine jx_ld (pc_q := 118) (l_q := L0) (st_q := [rv (me)]) rfl (jl_rvn g1) ?_
      refine jx_ld (pc_q := 119) (l_q := L0) (st_q := [rv (e), rv (me)]) rfl (jl_rvn g2) ?_
      refine cx_vi (c := 1) (a := me) (st := []) (as := [rv (e)]) rfl rfl rfl o_me t_me (by decide) rfl ⟨rfl, rfl, (Nat.le_of_ble_eq_true rfl)⟩ rfl (k_LCoder_binary (dd := d) (R := R) (m := m) (tg := tg) (ln := ln) (F := F) (kk := kk) (hE := hE) (me := me) (e := e) (hd := by omega) (hC := hC) (o_me := o_me) (t_me := t_me) (o_e := ho4.1) (t_e := ho4.2) (c_NT := c_NT) (n_e := (SN_w n_e (by omega)))) (fun o V_q hq => ?_)
      obtain ⟨F54, rfl, rfl, hC55, hM56, -⟩ := hq
      have hM57 : Fq 0 [(2, 7), (2, 8), (2, 11), (20, -5), (21, -5)] m tg F F54 := Fq_t (ln := ln) (ln1 := ln) hM0 Ex_r hM56 (by decide) (Or.inl rfl)
      refine Or.inl ⟨rfl, ?_⟩
      refine jx_rt (v := none) rfl rfl rfl rfl rfl rfl ?_
      exact ⟨F54, rfl, rfl, hC55, hM57, trivial⟩
    · have _q := h8
      refine jx_rt (v := none) rfl rfl rfl rfl rfl rfl ?_
      exact ⟨F, rfl, rfl, hC, hM0, trivial⟩
theorem CVx_all (X : jX) : ∀ k, CVx X k
  | 0 => @k_LCoder_value X 0 (fun h => absurd h (by decide))
  | k + 1 => @k_LCoder_value X (k + 1) (fun _ => CVx_all X k)
