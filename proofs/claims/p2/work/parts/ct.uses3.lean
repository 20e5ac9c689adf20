def URx (X : jX) (kk : Nat) : Prop := ∀ ⦃dd : Nat⦄ ⦃R : Nat → jC⦄ ⦃m : Nat⦄ ⦃tg ln : Int → Int⦄ ⦃F : Int → Int → Int⦄ ⦃me e : Int⦄ (hd : 3 * kk + 6 ≤ dd) (hC : HC 0 m tg ln F) (o_me : own m me) (t_me : tg me = 12) (y_e : e = 0 ∨ (own m e ∧ tg e = 8)) (c_PSx : PSx m tg F) (c_NT : NT m tg F) (n_e : SN m tg F e (kk)), wk X dd 230 [rv me, rv e] (cV R m tg ln F) (fun o V' => ∃ (F' : Int → Int → Int), V' = cV R m tg ln F' ∧ o = .inl none ∧ HC 0 m tg ln F' ∧ Fq 0 [(7, 11), (8, 15), (8, 16), (8, 17), (8, 18), (12, 2), (12, 4), (24, -5)] m tg F F' ∧ (PSx m tg F') ∧ True)
set_option maxRecDepth 20000 in
set_option maxHeartbeats 4000000 in
theorem k_LUses_use_at_81 {X : jX} {kk : Nat} (hE : 1 ≤ kk → URx X (kk - 1)) {d : Nat} {R : Nat → jC} {m : Nat} {tg ln : Int → Int} {F : Int → Int → Int} {me p fl : Int} (hd : 3 * kk + 5 ≤ d + 1) (hC : HC 0 m tg ln F) (o_me : own m me) (t_me : tg me = 12) (y_p : p = 0 ∨ (own m p ∧ tg p = 8)) (h_fl : (-2147483648 : Int) ≤ fl ∧ fl ≤ 2147483647) (c_PSx : PSx m tg F) (c_NT : NT m tg F) (n_p : SN m tg F p (kk)) : ∀ (L : jL) (Fx : Int → Int → Int), jGet L 0 = some (rv (me)) → jGet L 1 = some (rv (p)) → jGet L 2 = some (.int (i32 (fl))) → HC 0 m tg ln Fx → Fq 0 [(7, 11), (8, 15), (8, 16), (8, 17), (8, 18), (12, 2), (12, 4), (24, -5)] m tg F Fx → (p ≠ 0) → (F p (3 : Int) ≠ 0) → (PSx m tg Fx) → wj X d jm231 (81, L, [], cV R m tg ln Fx) (fun o V' => ∃ (F' : Int → Int → Int), V' = cV R m tg ln F' ∧ o = .inl none ∧ HC 0 m tg ln F' ∧ Fq 0 [(7, 11), (8, 15), (8, 16), (8, 17), (8, 18), (12, 2), (12, 4), (24, -5)] m tg F F' ∧ (PSx m tg F') ∧ True) := by
  intro L Fx gL_0 gL_1 gL_2 hCx hMx iv_0 iv_1 cx_PSx
  refine jx_ld (pc' := 82) (l' := L) (st' := [rv (me)]) rfl (jl_rvn gL_0) ?_
  refine cx_gi (pc' := 85) (c := 11) (q := 2) (v := Fx (me) (2 : Int)) rfl rfl (by decide) (by decide) (Or.inl rfl) rfl o_me t_me rfl ?_
  have b1 : (0 : Int) ≤ Fx (me) (2 : Int) ∧ Fx (me) (2 : Int) ≤ 1000000 := by have z := HC_i (c := 11) (q := 2) hCx o_me t_me (by decide) rfl; rw [show Fx (me) ((2 : Nat) : Int) = Fx (me) (2 : Int) from rfl] at z; exact z
  refine jx_ld (pc' := 86) (l' := L) (st' := [rv (me), .int (i32 (Fx (me) (2 : Int)))]) rfl (jl_rvn gL_0) ?_
  refine cx_gr (pc' := 89) (c := 11) (q := 1) (v := F (me) (1 : Int)) rfl rfl (by decide) (by decide) rfl rfl o_me t_me (show Fx (me) (1 : Int) = F (me) (1 : Int) from hMx _ _ o_me (own_z o_me) (by rw [t_me]; rfl)) ?_
  have y2 : own m (F (me) (1 : Int)) ∧ tg (F (me) (1 : Int)) = 24 ∧ ((0 : Int) ≠ 0 → ln (F (me) (1 : Int)) = 0) := by have z := HC_n (c := 11) (q := 1) hCx o_me t_me (own_z o_me) (by decide) rfl; rw [show Fx (me) ((1 : Nat) : Int) = F (me) (1 : Int) from (show Fx (me) (1 : Int) = F (me) (1 : Int) from hMx _ _ o_me (own_z o_me) (by rw [t_me]; rfl))] at z; exact ⟨z.1, z.2.1, z.2.2.1⟩
  have b3 := HC_l hCx y2.1 y2.2.1 (by decide)
  refine cx_len (pc' := 90) rfl rfl y2.1 (by rw [y2.2.1]; decide) (by omega) ?_
  refine jx_icmp_ge (pc' := 93) (tg := 124) rfl rfl rfl (by omega) (by omega) (by omega) (by omega) (fun h4 => ?_) (fun h4 => ?_)
  · have _q := h4
    refine jx_rt (v := none) rfl rfl rfl rfl rfl rfl ?_
    exact ⟨Fx, rfl, rfl, hCx, hMx, PSx_m cx_PSx (by omega), trivial⟩
  · have _q := h4
    refine jx_ld (pc' := 94) (l' := L) (st' := [rv (p)]) rfl (jl_rvn gL_1) ?_
    have hn5 : p ≠ 0 := iv_0
    have ho6 : own m (p) ∧ tg (p) = 8 := y_p.resolve_left hn5
    have k7 := SN_p n_p hn5
    have hE8 := hE (by omega)
    refine cx_gr (pc' := 97) (c := 7) (q := 3) (v := F (p) (3 : Int)) rfl rfl (by decide) (by decide) rfl rfl ho6.1 ho6.2 (show Fx (p) (3 : Int) = F (p) (3 : Int) from hMx _ _ ho6.1 (own_z ho6.1) (by rw [ho6.2]; rfl)) ?_
    have y9 : F (p) (3 : Int) = 0 ∨ (own m (F (p) (3 : Int)) ∧ tg (F (p) (3 : Int)) = 7) := by have z := HC_r (c := 7) (q := 3) hCx ho6.1 ho6.2 (by decide) rfl; rw [show Fx (p) ((3 : Nat) : Int) = F (p) (3 : Int) from (show Fx (p) (3 : Int) = F (p) (3 : Int) from hMx _ _ ho6.1 (own_z ho6.1) (by rw [ho6.2]; rfl))] at z; exact z
    have hn10 : F (p) (3 : Int) ≠ 0 := iv_1
    have ho11 : own m (F (p) (3 : Int)) ∧ tg (F (p) (3 : Int)) = 7 := y9.resolve_left hn10
    refine cx_gi (pc' := 100) (c := 6) (q := 0) (v := F (F (p) (3 : Int)) (0 : Int)) rfl rfl (by decide) (by decide) (Or.inl rfl) rfl ho11.1 ho11.2 (show Fx (F (p) (3 : Int)) (0 : Int) = F (F (p) (3 : Int)) (0 : Int) from hMx _ _ ho11.1 (own_z ho11.1) (by rw [ho11.2]; rfl)) ?_
    have b12 : (-2147483648 : Int) ≤ F (F (p) (3 : Int)) (0 : Int) ∧ F (F (p) (3 : Int)) (0 : Int) ≤ 2147483647 := by have z := HC_i (c := 6) (q := 0) hCx ho11.1 ho11.2 (by decide) rfl; rw [show Fx (F (p) (3 : Int)) ((0 : Nat) : Int) = F (F (p) (3 : Int)) (0 : Int) from (show Fx (F (p) (3 : Int)) (0 : Int) = F (F (p) (3 : Int)) (0 : Int) from hMx _ _ ho11.1 (own_z ho11.1) (by rw [ho11.2]; rfl))] at z; exact z
    refine jx_ar (pc' := 101) (st' := [.int (i32 (4)), .int (i32 (F (F (p) (3 : Int)) (0 : Int)))]) rfl rfl rfl rfl ?_
    refine jx_icmp_eq (pc' := 104) (tg := 124) rfl rfl rfl (by omega) (by omega) (by decide) (by decide) (fun h13 => ?_) (fun h13 => ?_)
    · have _q := h13
      refine jx_rt (v := none) rfl rfl rfl rfl rfl rfl ?_
      exact ⟨Fx, rfl, rfl, hCx, hMx, PSx_m cx_PSx (by omega), trivial⟩
    · have _q := h13
      refine jx_ld (pc' := 105) (l' := L) (st' := [rv (me)]) rfl (jl_rvn gL_0) ?_
      refine cx_gr (pc' := 108) (c := 11) (q := 1) (v := F (me) (1 : Int)) rfl rfl (by decide) (by decide) rfl rfl o_me t_me (show Fx (me) (1 : Int) = F (me) (1 : Int) from hMx _ _ o_me (own_z o_me) (by rw [t_me]; rfl)) ?_
      refine jx_ld (pc' := 109) (l' := L) (st' := [rv (me), rv (F (me) (1 : Int))]) rfl (jl_rvn gL_0) ?_
      refine cx_gi (pc' := 112) (c := 11) (q := 2) (v := Fx (me) (2 : Int)) rfl rfl (by decide) (by decide) (Or.inl rfl) rfl o_me t_me rfl ?_
      refine jx_ld (pc' := 113) (l' := L) (st' := [rv (p), .int (i32 (Fx (me) (2 : Int))), rv (F (me) (1 : Int))]) rfl (jl_rvn gL_1) ?_
      refine cx_aas (pc' := 114) (c := 7) (z := Fx (me) (2 : Int)) (y := p) rfl rfl y2.1 (by rw [y2.2.1]; decide) (by omega) (by omega) (by omega) (fun hz => (Or.inr ⟨ho6.1, ho6.2⟩).resolve_left hz) (by decide) (by rw [y2.2.1]; rfl) ?_
      obtain ⟨F14, eF14⟩ : ∃ q, q = uF Fx (F (me) (1 : Int)) (Fx (me) (2 : Int)) (p) := ⟨_, rfl⟩
      rw [← eF14]
      have hC15 : HC 0 m tg ln F14 := by rw [eF14]; exact HC_pa hCx y2.1 y2.2.1 (by decide) (by omega) (Or.inr ⟨ho6.1, ho6.2⟩)
      have hM16 : Fq 0 [(7, 11), (8, 15), (8, 16), (8, 17), (8, 18), (12, 2), (12, 4), (24, -5)] m tg F F14 := by rw [eF14]; exact Fq_p hMx y2.2.1 (fun _ => rfl) (inL_a rfl (by omega) rfl)
      have c17 : PSx m tg F14 := by rw [eF14]; exact PSx_p cx_PSx y2.1 y2.2.1 (show Fx (F (me) (1 : Int)) (-1) = 5 by have z := HC_n (c := 11) (q := 1) hCx o_me t_me (own_z o_me) (by decide) rfl; rw [show Fx (me) ((1 : Nat) : Int) = F (me) (1 : Int) from (show Fx (me) (1 : Int) = F (me) (1 : Int) from hMx _ _ o_me (own_z o_me) (by rw [t_me]; rfl))] at z; exact z.2.2.2 (by decide)) (by omega) ⟨ho6.1, ho6.2, (by rw [show Fx (p) (3 : Int) = F (p) (3 : Int) from (show Fx (p) (3 : Int) = F (p) (3 : Int) from hMx _ _ ho6.1 (own_z ho6.1) (by rw [ho6.2]; rfl))]; exact own_z ho11.1)⟩
      refine jx_ld (pc' := 115) (l' := L) (st' := [rv (me)]) rfl (jl_rvn gL_0) ?_
      refine jx_ar (pc' := 116) (st' := [rv (me), rv (me)]) rfl rfl ja_dup rfl ?_
      refine cx_gi (pc' := 119) (c := 11) (q := 2) (v := Fx (me) (2 : Int)) rfl rfl (by decide) (by decide) (Or.inl rfl) rfl o_me t_me (show F14 (me) (2 : Int) = Fx (me) (2 : Int) from by rw [eF14]; exact uF_a (fun w => by have q1 := t_me; have q2 := y2.2.1; rw [w, q2] at q1; exact absurd q1 (by decide))) ?_
      refine jx_ar (pc' := 120) (st' := [.int (i32 (1)), .int (i32 (Fx (me) (2 : Int))), rv (me)]) rfl rfl rfl rfl ?_
      refine jx_add (pc' := 121) rfl rfl ?_
      refine cx_pi (pc' := 124) (c := 11) (q := 2) (qi := (2 : Int)) (z := (Fx (me) (2 : Int) + 1)) rfl rfl (by decide) (by decide) rfl rfl rfl (by decide) rfl o_me t_me rfl ?_
      obtain ⟨F18, eF18⟩ : ∃ q, q = uF F14 (me) (2 : Int) ((Fx (me) (2 : Int) + 1)) := ⟨_, rfl⟩
      rw [← eF18]
      have hC19 : HC 0 m tg ln F18 := by rw [eF18]; exact HC_fi (c := 11) (q := 2) hC15 t_me (by decide) rfl (by omega) (by omega) ⟨fun w => absurd w (by decide), fun w => absurd w (by decide)⟩
      have hM20 : Fq 0 [(7, 11), (8, 15), (8, 16), (8, 17), (8, 18), (12, 2), (12, 4), (24, -5)] m tg F F18 := by rw [eF18]; exact Fq_p hM16 t_me (fun _ => rfl) rfl
      have c21 : PSx m tg F18 := by rw [eF18]; exact PSx_u c17 t_me (by omega)
      refine jx_rt (v := none) rfl rfl rfl rfl rfl rfl ?_
      exact ⟨F18, rfl, rfl, hC19, hM20, PSx_m c21 (by omega), trivial⟩
set_option maxRecDepth 20000 in
set_option maxHeartbeats 4000000 in
theorem k_LUses_use {X : jX} {kk : Nat} (hE : 1 ≤ kk → URx X (kk - 1)) {dd : Nat} {R : Nat → jC} {m : Nat} {tg ln : Int → Int} {F : Int → Int → Int} {me p fl : Int} (hd : 3 * kk + 5 ≤ dd) (hC : HC 0 m tg ln F) (o_me : own m me) (t_me : tg me = 12) (y_p : p = 0 ∨ (own m p ∧ tg p = 8)) (h_fl : (-2147483648 : Int) ≤ fl ∧ fl ≤ 2147483647) (c_PSx : PSx m tg F) (c_NT : NT m tg F) (n_p : SN m tg F p (kk)) : wk X dd 231 [rv me, rv p, .int (i32 fl)] (cV R m tg ln F) (fun o V' => ∃ (F' : Int → Int → Int), V' = cV R m tg ln F' ∧ o = .inl none ∧ HC 0 m tg ln F' ∧ Fq 0 [(7, 11), (8, 15), (8, 16), (8, 17), (8, 18), (12, 2), (12, 4), (24, -5)] m tg F F' ∧ (PSx m tg F') ∧ True) := by
  obtain ⟨d, rfl⟩ : ∃ d, dd = d + 1 := ⟨dd - 1, by omega⟩
  refine wk_of (e := jm231) rfl (by rw [jS_r, jS_r, jS_i, jS_0]; exact Nat.le_of_ble_eq_true rfl) ?_
  rw [la_r, la_r, la_i, la_0]
  show wj X d jm231 (0, [(0, rv (me)), (1, rv (p)), (2, .int (i32 (fl)))], [], cV R m tg ln F) _
  have hM0 : Fq 0 [(7, 11), (8, 15), (8, 16), (8, 17), (8, 18), (12, 2), (12, 4), (24, -5)] m tg F F := Fq_r
  obtain ⟨L0, eL0⟩ : ∃ q : jL, q = [(0, rv (me)), (1, rv (p)), (2, .int (i32 (fl)))] := ⟨_, rfl⟩
  rw [← eL0]
  have g22 : jGet L0 0 = some (rv (me)) := eL0 ▸ (rfl : jGet [(0, rv (me)), (1, rv (p)), (2, .int (i32 (fl)))] 0 = some (rv (me)))
  have g23 : jGet L0 1 = some (rv (p)) := eL0 ▸ (rfl : jGet [(0, rv (me)), (1, rv (p)), (2, .int (i32 (fl)))] 1 = some (rv (p)))
  have g24 : jGet L0 2 = some (.int (i32 (fl))) := eL0 ▸ (rfl : jGet [(0, rv (me)), (1, rv (p)), (2, .int (i32 (fl)))] 2 = some (.int (i32 (fl))))
  clear eL0
  refine jx_ld (pc' := 1) (l' := L0) (st' := [rv (p)]) rfl (jl_rvn g23) ?_
  refine cx_nul (pc' := 4) (tg' := 11) rfl rfl rfl (fun h25 => ?_) (fun h25 => ?_)
  · have _q := h25
    refine jx_rt (v := none) rfl rfl rfl rfl rfl rfl ?_
    exact ⟨F, rfl, rfl, hC, hM0, PSx_m c_PSx (by omega), trivial⟩
  · have _q := h25
    have ho26 : own m (p) ∧ tg (p) = 8 := y_p.resolve_left h25
    have k27 := SN_p n_p h25
    have hE28 := hE (by omega)
    refine jx_ld (pc' := 5) (l' := L0) (st' := [rv (p)]) rfl (jl_rvn g23) ?_
    refine cx_gr (pc' := 8) (c := 7) (q := 3) (v := F (p) (3 : Int)) rfl rfl (by decide) (by decide) rfl rfl ho26.1 ho26.2 rfl ?_
    have y29 : F (p) (3 : Int) = 0 ∨ (own m (F (p) (3 : Int)) ∧ tg (F (p) (3 : Int)) = 7) := by have z := HC_r (c := 7) (q := 3) hC ho26.1 ho26.2 (by decide) rfl; rw [show F (p) ((3 : Nat) : Int) = F (p) (3 : Int) from rfl] at z; exact z
    refine cx_non (pc' := 11) (tg' := 12) rfl rfl rfl (fun h30 => ?_) (fun h30 => ?_)
    · have _q := h30
      have ho31 : own m (F (p) (3 : Int)) ∧ tg (F (p) (3 : Int)) = 7 := y29.resolve_left h30
      refine jx_ld (pc' := 13) (l' := L0) (st' := [rv (me)]) rfl (jl_rvn g22) ?_
      refine jx_ld (pc' := 14) (l' := L0) (st' := [rv (p), rv (me)]) rfl (jl_rvn g23) ?_
      refine cx_gr (pc' := 17) (c := 7) (q := 4) (v := F (p) (4 : Int)) rfl rfl (by decide) (by decide) rfl rfl ho26.1 ho26.2 rfl ?_
      have y32 : F (p) (4 : Int) = 0 ∨ (own m (F (p) (4 : Int)) ∧ tg (F (p) (4 : Int)) = 8) := by have z := HC_r (c := 7) (q := 4) hC ho26.1 ho26.2 (by decide) rfl; rw [show F (p) ((4 : Nat) : Int) = F (p) (4 : Int) from rfl] at z; exact z
      refine cx_vi (c := 11) (a := me) (st := []) (as := [rv (F (p) (4 : Int))]) rfl rfl rfl o_me t_me (by decide) rfl ⟨rfl, rfl, (Nat.le_of_ble_eq_true rfl)⟩ rfl (hE28 (dd := d) (R := R) (m := m) (tg := tg) (ln := ln) (F := F) (me := me) (e := F (p) (4 : Int)) (hd := by omega) (hC := hC) (o_me := o_me) (t_me := t_me) (y_e := y32) (c_PSx := c_PSx) (c_NT := c_NT) (n_e := (SN_w (k' := kk - 1) (SN_c hC c_NT n_p (own_z ho26.1) (by omega)) (by omega)))) (fun o V' hq => ?_)
      obtain ⟨F33, rfl, rfl, hC34, hM35, c36, -⟩ := hq
      have hM37 : Fq 0 [(7, 11), (8, 15), (8, 16), (8, 17), (8, 18), (12, 2), (12, 4), (24, -5)] m tg F F33 := Fq_t (ln := ln) (ln1 := ln) hM0 Ex_r hM35 (by decide) (Or.inl rfl)
      refine Or.inl ⟨rfl, ?_⟩
      refine jx_ld (pc' := 21) (l' := L0) (st' := [rv (p)]) rfl (jl_rvn g23) ?_
      refine jx_ld (pc' := 22) (l' := L0) (st' := [.int (i32 (fl)), rv (p)]) rfl (jl_iloadn g24) ?_
      refine cx_pi (pc' := 25) (c := 7) (q := 15) (qi := (15 : Int)) (z := fl) rfl rfl (by decide) (by decide) rfl rfl rfl (by decide) rfl ho26.1 ho26.2 rfl ?_
      obtain ⟨F38, eF38⟩ : ∃ q, q = uF F33 (p) (15 : Int) (fl) := ⟨_, rfl⟩
      rw [← eF38]
      have hC39 : HC 0 m tg ln F38 := by rw [eF38]; exact HC_fi (c := 7) (q := 15) hC34 ho26.2 (by decide) rfl (by omega) (by omega) ⟨fun w => absurd w (by decide), fun w => absurd w (by decide)⟩
      have hM40 : Fq 0 [(7, 11), (8, 15), (8, 16), (8, 17), (8, 18), (12, 2), (12, 4), (24, -5)] m tg F F38 := by rw [eF38]; exact Fq_p hM37 ho26.2 (fun _ => rfl) rfl
      have c41 : PSx m tg F38 := by rw [eF38]; exact PSx_u c36 ho26.2 (by omega)
      refine jx_ld (pc' := 26) (l' := L0) (st' := [rv (p)]) rfl (jl_rvn g23) ?_
      refine cx_gr (pc' := 29) (c := 7) (q := 3) (v := F (p) (3 : Int)) rfl rfl (by decide) (by decide) rfl rfl ho26.1 ho26.2 ((show F38 (p) (3 : Int) = F33 (p) (3 : Int) from by rw [eF38]; exact uF_j (by decide)).trans (show F33 (p) (3 : Int) = F (p) (3 : Int) from hM35 _ _ ho26.1 (own_z ho26.1) (by rw [ho26.2]; rfl))) ?_
      refine jx_ar (pc' := 30) (st' := [rv (F (p) (3 : Int)), rv (F (p) (3 : Int))]) rfl rfl ja_dup rfl ?_
      refine cx_gi (pc' := 33) (c := 6) (q := 11) (v := F33 (F (p) (3 : Int)) (11 : Int)) rfl rfl (by decide) (by decide) (Or.inl rfl) rfl ho31.1 ho31.2 (show F38 (F (p) (3 : Int)) (11 : Int) = F33 (F (p) (3 : Int)) (11 : Int) from by rw [eF38]; exact uF_j (by decide)) ?_
      have b42 : (-2147483648 : Int) ≤ F33 (F (p) (3 : Int)) (11 : Int) ∧ F33 (F (p) (3 : Int)) (11 : Int) ≤ 2147483647 := by have z := HC_i (c := 6) (q := 11) hC39 ho31.1 ho31.2 (by decide) rfl; rw [show F38 (F (p) (3 : Int)) ((11 : Nat) : Int) = F33 (F (p) (3 : Int)) (11 : Int) from (show F38 (F (p) (3 : Int)) (11 : Int) = F33 (F (p) (3 : Int)) (11 : Int) from by rw [eF38]; exact uF_j (by decide))] at z; exact z
      refine jx_ld (pc' := 34) (l' := L0) (st' := [.int (i32 (fl)), .int (i32 (F33 (F (p) (3 : Int)) (11 : Int))), rv (F (p) (3 : Int))]) rfl (jl_iloadn g24) ?_
      refine jx_or (pc' := 35) rfl rfl ?_
      obtain ⟨z43, ez43⟩ : ∃ q, q = (i32 (F33 (F (p) (3 : Int)) (11 : Int)) ||| i32 (fl)).toInt := ⟨_, rfl⟩
      rw [← ez43]
      have bz43 : (-2147483648 : Int) ≤ z43 ∧ z43 ≤ 2147483647 := ez43 ▸ i32_rg _
      clear ez43
      refine cx_pi (pc' := 38) (c := 6) (q := 11) (qi := (11 : Int)) (z := z43) rfl rfl (by decide) (by decide) rfl rfl rfl (by decide) rfl ho31.1 ho31.2 rfl ?_
      obtain ⟨F44, eF44⟩ : ∃ q, q = uF F38 (F (p) (3 : Int)) (11 : Int) (z43) := ⟨_, rfl⟩
      rw [← eF44]
      have hC45 : HC 0 m tg ln F44 := by rw [eF44]; exact HC_fi (c := 6) (q := 11) hC39 ho31.2 (by decide) rfl (by omega) (by omega) ⟨fun w => absurd w (by decide), fun w => absurd w (by decide)⟩
      have hM46 : Fq 0 [(7, 11), (8, 15), (8, 16), (8, 17), (8, 18), (12, 2), (12, 4), (24, -5)] m tg F F44 := by rw [eF44]; exact Fq_p hM40 ho31.2 (fun _ => rfl) rfl
      have c47 : PSx m tg F44 := by rw [eF44]; exact PSx_u c41 ho31.2 (by omega)
      refine jx_ld (pc' := 39) (l' := L0) (st' := [rv (p)]) rfl (jl_rvn g23) ?_
      refine cx_st (st := []) (as := [rv (p)]) rfl rfl rfl ⟨rfl, (Nat.le_of_ble_eq_true rfl)⟩ rfl (k_LUses_findElement (dd := d) (R := R) (m := m) (tg := tg) (ln := ln) (F := F44) (p := p) (hd := by omega) (hC := hC45) (o_p := ho26.1) (t_p := ho26.2)) (fun o V' hq => ?_)
      obtain ⟨F48, rfl, rfl, hC49, hM50, -⟩ := hq
      have hM51 : Fq 0 [(7, 11), (8, 15), (8, 16), (8, 17), (8, 18), (12, 2), (12, 4), (24, -5)] m tg F F48 := Fq_t (ln := ln) (ln1 := ln) hM46 Ex_r hM50 (by decide) (Or.inl rfl)
      have c52 : PSx m tg F48 := PSx_q c47 hM50 rfl
      refine Or.inl ⟨rfl, ?_⟩
      refine jx_ld (pc' := 43) (l' := L0) (st' := [rv (p)]) rfl (jl_rvn g23) ?_
      refine cx_gr (pc' := 46) (c := 7) (q := 3) (v := F (p) (3 : Int)) rfl rfl (by decide) (by decide) rfl rfl ho26.1 ho26.2 ((show F48 (p) (3 : Int) = F44 (p) (3 : Int) from hM50 _ _ ho26.1 (own_z ho26.1) (by rw [ho26.2]; rfl)).trans ((show F44 (p) (3 : Int) = F38 (p) (3 : Int) from by rw [eF44]; exact uF_j (by decide)).trans ((show F38 (p) (3 : Int) = F33 (p) (3 : Int) from by rw [eF38]; exact uF_j (by decide)).trans (show F33 (p) (3 : Int) = F (p) (3 : Int) from hM35 _ _ ho26.1 (own_z ho26.1) (by rw [ho26.2]; rfl))))) ?_
      refine cx_gi (pc' := 49) (c := 6) (q := 0) (v := F (F (p) (3 : Int)) (0 : Int)) rfl rfl (by decide) (by decide) (Or.inl rfl) rfl ho31.1 ho31.2 ((show F48 (F (p) (3 : Int)) (0 : Int) = F44 (F (p) (3 : Int)) (0 : Int) from hM50 _ _ ho31.1 (own_z ho31.1) (by rw [ho31.2]; rfl)).trans ((show F44 (F (p) (3 : Int)) (0 : Int) = F38 (F (p) (3 : Int)) (0 : Int) from by rw [eF44]; exact uF_j (by decide)).trans ((show F38 (F (p) (3 : Int)) (0 : Int) = F33 (F (p) (3 : Int)) (0 : Int) from by rw [eF38]; exact uF_j (by decide)).trans (show F33 (F (p) (3 : Int)) (0 : Int) = F (F (p) (3 : Int)) (0 : Int) from hM35 _ _ ho31.1 (own_z ho31.1) (by rw [ho31.2]; rfl))))) ?_
      have b53 : (-2147483648 : Int) ≤ F (F (p) (3 : Int)) (0 : Int) ∧ F (F (p) (3 : Int)) (0 : Int) ≤ 2147483647 := by have z := HC_i (c := 6) (q := 0) hC49 ho31.1 ho31.2 (by decide) rfl; rw [show F48 (F (p) (3 : Int)) ((0 : Nat) : Int) = F (F (p) (3 : Int)) (0 : Int) from ((show F48 (F (p) (3 : Int)) (0 : Int) = F44 (F (p) (3 : Int)) (0 : Int) from hM50 _ _ ho31.1 (own_z ho31.1) (by rw [ho31.2]; rfl)).trans ((show F44 (F (p) (3 : Int)) (0 : Int) = F38 (F (p) (3 : Int)) (0 : Int) from by rw [eF44]; exact uF_j (by decide)).trans ((show F38 (F (p) (3 : Int)) (0 : Int) = F33 (F (p) (3 : Int)) (0 : Int) from by rw [eF38]; exact uF_j (by decide)).trans (show F33 (F (p) (3 : Int)) (0 : Int) = F (F (p) (3 : Int)) (0 : Int) from hM35 _ _ ho31.1 (own_z ho31.1) (by rw [ho31.2]; rfl)))))] at z; exact z
      refine jx_ar (pc' := 51) (st' := [.int (i32 (10)), .int (i32 (F (F (p) (3 : Int)) (0 : Int)))]) rfl rfl rfl rfl ?_
      refine jx_icmp_ne (pc' := 54) (tg := 81) rfl rfl rfl (by omega) (by omega) (by decide) (by decide) (fun h54 => ?_) (fun h54 => ?_)
      · have _q := h54
        exact k_LUses_use_at_81 (X := X) (kk := kk) (hE := hE) (d := d) (R := R) (m := m) (tg := tg) (ln := ln) (F := F) (me := me) (p := p) (fl := fl) (hd := hd) (hC := hC) (o_me := o_me) (t_me := t_me) (y_p := y_p) (h_fl := h_fl) (c_PSx := c_PSx) (c_NT := c_NT) (n_p := n_p) L0 F48 g22 g23 g24 hC49 hM51 (by omega) (by omega) (PSx_m c52 (by omega))
      · have _q := h54
        refine jx_ld (pc' := 55) (l' := L0) (st' := [.int (i32 (fl))]) rfl (jl_iloadn g24) ?_
        refine jx_if_eq (pc' := 58) (tg := 81) rfl rfl rfl (by omega) (by omega) (fun h55 => ?_) (fun h55 => ?_)
        · have _q := h55
          exact k_LUses_use_at_81 (X := X) (kk := kk) (hE := hE) (d := d) (R := R) (m := m) (tg := tg) (ln := ln) (F := F) (me := me) (p := p) (fl := fl) (hd := hd) (hC := hC) (o_me := o_me) (t_me := t_me) (y_p := y_p) (h_fl := h_fl) (c_PSx := c_PSx) (c_NT := c_NT) (n_p := n_p) L0 F48 g22 g23 g24 hC49 hM51 (by omega) (by omega) (PSx_m c52 (by omega))
        · have _q := h55
          refine jx_ld (pc' := 59) (l' := L0) (st' := [rv (me)]) rfl (jl_rvn g22) ?_
          refine jx_ld (pc' := 60) (l' := L0) (st' := [rv (p), rv (me)]) rfl (jl_rvn g23) ?_
          refine cx_gr (pc' := 63) (c := 7) (q := 3) (v := F (p) (3 : Int)) rfl rfl (by decide) (by decide) rfl rfl ho26.1 ho26.2 ((show F48 (p) (3 : Int) = F44 (p) (3 : Int) from hM50 _ _ ho26.1 (own_z ho26.1) (by rw [ho26.2]; rfl)).trans ((show F44 (p) (3 : Int) = F38 (p) (3 : Int) from by rw [eF44]; exact uF_j (by decide)).trans ((show F38 (p) (3 : Int) = F33 (p) (3 : Int) from by rw [eF38]; exact uF_j (by decide)).trans (show F33 (p) (3 : Int) = F (p) (3 : Int) from hM35 _ _ ho26.1 (own_z ho26.1) (by rw [ho26.2]; rfl))))) ?_
          refine cx_gi (pc' := 66) (c := 6) (q := 5) (v := F (F (p) (3 : Int)) (5 : Int)) rfl rfl (by decide) (by decide) (Or.inl rfl) rfl ho31.1 ho31.2 ((show F48 (F (p) (3 : Int)) (5 : Int) = F44 (F (p) (3 : Int)) (5 : Int) from hM50 _ _ ho31.1 (own_z ho31.1) (by rw [ho31.2]; rfl)).trans ((show F44 (F (p) (3 : Int)) (5 : Int) = F38 (F (p) (3 : Int)) (5 : Int) from by rw [eF44]; exact uF_j (by decide)).trans ((show F38 (F (p) (3 : Int)) (5 : Int) = F33 (F (p) (3 : Int)) (5 : Int) from by rw [eF38]; exact uF_j (by decide)).trans (show F33 (F (p) (3 : Int)) (5 : Int) = F (F (p) (3 : Int)) (5 : Int) from hM35 _ _ ho31.1 (own_z ho31.1) (by rw [ho31.2]; rfl))))) ?_
          have b56 : (-2147483648 : Int) ≤ F (F (p) (3 : Int)) (5 : Int) ∧ F (F (p) (3 : Int)) (5 : Int) ≤ 2147483647 := by have z := HC_i (c := 6) (q := 5) hC49 ho31.1 ho31.2 (by decide) rfl; rw [show F48 (F (p) (3 : Int)) ((5 : Nat) : Int) = F (F (p) (3 : Int)) (5 : Int) from ((show F48 (F (p) (3 : Int)) (5 : Int) = F44 (F (p) (3 : Int)) (5 : Int) from hM50 _ _ ho31.1 (own_z ho31.1) (by rw [ho31.2]; rfl)).trans ((show F44 (F (p) (3 : Int)) (5 : Int) = F38 (F (p) (3 : Int)) (5 : Int) from by rw [eF44]; exact uF_j (by decide)).trans ((show F38 (F (p) (3 : Int)) (5 : Int) = F33 (F (p) (3 : Int)) (5 : Int) from by rw [eF38]; exact uF_j (by decide)).trans (show F33 (F (p) (3 : Int)) (5 : Int) = F (F (p) (3 : Int)) (5 : Int) from hM35 _ _ ho31.1 (own_z ho31.1) (by rw [ho31.2]; rfl)))))] at z; exact z
          refine jx_ld (pc' := 67) (l' := L0) (st' := [.int (i32 (fl)), .int (i32 (F (F (p) (3 : Int)) (5 : Int))), rv (me)]) rfl (jl_iloadn g24) ?_
          refine cx_vi (c := 11) (a := me) (st := []) (as := [.int (i32 (F (F (p) (3 : Int)) (5 : Int))), .int (i32 (fl))]) rfl rfl rfl o_me t_me (by decide) rfl ⟨rfl, rfl, (Nat.le_of_ble_eq_true rfl)⟩ rfl (k_LUses_mayUse (dd := d) (R := R) (m := m) (tg := tg) (ln := ln) (F := F48) (me := me) (po := F (F (p) (3 : Int)) (5 : Int)) (fl := fl) (hd := by omega) (hC := hC49) (o_me := o_me) (t_me := t_me) (h_po := by omega) (h_fl := by omega)) (fun o V' hq => ?_)
          obtain ⟨r57, rfl, rfl, b58, -⟩ := hq
          refine Or.inr (Or.inl ⟨_, rfl, ?_⟩)
          refine jx_if_ne (pc' := 73) (tg := 81) rfl rfl rfl (by omega) (by omega) (fun h59 => ?_) (fun h59 => ?_)
          · have _q := h59
            exact k_LUses_use_at_81 (X := X) (kk := kk) (hE := hE) (d := d) (R := R) (m := m) (tg := tg) (ln := ln) (F := F) (me := me) (p := p) (fl := fl) (hd := hd) (hC := hC) (o_me := o_me) (t_me := t_me) (y_p := y_p) (h_fl := h_fl) (c_PSx := c_PSx) (c_NT := c_NT) (n_p := n_p) L0 F48 g22 g23 g24 hC49 hM51 (by omega) (by omega) (PSx_m c52 (by omega))
          · have _q := h59
            refine jx_ld (pc' := 74) (l' := L0) (st' := [rv (me)]) rfl (jl_rvn g22) ?_
            refine jx_ld (pc' := 75) (l' := L0) (st' := [rv (p), rv (me)]) rfl (jl_rvn g23) ?_
            refine cx_gi (pc' := 78) (c := 7) (q := 1) (v := F (p) (1 : Int)) rfl rfl (by decide) (by decide) (Or.inl rfl) rfl ho26.1 ho26.2 ((show F48 (p) (1 : Int) = F44 (p) (1 : Int) from hM50 _ _ ho26.1 (own_z ho26.1) (by rw [ho26.2]; rfl)).trans ((show F44 (p) (1 : Int) = F38 (p) (1 : Int) from by rw [eF44]; exact uF_j (by decide)).trans ((show F38 (p) (1 : Int) = F33 (p) (1 : Int) from by rw [eF38]; exact uF_j (by decide)).trans (show F33 (p) (1 : Int) = F (p) (1 : Int) from hM35 _ _ ho26.1 (own_z ho26.1) (by rw [ho26.2]; rfl))))) ?_
            have b60 : (-2147483648 : Int) ≤ F (p) (1 : Int) ∧ F (p) (1 : Int) ≤ 2147483647 := by have z := HC_i (c := 7) (q := 1) hC49 ho26.1 ho26.2 (by decide) rfl; rw [show F48 (p) ((1 : Nat) : Int) = F (p) (1 : Int) from ((show F48 (p) (1 : Int) = F44 (p) (1 : Int) from hM50 _ _ ho26.1 (own_z ho26.1) (by rw [ho26.2]; rfl)).trans ((show F44 (p) (1 : Int) = F38 (p) (1 : Int) from by rw [eF44]; exact uF_j (by decide)).trans ((show F38 (p) (1 : Int) = F33 (p) (1 : Int) from by rw [eF38]; exact uF_j (by decide)).trans (show F33 (p) (1 : Int) = F (p) (1 : Int) from hM35 _ _ ho26.1 (own_z ho26.1) (by rw [ho26.2]; rfl)))))] at z; exact z
            refine cx_vi (c := 11) (a := me) (st := []) (as := [.int (i32 (F (p) (1 : Int)))]) rfl rfl rfl o_me t_me (by decide) rfl ⟨rfl, rfl, (Nat.le_of_ble_eq_true rfl)⟩ rfl (k_LUses_blame (dd := d) (R := R) (m := m) (tg := tg) (ln := ln) (F := F48) (me := me) (l := F (p) (1 : Int)) (hd := by omega) (hC := hC49) (o_me := o_me) (t_me := t_me) (h_l := by omega)) (fun o V' hq => ?_)
            obtain ⟨F61, rfl, rfl, hC62, hM63, -⟩ := hq
            have hM64 : Fq 0 [(7, 11), (8, 15), (8, 16), (8, 17), (8, 18), (12, 2), (12, 4), (24, -5)] m tg F F61 := Fq_t (ln := ln) (ln1 := ln) hM51 Ex_r hM63 (by decide) (Or.inl rfl)
            have c65 : PSx m tg F61 := PSx_q c52 hM63 rfl
            refine Or.inl ⟨rfl, ?_⟩
            exact k_LUses_use_at_81 (X := X) (kk := kk) (hE := hE) (d := d) (R := R) (m := m) (tg := tg) (ln := ln) (F := F) (me := me) (p := p) (fl := fl) (hd := hd) (hC := hC) (o_me := o_me) (t_me := t_me) (y_p := y_p) (h_fl := h_fl) (c_PSx := c_PSx) (c_NT := c_NT) (n_p := n_p) L0 F61 g22 g23 g24 hC62 hM64 (by omega) (by omega) (PSx_m c65 (by omega))
    · have _q := h30
      refine jx_rt (v := none) rfl rfl rfl rfl rfl rfl ?_
      exact ⟨F, rfl, rfl, hC, hM0, PSx_m c_PSx (by omega), trivial⟩
set_option maxRecDepth 20000 in
set_option maxHeartbeats 4000000 in
theorem k_LUses_read {X : jX} {kk : Nat} (hE : 1 ≤ kk → URx X (kk - 1)) {dd : Nat} {R : Nat → jC} {m : Nat} {tg ln : Int → Int} {F : Int → Int → Int} {me e : Int} (hd : 3 * kk + 6 ≤ dd) (hC : HC 0 m tg ln F) (o_me : own m me) (t_me : tg me = 12) (y_e : e = 0 ∨ (own m e ∧ tg e = 8)) (c_PSx : PSx m tg F) (c_NT : NT m tg F) (n_e : SN m tg F e (kk)) : wk X dd 230 [rv me, rv e] (cV R m tg ln F) (fun o V' => ∃ (F' : Int → Int → Int), V' = cV R m tg ln F' ∧ o = .inl none ∧ HC 0 m tg ln F' ∧ Fq 0 [(7, 11), (8, 15), (8, 16), (8, 17), (8, 18), (12, 2), (12, 4), (24, -5)] m tg F F' ∧ (PSx m tg F') ∧ True) := by
  obtain ⟨d, rfl⟩ : ∃ d, dd = d + 1 := ⟨dd - 1, by omega⟩
  refine wk_of (e := jm230) rfl (by rw [jS_r, jS_r, jS_0]; exact Nat.le_of_ble_eq_true rfl) ?_
  rw [la_r, la_r, la_0]
  show wj X d jm230 (0, [(0, rv (me)), (1, rv (e))], [], cV R m tg ln F) _
  have hM0 : Fq 0 [(7, 11), (8, 15), (8, 16), (8, 17), (8, 18), (12, 2), (12, 4), (24, -5)] m tg F F := Fq_r
  obtain ⟨L0, eL0⟩ : ∃ q : jL, q = [(0, rv (me)), (1, rv (e))] := ⟨_, rfl⟩
  rw [← eL0]
  have g1 : jGet L0 0 = some (rv (me)) := eL0 ▸ (rfl : jGet [(0, rv (me)), (1, rv (e))] 0 = some (rv (me)))
  have g2 : jGet L0 1 = some (rv (e)) := eL0 ▸ (rfl : jGet [(0, rv (me)), (1, rv (e))] 1 = some (rv (e)))
  clear eL0
  refine jx_ld (pc' := 1) (l' := L0) (st' := [rv (e)]) rfl (jl_rvn g2) ?_
  refine cx_non (pc' := 4) (tg' := 5) rfl rfl rfl (fun h3 => ?_) (fun h3 => ?_)
  · have _q := h3
    have ho4 : own m (e) ∧ tg (e) = 8 := y_e.resolve_left h3
    have k5 := SN_p n_e h3
    have hE6 := hE (by omega)
    refine jx_ld (pc' := 6) (l' := L0) (st' := [rv (e)]) rfl (jl_rvn g2) ?_
    refine cx_gi (pc' := 9) (c := 7) (q := 0) (v := F (e) (0 : Int)) rfl rfl (by decide) (by decide) (Or.inl rfl) rfl ho4.1 ho4.2 rfl ?_
    have b7 : (-2147483648 : Int) ≤ F (e) (0 : Int) ∧ F (e) (0 : Int) ≤ 2147483647 := by have z := HC_i (c := 7) (q := 0) hC ho4.1 ho4.2 (by decide) rfl; rw [show F (e) ((0 : Nat) : Int) = F (e) (0 : Int) from rfl] at z; exact z
    refine jx_ar (pc' := 11) (st' := [.int (i32 (21)), .int (i32 (F (e) (0 : Int)))]) rfl rfl rfl rfl ?_
    refine jx_icmp_ne (pc' := 14) (tg := 21) rfl rfl rfl (by omega) (by omega) (by decide) (by decide) (fun h8 => ?_) (fun h8 => ?_)
    · have _q := h8
      refine jx_ld (pc' := 22) (l' := L0) (st' := [rv (me)]) rfl (jl_rvn g1) ?_
      refine jx_ld (pc' := 23) (l' := L0) (st' := [rv (e), rv (me)]) rfl (jl_rvn g2) ?_
      refine cx_gr (pc' := 26) (c := 7) (q := 4) (v := F (e) (4 : Int)) rfl rfl (by decide) (by decide) rfl rfl ho4.1 ho4.2 rfl ?_
      have y9 : F (e) (4 : Int) = 0 ∨ (own m (F (e) (4 : Int)) ∧ tg (F (e) (4 : Int)) = 8) := by have z := HC_r (c := 7) (q := 4) hC ho4.1 ho4.2 (by decide) rfl; rw [show F (e) ((4 : Nat) : Int) = F (e) (4 : Int) from rfl] at z; exact z
      refine cx_vi (c := 11) (a := me) (st := []) (as := [rv (F (e) (4 : Int))]) rfl rfl rfl o_me t_me (by decide) rfl ⟨rfl, rfl, (Nat.le_of_ble_eq_true rfl)⟩ rfl (hE6 (dd := d) (R := R) (m := m) (tg := tg) (ln := ln) (F := F) (me := me) (e := F (e) (4 : Int)) (hd := by omega) (hC := hC) (o_me := o_me) (t_me := t_me) (y_e := y9) (c_PSx := c_PSx) (c_NT := c_NT) (n_e := (SN_w (k' := kk - 1) (SN_c hC c_NT n_e (own_z ho4.1) (by omega)) (by omega)))) (fun o V' hq => ?_)
      obtain ⟨F10, rfl, rfl, hC11, hM12, c13, -⟩ := hq
      have hM14 : Fq 0 [(7, 11), (8, 15), (8, 16), (8, 17), (8, 18), (12, 2), (12, 4), (24, -5)] m tg F F10 := Fq_t (ln := ln) (ln1 := ln) hM0 Ex_r hM12 (by decide) (Or.inl rfl)
      refine Or.inl ⟨rfl, ?_⟩
      refine jx_ld (pc' := 30) (l' := L0) (st' := [rv (me)]) rfl (jl_rvn g1) ?_
      refine jx_ld (pc' := 31) (l' := L0) (st' := [rv (e), rv (me)]) rfl (jl_rvn g2) ?_
      refine cx_gr (pc' := 34) (c := 7) (q := 5) (v := F (e) (5 : Int)) rfl rfl (by decide) (by decide) rfl rfl ho4.1 ho4.2 (show F10 (e) (5 : Int) = F (e) (5 : Int) from hM12 _ _ ho4.1 (own_z ho4.1) (by rw [ho4.2]; rfl)) ?_
      have y15 : F (e) (5 : Int) = 0 ∨ (own m (F (e) (5 : Int)) ∧ tg (F (e) (5 : Int)) = 8) := by have z := HC_r (c := 7) (q := 5) hC11 ho4.1 ho4.2 (by decide) rfl; rw [show F10 (e) ((5 : Nat) : Int) = F (e) (5 : Int) from (show F10 (e) (5 : Int) = F (e) (5 : Int) from hM12 _ _ ho4.1 (own_z ho4.1) (by rw [ho4.2]; rfl))] at z; exact z
      refine cx_vi (c := 11) (a := me) (st := []) (as := [rv (F (e) (5 : Int))]) rfl rfl rfl o_me t_me (by decide) rfl ⟨rfl, rfl, (Nat.le_of_ble_eq_true rfl)⟩ rfl (hE6 (dd := d) (R := R) (m := m) (tg := tg) (ln := ln) (F := F10) (me := me) (e := F (e) (5 : Int)) (hd := by omega) (hC := hC11) (o_me := o_me) (t_me := t_me) (y_e := y15) (c_PSx := c13) (c_NT := NT_q hC c_NT hM14 rfl) (n_e := (SN_q (SN_w (k' := kk - 1) (SN_c hC c_NT n_e (own_z ho4.1) (by omega)) (by omega)) hM14 rfl rfl))) (fun o V' hq => ?_)
      obtain ⟨F16, rfl, rfl, hC17, hM18, c19, -⟩ := hq
      have hM20 : Fq 0 [(7, 11), (8, 15), (8, 16), (8, 17), (8, 18), (12, 2), (12, 4), (24, -5)] m tg F F16 := Fq_t (ln := ln) (ln1 := ln) hM14 Ex_r hM18 (by decide) (Or.inl rfl)
      refine Or.inl ⟨rfl, ?_⟩
      refine jx_rt (v := none) rfl rfl rfl rfl rfl rfl ?_
      exact ⟨F16, rfl, rfl, hC17, hM20, PSx_m c19 (by omega), trivial⟩
    · have _q := h8
      refine jx_ld (pc' := 15) (l' := L0) (st' := [rv (me)]) rfl (jl_rvn g1) ?_
      refine jx_ld (pc' := 16) (l' := L0) (st' := [rv (e), rv (me)]) rfl (jl_rvn g2) ?_
      refine jx_ar (pc' := 17) (st' := [.int (i32 (1)), rv (e), rv (me)]) rfl rfl rfl rfl ?_
      refine cx_vi (c := 11) (a := me) (st := []) (as := [rv (e), .int (i32 (1))]) rfl rfl rfl o_me t_me (by decide) rfl ⟨rfl, rfl, (Nat.le_of_ble_eq_true rfl)⟩ rfl (k_LUses_use (dd := d) (R := R) (m := m) (tg := tg) (ln := ln) (F := F) (kk := kk) (hE := hE) (me := me) (p := e) (fl := 1) (hd := by omega) (hC := hC) (o_me := o_me) (t_me := t_me) (y_p := (Or.inr ⟨ho4.1, ho4.2⟩)) (h_fl := by omega) (c_PSx := c_PSx) (c_NT := c_NT) (n_p := (SN_w n_e (by omega)))) (fun o V' hq => ?_)
      obtain ⟨F21, rfl, rfl, hC22, hM23, c24, -⟩ := hq
      have hM25 : Fq 0 [(7, 11), (8, 15), (8, 16), (8, 17), (8, 18), (12, 2), (12, 4), (24, -5)] m tg F F21 := Fq_t (ln := ln) (ln1 := ln) hM0 Ex_r hM23 (by decide) (Or.inl rfl)
      refine Or.inl ⟨rfl, ?_⟩
      refine jx_rt (v := none) rfl rfl rfl rfl rfl rfl ?_
      exact ⟨F21, rfl, rfl, hC22, hM25, PSx_m c24 (by omega), trivial⟩
  · have _q := h3
    refine jx_rt (v := none) rfl rfl rfl rfl rfl rfl ?_
    exact ⟨F, rfl, rfl, hC, hM0, PSx_m c_PSx (by omega), trivial⟩
theorem URx_all (X : jX) : ∀ k, URx X k
  | 0 => @k_LUses_read X 0 (fun h => absurd h (by decide))
  | k + 1 => @k_LUses_read X (k + 1) (fun _ => URx_all X k)
