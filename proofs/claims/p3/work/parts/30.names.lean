/-- the lines' table -/
def LT (G : Nat → Int) (A : Nat → Nat → Int) : Prop := ∀ i : Nat, (i : Int) < G 3 → A 3 i < A 4 i ∧ ((i : Int) + 1 < G 3 → A 4 i < A 3 (i + 1))
theorem LT_ext {G G_q : Nat → Int} {A A_q : Nat → Nat → Int} (h1 : G_q 3 = G 3) (h2 : A_q 3 = A 3) (h3 : A_q 4 = A 4) (h : LT G A) : LT G_q A_q := by
  unfold LT at h ⊢
  rw [h1, h2, h3]
  exact h

set_option maxRecDepth 20000 in
set_option maxHeartbeats 4000000 in
theorem c_openLine {X : jX} {dd : Nat} {c0 c1 : jC} {G : Nat → Int} {A : Nat → Nat → Int} {T : jH} {ln le lf : Int} (hd : 5 ≤ dd) (hW : Wk G A) (e_ln : G 9 = ln) (e_le : A 4 (ln).toNat = le) (e_lf : A 3 (ln).toNat = lf) (p_0 : lf ≤ le) : wk X dd 258 [.ref 66] (rV c0 c1 G A T) (fun o V_q => ∃ (G_q : Nat → Int) (A_q : Nat → Nat → Int) (at2 : Int) (tk2 : Int) (op2 : Int), V_q = rV c0 c1 G_q A_q T ∧ o = .inl none ∧ Wk G_q A_q ∧ Fr [10, 11, 12, 13, 14, 15] [] G A G_q A_q ∧ G_q 10 = at2 ∧ G_q 11 = tk2 ∧ G_q 15 = op2 ∧ (lf ≤ at2) ∧ (at2 ≤ le) ∧ (2 * lf ≤ 2 * at2 - tz tk2) ∧ (op2 = 0) ∧ True) := by
  obtain ⟨d, rfl⟩ : ∃ d, dd = d + 1 := ⟨dd - 1, by omega⟩
  refine wk_of (e := jm258) rfl (Nat.le_of_ble_eq_true rfl) ?_
  show wj X d jm258 (0, [(0, .ref 66)], [], rV c0 c1 G A T) _
  have hF0 : Fr [10, 11, 12, 13, 14, 15] [] G A G A := Fr_rf
  have b_ln : (0 : Int) ≤ ln ∧ ln ≤ 3000 := e_ln ▸ hW.1 9
  have b_le : (0 : Int) ≤ le ∧ le ≤ 3000 := e_le ▸ hW.2 4 _
  have b_lf : (0 : Int) ≤ lf ∧ lf ≤ 3000 := e_lf ▸ hW.2 3 _
  refine jx_ld (pc_q := 1) (l_q := [(0, .ref 66)]) (st_q := [.ref 66]) rfl (jl_aloadn rfl) ?_
  refine jx_ld (pc_q := 2) (l_q := [(0, .ref 66)]) (st_q := [.ref 66, .ref 66]) rfl (jl_aloadn rfl) ?_
  refine jr_get (pc_q := 5) (i := 6) (v := .ref 70) rfl rfl (by decide) rfl rfl ?_
  refine jx_ld (pc_q := 6) (l_q := [(0, .ref 66)]) (st_q := [.ref 66, .ref 70, .ref 66]) rfl (jl_aloadn rfl) ?_
  refine jr_get (pc_q := 9) (i := 9) (v := .int (i32 (ln))) rfl rfl (by decide) (rFv_eq (by decide) (show G 9 = ln from (e_ln))) rfl ?_
  refine jr_ldv (pc_q := 10) (i := 3) (m := 3001) (z := ln) (y := lf) rfl (by decide) rfl (by decide) (Int.le_trans (by decide : (0 : Int) ≤ 0) b_ln.1) (Int.lt_of_le_of_lt b_ln.2 (by decide : (3000 : Int) < ((3001 : Nat) : Int))) rfl (show A 3 (ln).toNat = lf from (e_lf)) ?_
  refine jr_put (pc_q := 13) (i := 10) (z := lf) rfl rfl (by decide) rfl rfl rfl rfl rfl rfl ?_
  have hW1 : Wk (uG G 10 (lf)) A := Wk_g hW (show (0 : Int) ≤ lf by omega) (show lf ≤ (3002 : Int) by omega)
  have hF2 := Fr_g (z := lf) (i := 10) hF0 (by decide)
  refine jx_ld (pc_q := 14) (l_q := [(0, .ref 66)]) (st_q := [.ref 66]) rfl (jl_aloadn rfl) ?_
  refine jx_ar (pc_q := 15) (st_q := [.int (i32 (0)), .ref 66]) rfl rfl rfl rfl ?_
  refine jr_put (pc_q := 18) (i := 15) (z := 0) rfl rfl (by decide) rfl rfl rfl rfl rfl rfl ?_
  have hW3 : Wk (uG (uG G 10 (lf)) 15 (0)) A := Wk_g hW1 (show (-2147483648 : Int) ≤ 0 by omega) (show 0 ≤ (2147483647 : Int) by omega)
  have hF4 := Fr_g (z := 0) (i := 15) hF2 (by decide)
  refine jx_ld (pc_q := 19) (l_q := [(0, .ref 66)]) (st_q := [.ref 66]) rfl (jl_aloadn rfl) ?_
  refine jx_vr (pc_q := 22) (as := []) (st := []) rfl rfl rfl rfl ⟨rfl, rfl, Nat.le_of_ble_eq_true rfl⟩ rfl rfl (c_next (dd := d) (hd := by omega) (hW := hW3)  (ln := ln) (e_ln := show (uG (uG G 10 (lf)) 15 (0)) 9 = ln from (e_ln)) (le := le) (e_le := show A 4 (ln).toNat = le from (e_le)) (at0 := lf) (e_at0 := show (uG (uG G 10 (lf)) 15 (0)) 10 = lf from rfl)    (p_0 := by omega)) (fun o V_q hq => ?_)
  obtain ⟨G5, A6, at2_7, tk2_8, rfl, rfl, hW9, hF10, e11, e12, p13, p14, p15, -⟩ := hq
  have hF17 := Fr_tr hF4 hF10 (Fr_sub (by decide)) (Fr_sub (by decide))
  have bat2_7 : (0 : Int) ≤ at2_7 ∧ at2_7 ≤ 3002 := e11 ▸ hW9.1 10
  have ztk2_8 := tz_b tk2_8
  have btk2_8 : (0 : Int) ≤ tk2_8 ∧ tk2_8 ≤ 5 := e12 ▸ hW9.1 11
  refine .inl ⟨rfl, ?_⟩
  refine jx_rt (v := none) rfl rfl rfl rfl rfl rfl ?_
  have z18 := tz_f (tk2_8)
  exact ⟨_, _, at2_7, tk2_8, 0, rfl, rfl, hW9, hF17, (e11), (e12), (hF10.1 15 rfl), by omega, by omega, by omega, by omega, trivial⟩
set_option maxRecDepth 20000 in
set_option maxHeartbeats 4000000 in
theorem c_need {X : jX} {dd : Nat} {c0 c1 : jC} {G : Nat → Int} {A : Nat → Nat → Int} {T : jH} {g : Int} {ln le at0 fk tk0 : Int} (hd : 6 ≤ dd) (hW : Wk G A) (e_ln : G 9 = ln) (e_le : A 4 (ln).toNat = le) (e_at0 : G 10 = at0) (e_fk : G 16 = fk) (e_tk0 : G 11 = tk0) (h_g : (0 : Int) ≤ g ∧ g ≤ 1) (p_0 : at0 ≤ le) : wk X dd 269 [.ref 66, .int (i32 g)] (rV c0 c1 G A T) (fun o V_q => ∃ (G_q : Nat → Int) (A_q : Nat → Nat → Int) (at2 : Int) (tk2 : Int) (fk2 : Int), V_q = rV c0 c1 G_q A_q T ∧ o = .inl none ∧ Wk G_q A_q ∧ Fr [10, 11, 12, 13, 14, 16, 17, 18] [] G A G_q A_q ∧ G_q 10 = at2 ∧ G_q 11 = tk2 ∧ G_q 16 = fk2 ∧ (at0 ≤ at2) ∧ (at2 ≤ le) ∧ (((1 ≤ fk2) ∧ (at2 = at0) ∧ (tk2 = tk0) ∧ (tz tk2 = tz tk0)) ∨ ((fk2 = 0) ∧ (fk = 0) ∧ (g = 1) ∧ (2 * at0 ≤ 2 * at2 - tz tk2)))) := by
  obtain ⟨d, rfl⟩ : ∃ d, dd = d + 1 := ⟨dd - 1, by omega⟩
  refine wk_of (e := jm269) rfl (Nat.le_of_ble_eq_true rfl) ?_
  show wj X d jm269 (0, [(0, .ref 66), (1, .int (i32 (g)))], [], rV c0 c1 G A T) _
  have hF0 : Fr [10, 11, 12, 13, 14, 16, 17, 18] [] G A G A := Fr_rf
  have b_ln : (0 : Int) ≤ ln ∧ ln ≤ 3000 := e_ln ▸ hW.1 9
  have b_le : (0 : Int) ≤ le ∧ le ≤ 3000 := e_le ▸ hW.2 4 _
  have b_at0 : (0 : Int) ≤ at0 ∧ at0 ≤ 3002 := e_at0 ▸ hW.1 10
  have b_fk : (0 : Int) ≤ fk ∧ fk ≤ 6 := e_fk ▸ hW.1 16
  have z_tk0 := tz_f tk0
  have b_tk0 : (0 : Int) ≤ tk0 ∧ tk0 ≤ 5 := e_tk0 ▸ hW.1 11
  refine jx_ld (pc_q := 1) (l_q := [(0, .ref 66), (1, .int (i32 (g)))]) (st_q := [.ref 66]) rfl (jl_aloadn rfl) ?_
  refine jx_vr (pc_q := 4) (as := []) (st := []) rfl rfl rfl rfl ⟨rfl, rfl, Nat.le_of_ble_eq_true rfl⟩ rfl rfl (c_bad (dd := d) (hd := by omega) (hW := hW)  (fk := fk) (e_fk := show G 16 = fk from (e_fk))    ) (fun o V_q hq => ?_)
  obtain ⟨r1, rfl, rfl, b2, q3⟩ := hq
  refine .inr ⟨_, rfl, ?_⟩
  rcases q3 with ⟨rfl, a4⟩ | ⟨rfl, a5⟩
  · have _q : True := trivial
    refine jx_if_eq (pc_q := 7) (tg := 8) rfl rfl rfl (by decide) (by decide) (fun h6 => ?_) (fun h6 => ?_)
    · have _q := h6
      exact absurd h6 (by omega)
    · have _q := h6
      refine jx_rt (v := none) rfl rfl rfl rfl rfl rfl ?_
      have z7 := tz_f (tk0)
      exact ⟨_, _, at0, tk0, fk, rfl, rfl, hW, hF0, (e_at0), (e_tk0), (e_fk), by omega, by omega, by first | exact Or.inl (⟨by omega, by omega, by omega, by omega⟩) | exact Or.inr ((⟨by omega, by omega, by omega, by omega⟩))⟩
  · have _q : True := trivial
    refine jx_if_eq (pc_q := 7) (tg := 8) rfl rfl rfl (by decide) (by decide) (fun h8 => ?_) (fun h8 => ?_)
    · have _q := h8
      refine jx_ld (pc_q := 9) (l_q := [(0, .ref 66), (1, .int (i32 (g)))]) (st_q := [.int (i32 (g))]) rfl (jl_iloadn rfl) ?_
      refine jx_if_eq (pc_q := 12) (tg := 19) rfl rfl rfl (Int.le_trans (by decide : (-2147483648 : Int) ≤ 0) h_g.1) (Int.le_trans h_g.2 (by decide : (1 : Int) ≤ 2147483647)) (fun h9 => ?_) (fun h9 => ?_)
      · have _q := h9
        refine jx_ld (pc_q := 20) (l_q := [(0, .ref 66), (1, .int (i32 (g)))]) (st_q := [.ref 66]) rfl (jl_aloadn rfl) ?_
        refine jx_ar (pc_q := 21) (st_q := [.int (i32 (1)), .ref 66]) rfl rfl rfl rfl ?_
        refine jx_ld (pc_q := 22) (l_q := [(0, .ref 66), (1, .int (i32 (g)))]) (st_q := [.ref 66, .int (i32 (1)), .ref 66]) rfl (jl_aloadn rfl) ?_
        have b10 : (-3000 : Int) ≤ G 12 ∧ G 12 ≤ 3002 := hW.1 12
        refine jr_get (pc_q := 25) (i := 12) (v := .int (i32 (G 12))) rfl rfl (by decide) rfl rfl ?_
        refine jx_vr (pc_q := 28) (as := [.int (i32 (1)), .int (i32 (G 12))]) (st := []) rfl rfl rfl rfl ⟨rfl, rfl, Nat.le_of_ble_eq_true rfl⟩ rfl rfl (c_fail (dd := d) (hd := by omega) (hW := hW) (kind := 1) (place := G 12) (fk := fk) (e_fk := show G 16 = fk from (e_fk))  (h_kind := ⟨(by decide), (by decide)⟩) (h_place := ⟨(Int.le_trans (by decide : (-2147483648 : Int) ≤ -3000) b10.1), (Int.le_trans b10.2 (by decide : (3002 : Int) ≤ 2147483647))⟩)  (p_0 := by omega) (p_1 := by omega)) (fun o V_q hq => ?_)
        obtain ⟨G11, A12, fk2_13, rfl, rfl, hW14, hF15, e16, p17, -⟩ := hq
        have hF19 := Fr_tr hF0 hF15 (Fr_sub (by decide)) (Fr_sub (by decide))
        have bfk2_13 : (0 : Int) ≤ fk2_13 ∧ fk2_13 ≤ 6 := e16 ▸ hW14.1 16
        refine .inl ⟨rfl, ?_⟩
        refine jx_rt (v := none) rfl rfl rfl rfl rfl rfl ?_
        have z20 := tz_f (tk0)
        exact ⟨_, _, at0, tk0, fk2_13, rfl, rfl, hW14, hF19, ((hF15.1 10 rfl).trans (e_at0)), ((hF15.1 11 rfl).trans (e_tk0)), (e16), by omega, by omega, by first | exact Or.inl (⟨by omega, by omega, by omega, by omega⟩) | exact Or.inr ((⟨by omega, by omega, by omega, by omega⟩))⟩
      · have _q := h9
        refine jx_ld (pc_q := 13) (l_q := [(0, .ref 66), (1, .int (i32 (g)))]) (st_q := [.ref 66]) rfl (jl_aloadn rfl) ?_
        refine jx_vr (pc_q := 16) (as := []) (st := []) rfl rfl rfl rfl ⟨rfl, rfl, Nat.le_of_ble_eq_true rfl⟩ rfl rfl (c_next (dd := d) (hd := by omega) (hW := hW)  (ln := ln) (e_ln := show G 9 = ln from (e_ln)) (le := le) (e_le := show A 4 (ln).toNat = le from (e_le)) (at0 := at0) (e_at0 := show G 10 = at0 from (e_at0))    (p_0 := by omega)) (fun o V_q hq => ?_)
        obtain ⟨G21, A22, at2_23, tk2_24, rfl, rfl, hW25, hF26, e27, e28, p29, p30, p31, -⟩ := hq
        have hF33 := Fr_tr hF0 hF26 (Fr_sub (by decide)) (Fr_sub (by decide))
        have bat2_23 : (0 : Int) ≤ at2_23 ∧ at2_23 ≤ 3002 := e27 ▸ hW25.1 10
        have ztk2_24 := tz_b tk2_24
        have btk2_24 : (0 : Int) ≤ tk2_24 ∧ tk2_24 ≤ 5 := e28 ▸ hW25.1 11
        refine .inl ⟨rfl, ?_⟩
        refine jx_go (tg := 28) rfl rfl ?_
        refine jx_rt (v := none) rfl rfl rfl rfl rfl rfl ?_
        have z34 := tz_f (tk2_24)
        exact ⟨_, _, at2_23, tk2_24, fk, rfl, rfl, hW25, hF33, (e27), (e28), ((hF26.1 16 rfl).trans (e_fk)), by omega, by omega, by first | exact Or.inl (⟨by omega, by omega, by omega, by omega⟩) | exact Or.inr ((⟨by omega, by omega, by omega, by omega⟩))⟩
    · have _q := h8
      exact absurd h8 (by omega)
set_option maxRecDepth 20000 in
set_option maxHeartbeats 4000000 in
theorem c_endLine {X : jX} {dd : Nat} {c0 c1 : jC} {G : Nat → Int} {A : Nat → Nat → Int} {T : jH} {ln li fk tk0 : Int} (hd : 2 ≤ dd) (hW : Wk G A) (e_ln : G 9 = ln) (e_li : G 3 = li) (e_fk : G 16 = fk) (e_tk0 : G 11 = tk0) (p_0 : ln < li ∨ 1 ≤ fk) : wk X dd 270 [.ref 66] (rV c0 c1 G A T) (fun o V_q => ∃ (G_q : Nat → Int) (A_q : Nat → Nat → Int) (ln2 : Int) (fk2 : Int), V_q = rV c0 c1 G_q A_q T ∧ o = .inl none ∧ Wk G_q A_q ∧ Fr [9, 16, 17, 18] [] G A G_q A_q ∧ G_q 9 = ln2 ∧ G_q 16 = fk2 ∧ (((fk2 = 0) ∧ (ln2 = ln + 1) ∧ (fk = 0) ∧ (tk0 = 0) ∧ (tz tk0 = 0)) ∨ ((1 ≤ fk2) ∧ (ln2 = ln)))) := by
  obtain ⟨d, rfl⟩ : ∃ d, dd = d + 1 := ⟨dd - 1, by omega⟩
  refine wk_of (e := jm270) rfl (Nat.le_of_ble_eq_true rfl) ?_
  show wj X d jm270 (0, [(0, .ref 66)], [], rV c0 c1 G A T) _
  have hF0 : Fr [9, 16, 17, 18] [] G A G A := Fr_rf
  have b_ln : (0 : Int) ≤ ln ∧ ln ≤ 3000 := e_ln ▸ hW.1 9
  have b_li : (0 : Int) ≤ li ∧ li ≤ 3000 := e_li ▸ hW.1 3
  have b_fk : (0 : Int) ≤ fk ∧ fk ≤ 6 := e_fk ▸ hW.1 16
  have z_tk0 := tz_f tk0
  have b_tk0 : (0 : Int) ≤ tk0 ∧ tk0 ≤ 5 := e_tk0 ▸ hW.1 11
  refine jx_ld (pc_q := 1) (l_q := [(0, .ref 66)]) (st_q := [.ref 66]) rfl (jl_aloadn rfl) ?_
  refine jx_vr (pc_q := 4) (as := []) (st := []) rfl rfl rfl rfl ⟨rfl, rfl, Nat.le_of_ble_eq_true rfl⟩ rfl rfl (c_bad (dd := d) (hd := by omega) (hW := hW)  (fk := fk) (e_fk := show G 16 = fk from (e_fk))    ) (fun o V_q hq => ?_)
  obtain ⟨r1, rfl, rfl, b2, q3⟩ := hq
  refine .inr ⟨_, rfl, ?_⟩
  rcases q3 with ⟨rfl, a4⟩ | ⟨rfl, a5⟩
  · have _q : True := trivial
    refine jx_if_ne (pc_q := 7) (tg := 23) rfl rfl rfl (by decide) (by decide) (fun h6 => ?_) (fun h6 => ?_)
    · have _q := h6
      refine jx_ld (pc_q := 24) (l_q := [(0, .ref 66)]) (st_q := [.ref 66]) rfl (jl_aloadn rfl) ?_
      refine jx_vr (pc_q := 27) (as := []) (st := []) rfl rfl rfl rfl ⟨rfl, rfl, Nat.le_of_ble_eq_true rfl⟩ rfl rfl (c_bad (dd := d) (hd := by omega) (hW := hW)  (fk := fk) (e_fk := show G 16 = fk from (e_fk))    ) (fun o V_q hq => ?_)
      obtain ⟨r7, rfl, rfl, b8, q9⟩ := hq
      refine .inr ⟨_, rfl, ?_⟩
      rcases q9 with ⟨rfl, a10⟩ | ⟨rfl, a11⟩
      · have _q : True := trivial
        refine jx_if_ne (pc_q := 30) (tg := 40) rfl rfl rfl (by decide) (by decide) (fun h12 => ?_) (fun h12 => ?_)
        · have _q := h12
          refine jx_rt (v := none) rfl rfl rfl rfl rfl rfl ?_
          exact ⟨_, _, ln, fk, rfl, rfl, hW, hF0, (e_ln), (e_fk), by first | exact Or.inl (⟨by omega, by omega, by omega, by omega, by omega⟩) | exact Or.inr ((⟨by omega, by omega⟩))⟩
        · have _q := h12
          exact absurd h12 (by omega)
      · have _q : True := trivial
        exfalso
        omega
    · have _q := h6
      exact absurd h6 (by omega)
  · have _q : True := trivial
    refine jx_if_ne (pc_q := 7) (tg := 23) rfl rfl rfl (by decide) (by decide) (fun h13 => ?_) (fun h13 => ?_)
    · have _q := h13
      exact absurd h13 (by omega)
    · have _q := h13
      refine jx_ld (pc_q := 8) (l_q := [(0, .ref 66)]) (st_q := [.ref 66]) rfl (jl_aloadn rfl) ?_
      have z14 := tz_f (tk0)
      refine jr_get (pc_q := 11) (i := 11) (v := .int (i32 (tk0))) rfl rfl (by decide) (rFv_eq (by decide) (show G 11 = tk0 from (e_tk0))) rfl ?_
      refine jx_if_eq (pc_q := 14) (tg := 23) rfl rfl rfl (Int.le_trans (by decide : (-2147483648 : Int) ≤ 0) b_tk0.1) (Int.le_trans b_tk0.2 (by decide : (5 : Int) ≤ 2147483647)) (fun h15 => ?_) (fun h15 => ?_)
      · have _q := h15
        refine jx_ld (pc_q := 24) (l_q := [(0, .ref 66)]) (st_q := [.ref 66]) rfl (jl_aloadn rfl) ?_
        refine jx_vr (pc_q := 27) (as := []) (st := []) rfl rfl rfl rfl ⟨rfl, rfl, Nat.le_of_ble_eq_true rfl⟩ rfl rfl (c_bad (dd := d) (hd := by omega) (hW := hW)  (fk := fk) (e_fk := show G 16 = fk from (e_fk))    ) (fun o V_q hq => ?_)
        obtain ⟨r16, rfl, rfl, b17, q18⟩ := hq
        refine .inr ⟨_, rfl, ?_⟩
        rcases q18 with ⟨rfl, a19⟩ | ⟨rfl, a20⟩
        · have _q : True := trivial
          exfalso
          omega
        · have _q : True := trivial
          refine jx_if_ne (pc_q := 30) (tg := 40) rfl rfl rfl (by decide) (by decide) (fun h21 => ?_) (fun h21 => ?_)
          · have _q := h21
            exact absurd h21 (by omega)
          · have _q := h21
            refine jx_ld (pc_q := 31) (l_q := [(0, .ref 66)]) (st_q := [.ref 66]) rfl (jl_aloadn rfl) ?_
            refine jx_ar (pc_q := 32) (st_q := [.ref 66, .ref 66]) rfl rfl rfl rfl ?_
            refine jr_get (pc_q := 35) (i := 9) (v := .int (i32 (ln))) rfl rfl (by decide) (rFv_eq (by decide) (show G 9 = ln from (e_ln))) rfl ?_
            refine jx_ar (pc_q := 36) (st_q := [.int (i32 (1)), .int (i32 (ln)), .ref 66]) rfl rfl rfl rfl ?_
            refine jx_add (pc_q := 37) rfl rfl ?_
            refine jr_put (pc_q := 40) (i := 9) (z := (ln + 1)) rfl rfl (by decide) rfl rfl rfl rfl rfl rfl ?_
            have hW22 : Wk (uG G 9 ((ln + 1))) A := Wk_g hW (show (0 : Int) ≤ (ln + 1) by omega) (show (ln + 1) ≤ (3000 : Int) by omega)
            have hF23 := Fr_g (z := (ln + 1)) (i := 9) hF0 (by decide)
            refine jx_rt (v := none) rfl rfl rfl rfl rfl rfl ?_
            exact ⟨_, _, (ln + 1), fk, rfl, rfl, hW22, hF23, rfl, (e_fk), by first | exact Or.inl (⟨by omega, by omega, by omega, by omega, by omega⟩) | exact Or.inr ((⟨by omega, by omega⟩))⟩
      · have _q := h15
        refine jx_ld (pc_q := 15) (l_q := [(0, .ref 66)]) (st_q := [.ref 66]) rfl (jl_aloadn rfl) ?_
        refine jx_ar (pc_q := 16) (st_q := [.int (i32 (1)), .ref 66]) rfl rfl rfl rfl ?_
        refine jx_ld (pc_q := 17) (l_q := [(0, .ref 66)]) (st_q := [.ref 66, .int (i32 (1)), .ref 66]) rfl (jl_aloadn rfl) ?_
        have b24 : (-3000 : Int) ≤ G 12 ∧ G 12 ≤ 3002 := hW.1 12
        refine jr_get (pc_q := 20) (i := 12) (v := .int (i32 (G 12))) rfl rfl (by decide) rfl rfl ?_
        refine jx_vr (pc_q := 23) (as := [.int (i32 (1)), .int (i32 (G 12))]) (st := []) rfl rfl rfl rfl ⟨rfl, rfl, Nat.le_of_ble_eq_true rfl⟩ rfl rfl (c_fail (dd := d) (hd := by omega) (hW := hW) (kind := 1) (place := G 12) (fk := fk) (e_fk := show G 16 = fk from (e_fk))  (h_kind := ⟨(by decide), (by decide)⟩) (h_place := ⟨(Int.le_trans (by decide : (-2147483648 : Int) ≤ -3000) b24.1), (Int.le_trans b24.2 (by decide : (3002 : Int) ≤ 2147483647))⟩)  (p_0 := by omega) (p_1 := by omega)) (fun o V_q hq => ?_)
        obtain ⟨G25, A26, fk2_27, rfl, rfl, hW28, hF29, e30, p31, -⟩ := hq
        have hF33 := Fr_tr hF0 hF29 (Fr_sub (by decide)) (Fr_sub (by decide))
        have bfk2_27 : (0 : Int) ≤ fk2_27 ∧ fk2_27 ≤ 6 := e30 ▸ hW28.1 16
        refine .inl ⟨rfl, ?_⟩
        refine jx_ld (pc_q := 24) (l_q := [(0, .ref 66)]) (st_q := [.ref 66]) rfl (jl_aloadn rfl) ?_
        refine jx_vr (pc_q := 27) (as := []) (st := []) rfl rfl rfl rfl ⟨rfl, rfl, Nat.le_of_ble_eq_true rfl⟩ rfl rfl (c_bad (dd := d) (hd := by omega) (hW := hW28)  (fk := fk2_27) (e_fk := show G25 16 = fk2_27 from (e30))    ) (fun o V_q hq => ?_)
        obtain ⟨r34, rfl, rfl, b35, q36⟩ := hq
        refine .inr ⟨_, rfl, ?_⟩
        rcases q36 with ⟨rfl, a37⟩ | ⟨rfl, a38⟩
        · have _q : True := trivial
          refine jx_if_ne (pc_q := 30) (tg := 40) rfl rfl rfl (by decide) (by decide) (fun h39 => ?_) (fun h39 => ?_)
          · have _q := h39
            refine jx_rt (v := none) rfl rfl rfl rfl rfl rfl ?_
            exact ⟨_, _, ln, fk2_27, rfl, rfl, hW28, hF33, ((hF29.1 9 rfl).trans (e_ln)), (e30), by first | exact Or.inl (⟨by omega, by omega, by omega, by omega, by omega⟩) | exact Or.inr ((⟨by omega, by omega⟩))⟩
          · have _q := h39
            exact absurd h39 (by omega)
        · have _q : True := trivial
          exfalso
          omega
set_option maxRecDepth 20000 in
set_option maxHeartbeats 4000000 in
theorem c_open {X : jX} {dd : Nat} {c0 c1 : jC} {G : Nat → Int} {A : Nat → Nat → Int} {T : jH} {fk op0 : Int} (hd : 2 ≤ dd) (hW : Wk G A) (e_fk : G 16 = fk) (e_op0 : G 15 = op0) (p_0 : 0 ≤ op0 ∧ op0 ≤ 1000) : wk X dd 271 [.ref 66] (rV c0 c1 G A T) (fun o V_q => ∃ (G_q : Nat → Int) (A_q : Nat → Nat → Int) (fk2 : Int) (op2 : Int), V_q = rV c0 c1 G_q A_q T ∧ o = .inl none ∧ Wk G_q A_q ∧ Fr [15, 16, 17, 18] [] G A G_q A_q ∧ G_q 16 = fk2 ∧ G_q 15 = op2 ∧ (op2 = op0 + 1) ∧ (((1 ≤ fk2)) ∨ ((fk2 = 0) ∧ (fk = 0) ∧ (op0 < 8 ∨ 8 < op0)))) := by
  obtain ⟨d, rfl⟩ : ∃ d, dd = d + 1 := ⟨dd - 1, by omega⟩
  refine wk_of (e := jm271) rfl (Nat.le_of_ble_eq_true rfl) ?_
  show wj X d jm271 (0, [(0, .ref 66)], [], rV c0 c1 G A T) _
  have hF0 : Fr [15, 16, 17, 18] [] G A G A := Fr_rf
  have b_fk : (0 : Int) ≤ fk ∧ fk ≤ 6 := e_fk ▸ hW.1 16
  have b_op0 : (-2147483648 : Int) ≤ op0 ∧ op0 ≤ 2147483647 := e_op0 ▸ hW.1 15
  refine jx_ld (pc_q := 1) (l_q := [(0, .ref 66)]) (st_q := [.ref 66]) rfl (jl_aloadn rfl) ?_
  refine jx_vr (pc_q := 4) (as := []) (st := []) rfl rfl rfl rfl ⟨rfl, rfl, Nat.le_of_ble_eq_true rfl⟩ rfl rfl (c_bad (dd := d) (hd := by omega) (hW := hW)  (fk := fk) (e_fk := show G 16 = fk from (e_fk))    ) (fun o V_q hq => ?_)
  obtain ⟨r1, rfl, rfl, b2, q3⟩ := hq
  refine .inr ⟨_, rfl, ?_⟩
  rcases q3 with ⟨rfl, a4⟩ | ⟨rfl, a5⟩
  · have _q : True := trivial
    refine jx_if_ne (pc_q := 7) (tg := 25) rfl rfl rfl (by decide) (by decide) (fun h6 => ?_) (fun h6 => ?_)
    · have _q := h6
      refine jx_ld (pc_q := 26) (l_q := [(0, .ref 66)]) (st_q := [.ref 66]) rfl (jl_aloadn rfl) ?_
      refine jx_ar (pc_q := 27) (st_q := [.ref 66, .ref 66]) rfl rfl rfl rfl ?_
      refine jr_get (pc_q := 30) (i := 15) (v := .int (i32 (op0))) rfl rfl (by decide) (rFv_eq (by decide) (show G 15 = op0 from (e_op0))) rfl ?_
      refine jx_ar (pc_q := 31) (st_q := [.int (i32 (1)), .int (i32 (op0)), .ref 66]) rfl rfl rfl rfl ?_
      refine jx_add (pc_q := 32) rfl rfl ?_
      refine jr_put (pc_q := 35) (i := 15) (z := (op0 + 1)) rfl rfl (by decide) rfl rfl rfl rfl rfl rfl ?_
      have hW7 : Wk (uG G 15 ((op0 + 1))) A := Wk_g hW (show (-2147483648 : Int) ≤ (op0 + 1) by omega) (show (op0 + 1) ≤ (2147483647 : Int) by omega)
      have hF8 := Fr_g (z := (op0 + 1)) (i := 15) hF0 (by decide)
      refine jx_rt (v := none) rfl rfl rfl rfl rfl rfl ?_
      exact ⟨_, _, fk, (op0 + 1), rfl, rfl, hW7, hF8, (e_fk), rfl, by omega, by first | exact Or.inl (by omega) | exact Or.inr ((⟨by omega, by omega, by omega⟩))⟩
    · have _q := h6
      exact absurd h6 (by omega)
  · have _q : True := trivial
    refine jx_if_ne (pc_q := 7) (tg := 25) rfl rfl rfl (by decide) (by decide) (fun h9 => ?_) (fun h9 => ?_)
    · have _q := h9
      exact absurd h9 (by omega)
    · have _q := h9
      refine jx_ld (pc_q := 8) (l_q := [(0, .ref 66)]) (st_q := [.ref 66]) rfl (jl_aloadn rfl) ?_
      refine jr_get (pc_q := 11) (i := 15) (v := .int (i32 (op0))) rfl rfl (by decide) (rFv_eq (by decide) (show G 15 = op0 from (e_op0))) rfl ?_
      refine jx_ar (pc_q := 13) (st_q := [.int (i32 (8)), .int (i32 (op0))]) rfl rfl rfl rfl ?_
      refine jx_icmp_ne (pc_q := 16) (tg := 25) rfl rfl rfl (Int.le_trans (by decide : (-2147483648 : Int) ≤ -2147483648) b_op0.1) (Int.le_trans b_op0.2 (by decide : (2147483647 : Int) ≤ 2147483647)) (by decide) (by decide) (fun h10 => ?_) (fun h10 => ?_)
      · have _q := h10
        refine jx_ld (pc_q := 26) (l_q := [(0, .ref 66)]) (st_q := [.ref 66]) rfl (jl_aloadn rfl) ?_
        refine jx_ar (pc_q := 27) (st_q := [.ref 66, .ref 66]) rfl rfl rfl rfl ?_
        refine jr_get (pc_q := 30) (i := 15) (v := .int (i32 (op0))) rfl rfl (by decide) (rFv_eq (by decide) (show G 15 = op0 from (e_op0))) rfl ?_
        refine jx_ar (pc_q := 31) (st_q := [.int (i32 (1)), .int (i32 (op0)), .ref 66]) rfl rfl rfl rfl ?_
        refine jx_add (pc_q := 32) rfl rfl ?_
        refine jr_put (pc_q := 35) (i := 15) (z := (op0 + 1)) rfl rfl (by decide) rfl rfl rfl rfl rfl rfl ?_
        have hW11 : Wk (uG G 15 ((op0 + 1))) A := Wk_g hW (show (-2147483648 : Int) ≤ (op0 + 1) by omega) (show (op0 + 1) ≤ (2147483647 : Int) by omega)
        have hF12 := Fr_g (z := (op0 + 1)) (i := 15) hF0 (by decide)
        refine jx_rt (v := none) rfl rfl rfl rfl rfl rfl ?_
        exact ⟨_, _, fk, (op0 + 1), rfl, rfl, hW11, hF12, (e_fk), rfl, by omega, by first | exact Or.inl (by omega) | exact Or.inr ((⟨by omega, by omega, by omega⟩))⟩
      · have _q := h10
        refine jx_ld (pc_q := 17) (l_q := [(0, .ref 66)]) (st_q := [.ref 66]) rfl (jl_aloadn rfl) ?_
        refine jx_ar (pc_q := 18) (st_q := [.int (i32 (1)), .ref 66]) rfl rfl rfl rfl ?_
        refine jx_ld (pc_q := 19) (l_q := [(0, .ref 66)]) (st_q := [.ref 66, .int (i32 (1)), .ref 66]) rfl (jl_aloadn rfl) ?_
        have b13 : (-3000 : Int) ≤ G 12 ∧ G 12 ≤ 3002 := hW.1 12
        refine jr_get (pc_q := 22) (i := 12) (v := .int (i32 (G 12))) rfl rfl (by decide) rfl rfl ?_
        refine jx_vr (pc_q := 25) (as := [.int (i32 (1)), .int (i32 (G 12))]) (st := []) rfl rfl rfl rfl ⟨rfl, rfl, Nat.le_of_ble_eq_true rfl⟩ rfl rfl (c_fail (dd := d) (hd := by omega) (hW := hW) (kind := 1) (place := G 12) (fk := fk) (e_fk := show G 16 = fk from (e_fk))  (h_kind := ⟨(by decide), (by decide)⟩) (h_place := ⟨(Int.le_trans (by decide : (-2147483648 : Int) ≤ -3000) b13.1), (Int.le_trans b13.2 (by decide : (3002 : Int) ≤ 2147483647))⟩)  (p_0 := by omega) (p_1 := by omega)) (fun o V_q hq => ?_)
        obtain ⟨G14, A15, fk2_16, rfl, rfl, hW17, hF18, e19, p20, -⟩ := hq
        have hF22 := Fr_tr hF0 hF18 (Fr_sub (by decide)) (Fr_sub (by decide))
        have bfk2_16 : (0 : Int) ≤ fk2_16 ∧ fk2_16 ≤ 6 := e19 ▸ hW17.1 16
        refine .inl ⟨rfl, ?_⟩
        refine jx_ld (pc_q := 26) (l_q := [(0, .ref 66)]) (st_q := [.ref 66]) rfl (jl_aloadn rfl) ?_
        refine jx_ar (pc_q := 27) (st_q := [.ref 66, .ref 66]) rfl rfl rfl rfl ?_
        refine jr_get (pc_q := 30) (i := 15) (v := .int (i32 (op0))) rfl rfl (by decide) (rFv_eq (by decide) (show G14 15 = op0 from ((hF18.1 15 rfl).trans (e_op0)))) rfl ?_
        refine jx_ar (pc_q := 31) (st_q := [.int (i32 (1)), .int (i32 (op0)), .ref 66]) rfl rfl rfl rfl ?_
        refine jx_add (pc_q := 32) rfl rfl ?_
        refine jr_put (pc_q := 35) (i := 15) (z := (op0 + 1)) rfl rfl (by decide) rfl rfl rfl rfl rfl rfl ?_
        have hW23 : Wk (uG G14 15 ((op0 + 1))) A15 := Wk_g hW17 (show (-2147483648 : Int) ≤ (op0 + 1) by omega) (show (op0 + 1) ≤ (2147483647 : Int) by omega)
        have hF24 := Fr_g (z := (op0 + 1)) (i := 15) hF22 (by decide)
        refine jx_rt (v := none) rfl rfl rfl rfl rfl rfl ?_
        exact ⟨_, _, fk2_16, (op0 + 1), rfl, rfl, hW23, hF24, (e19), rfl, by omega, by first | exact Or.inl (by omega) | exact Or.inr ((⟨by omega, by omega, by omega⟩))⟩
set_option maxRecDepth 20000 in
set_option maxHeartbeats 4000000 in
theorem c_needLevel {X : jX} {dd : Nat} {c0 c1 : jC} {G : Nat → Int} {A : Nat → Nat → Int} {T : jH} {lv : Int} {ln li fk ll : Int} (hd : 2 ≤ dd) (hW : Wk G A) (e_ln : G 9 = ln) (e_li : G 3 = li) (e_fk : G 16 = fk) (e_ll : A 5 (ln).toNat = ll) (h_lv : (-2147483648 : Int) ≤ lv ∧ lv ≤ 2147483647) : wk X dd 272 [.ref 66, .int (i32 lv)] (rV c0 c1 G A T) (fun o V_q => ∃ (G_q : Nat → Int) (A_q : Nat → Nat → Int) (r : Int) (fk2 : Int), V_q = rV c0 c1 G_q A_q T ∧ o = .inl (some (.int (i32 r))) ∧ Wk G_q A_q ∧ Fr [16, 17, 18] [] G A G_q A_q ∧ ((0 : Int) ≤ r ∧ r ≤ 1) ∧ G_q 16 = fk2 ∧ ((r = 1 ∧ (fk2 = 0) ∧ (fk = 0) ∧ (ln < li) ∧ (ll = lv)) ∨ (r = 0 ∧ (1 ≤ fk2)))) := by
  obtain ⟨d, rfl⟩ : ∃ d, dd = d + 1 := ⟨dd - 1, by omega⟩
  refine wk_of (e := jm272) rfl (Nat.le_of_ble_eq_true rfl) ?_
  show wj X d jm272 (0, [(0, .ref 66), (1, .int (i32 (lv)))], [], rV c0 c1 G A T) _
  have hF0 : Fr [16, 17, 18] [] G A G A := Fr_rf
  have b_ln : (0 : Int) ≤ ln ∧ ln ≤ 3000 := e_ln ▸ hW.1 9
  have b_li : (0 : Int) ≤ li ∧ li ≤ 3000 := e_li ▸ hW.1 3
  have b_fk : (0 : Int) ≤ fk ∧ fk ≤ 6 := e_fk ▸ hW.1 16
  have b_ll : (-1 : Int) ≤ ll ∧ ll ≤ 15 := e_ll ▸ hW.2 5 _
  refine jx_ld (pc_q := 1) (l_q := [(0, .ref 66), (1, .int (i32 (lv)))]) (st_q := [.ref 66]) rfl (jl_aloadn rfl) ?_
  refine jx_vr (pc_q := 4) (as := []) (st := []) rfl rfl rfl rfl ⟨rfl, rfl, Nat.le_of_ble_eq_true rfl⟩ rfl rfl (c_bad (dd := d) (hd := by omega) (hW := hW)  (fk := fk) (e_fk := show G 16 = fk from (e_fk))    ) (fun o V_q hq => ?_)
  obtain ⟨r1, rfl, rfl, b2, q3⟩ := hq
  refine .inr ⟨_, rfl, ?_⟩
  rcases q3 with ⟨rfl, a4⟩ | ⟨rfl, a5⟩
  · have _q : True := trivial
    refine jx_if_ne (pc_q := 7) (tg := 70) rfl rfl rfl (by decide) (by decide) (fun h6 => ?_) (fun h6 => ?_)
    · have _q := h6
      refine jx_ld (pc_q := 71) (l_q := [(0, .ref 66), (1, .int (i32 (lv)))]) (st_q := [.ref 66]) rfl (jl_aloadn rfl) ?_
      refine jx_vr (pc_q := 74) (as := []) (st := []) rfl rfl rfl rfl ⟨rfl, rfl, Nat.le_of_ble_eq_true rfl⟩ rfl rfl (c_bad (dd := d) (hd := by omega) (hW := hW)  (fk := fk) (e_fk := show G 16 = fk from (e_fk))    ) (fun o V_q hq => ?_)
      obtain ⟨r7, rfl, rfl, b8, q9⟩ := hq
      refine .inr ⟨_, rfl, ?_⟩
      rcases q9 with ⟨rfl, a10⟩ | ⟨rfl, a11⟩
      · have _q : True := trivial
        refine jx_if_ne (pc_q := 77) (tg := 81) rfl rfl rfl (by decide) (by decide) (fun h12 => ?_) (fun h12 => ?_)
        · have _q := h12
          refine jx_ar (pc_q := 82) (st_q := [.int (i32 (0))]) rfl rfl rfl rfl ?_
          refine jx_rt (v := some (.int (i32 (0)))) rfl rfl rfl rfl rfl (by first | rfl | exact jRet_b (by omega)) ?_
          exact ⟨_, _, _, fk, rfl, rfl, hW, hF0, by omega, (e_fk), by first | exact Or.inl (⟨by omega, by omega, by omega, by omega, by omega⟩) | exact Or.inr ((⟨by omega, by omega⟩))⟩
        · have _q := h12
          exact absurd h12 (by omega)
      · have _q : True := trivial
        exfalso
        omega
    · have _q := h6
      exact absurd h6 (by omega)
  · have _q : True := trivial
    refine jx_if_ne (pc_q := 7) (tg := 70) rfl rfl rfl (by decide) (by decide) (fun h13 => ?_) (fun h13 => ?_)
    · have _q := h13
      exact absurd h13 (by omega)
    · have _q := h13
      refine jx_ld (pc_q := 8) (l_q := [(0, .ref 66), (1, .int (i32 (lv)))]) (st_q := [.ref 66]) rfl (jl_aloadn rfl) ?_
      refine jr_get (pc_q := 11) (i := 9) (v := .int (i32 (ln))) rfl rfl (by decide) (rFv_eq (by decide) (show G 9 = ln from (e_ln))) rfl ?_
      refine jx_ld (pc_q := 12) (l_q := [(0, .ref 66), (1, .int (i32 (lv)))]) (st_q := [.ref 66, .int (i32 (ln))]) rfl (jl_aloadn rfl) ?_
      refine jr_get (pc_q := 15) (i := 3) (v := .int (i32 (li))) rfl rfl (by decide) (rFv_eq (by decide) (show G 3 = li from (e_li))) rfl ?_
      refine jx_icmp_ge (pc_q := 18) (tg := 31) rfl rfl rfl (Int.le_trans (by decide : (-2147483648 : Int) ≤ 0) b_ln.1) (Int.le_trans b_ln.2 (by decide : (3000 : Int) ≤ 2147483647)) (Int.le_trans (by decide : (-2147483648 : Int) ≤ 0) b_li.1) (Int.le_trans b_li.2 (by decide : (3000 : Int) ≤ 2147483647)) (fun h14 => ?_) (fun h14 => ?_)
      · have _q := h14
        refine jx_ld (pc_q := 32) (l_q := [(0, .ref 66), (1, .int (i32 (lv)))]) (st_q := [.ref 66]) rfl (jl_aloadn rfl) ?_
        refine jx_ar (pc_q := 33) (st_q := [.int (i32 (1)), .ref 66]) rfl rfl rfl rfl ?_
        refine jx_ld (pc_q := 34) (l_q := [(0, .ref 66), (1, .int (i32 (lv)))]) (st_q := [.ref 66, .int (i32 (1)), .ref 66]) rfl (jl_aloadn rfl) ?_
        refine jr_get (pc_q := 37) (i := 9) (v := .int (i32 (ln))) rfl rfl (by decide) (rFv_eq (by decide) (show G 9 = ln from (e_ln))) rfl ?_
        refine jx_ld (pc_q := 38) (l_q := [(0, .ref 66), (1, .int (i32 (lv)))]) (st_q := [.ref 66, .int (i32 (ln)), .int (i32 (1)), .ref 66]) rfl (jl_aloadn rfl) ?_
        refine jr_get (pc_q := 41) (i := 3) (v := .int (i32 (li))) rfl rfl (by decide) (rFv_eq (by decide) (show G 3 = li from (e_li))) rfl ?_
        refine jx_icmp_ge (pc_q := 44) (tg := 66) rfl rfl rfl (Int.le_trans (by decide : (-2147483648 : Int) ≤ 0) b_ln.1) (Int.le_trans b_ln.2 (by decide : (3000 : Int) ≤ 2147483647)) (Int.le_trans (by decide : (-2147483648 : Int) ≤ 0) b_li.1) (Int.le_trans b_li.2 (by decide : (3000 : Int) ≤ 2147483647)) (fun h15 => ?_) (fun h15 => ?_)
        · have _q := h15
          refine jx_ar (pc_q := 67) (st_q := [.int (i32 (-1)), .int (i32 (1)), .ref 66]) rfl rfl rfl rfl ?_
          refine jx_vr (pc_q := 70) (as := [.int (i32 (1)), .int (i32 (-1))]) (st := []) rfl rfl rfl rfl ⟨rfl, rfl, Nat.le_of_ble_eq_true rfl⟩ rfl rfl (c_fail (dd := d) (hd := by omega) (hW := hW) (kind := 1) (place := -1) (fk := fk) (e_fk := show G 16 = fk from (e_fk))  (h_kind := ⟨(by decide), (by decide)⟩) (h_place := ⟨(by decide), (by decide)⟩)  (p_0 := by omega) (p_1 := by omega)) (fun o V_q hq => ?_)
          obtain ⟨G16, A17, fk2_18, rfl, rfl, hW19, hF20, e21, p22, -⟩ := hq
          have hF24 := Fr_tr hF0 hF20 (Fr_sub (by decide)) (Fr_sub (by decide))
          have bfk2_18 : (0 : Int) ≤ fk2_18 ∧ fk2_18 ≤ 6 := e21 ▸ hW19.1 16
          refine .inl ⟨rfl, ?_⟩
          refine jx_ld (pc_q := 71) (l_q := [(0, .ref 66), (1, .int (i32 (lv)))]) (st_q := [.ref 66]) rfl (jl_aloadn rfl) ?_
          refine jx_vr (pc_q := 74) (as := []) (st := []) rfl rfl rfl rfl ⟨rfl, rfl, Nat.le_of_ble_eq_true rfl⟩ rfl rfl (c_bad (dd := d) (hd := by omega) (hW := hW19)  (fk := fk2_18) (e_fk := show G16 16 = fk2_18 from (e21))    ) (fun o V_q hq => ?_)
          obtain ⟨r25, rfl, rfl, b26, q27⟩ := hq
          refine .inr ⟨_, rfl, ?_⟩
          rcases q27 with ⟨rfl, a28⟩ | ⟨rfl, a29⟩
          · have _q : True := trivial
            refine jx_if_ne (pc_q := 77) (tg := 81) rfl rfl rfl (by decide) (by decide) (fun h30 => ?_) (fun h30 => ?_)
            · have _q := h30
              refine jx_ar (pc_q := 82) (st_q := [.int (i32 (0))]) rfl rfl rfl rfl ?_
              refine jx_rt (v := some (.int (i32 (0)))) rfl rfl rfl rfl rfl (by first | rfl | exact jRet_b (by omega)) ?_
              exact ⟨_, _, _, fk2_18, rfl, rfl, hW19, hF24, by omega, (e21), by first | exact Or.inl (⟨by omega, by omega, by omega, by omega, by omega⟩) | exact Or.inr ((⟨by omega, by omega⟩))⟩
            · have _q := h30
              exact absurd h30 (by omega)
          · have _q : True := trivial
            exfalso
            omega
        · have _q := h15
          refine jx_ld (pc_q := 45) (l_q := [(0, .ref 66), (1, .int (i32 (lv)))]) (st_q := [.ref 66, .int (i32 (1)), .ref 66]) rfl (jl_aloadn rfl) ?_
          refine jr_get (pc_q := 48) (i := 6) (v := .ref 70) rfl rfl (by decide) rfl rfl ?_
          refine jx_ld (pc_q := 49) (l_q := [(0, .ref 66), (1, .int (i32 (lv)))]) (st_q := [.ref 66, .ref 70, .int (i32 (1)), .ref 66]) rfl (jl_aloadn rfl) ?_
          refine jr_get (pc_q := 52) (i := 9) (v := .int (i32 (ln))) rfl rfl (by decide) (rFv_eq (by decide) (show G 9 = ln from (e_ln))) rfl ?_
          have b31 : (0 : Int) ≤ A 3 (ln).toNat ∧ A 3 (ln).toNat ≤ 3000 := hW.2 3 _
          refine jr_ldv (pc_q := 53) (i := 3) (m := 3001) (z := ln) (y := A 3 (ln).toNat) rfl (by decide) rfl (by decide) (Int.le_trans (by decide : (0 : Int) ≤ 0) b_ln.1) (Int.lt_of_le_of_lt b_ln.2 (by decide : (3000 : Int) < ((3001 : Nat) : Int))) rfl (show A 3 (ln).toNat = A 3 (ln).toNat from rfl) ?_
          refine jx_ld (pc_q := 54) (l_q := [(0, .ref 66), (1, .int (i32 (lv)))]) (st_q := [.ref 66, .int (i32 (A 3 (ln).toNat)), .int (i32 (1)), .ref 66]) rfl (jl_aloadn rfl) ?_
          refine jr_get (pc_q := 57) (i := 5) (v := .ref 69) rfl rfl (by decide) rfl rfl ?_
          refine jx_ld (pc_q := 58) (l_q := [(0, .ref 66), (1, .int (i32 (lv)))]) (st_q := [.ref 66, .ref 69, .int (i32 (A 3 (ln).toNat)), .int (i32 (1)), .ref 66]) rfl (jl_aloadn rfl) ?_
          refine jr_get (pc_q := 61) (i := 9) (v := .int (i32 (ln))) rfl rfl (by decide) (rFv_eq (by decide) (show G 9 = ln from (e_ln))) rfl ?_
          have b32 : (0 : Int) ≤ A 2 (ln).toNat ∧ A 2 (ln).toNat ≤ 3000 := hW.2 2 _
          refine jr_ldv (pc_q := 62) (i := 2) (m := 3001) (z := ln) (y := A 2 (ln).toNat) rfl (by decide) rfl (by decide) (Int.le_trans (by decide : (0 : Int) ≤ 0) b_ln.1) (Int.lt_of_le_of_lt b_ln.2 (by decide : (3000 : Int) < ((3001 : Nat) : Int))) rfl (show A 2 (ln).toNat = A 2 (ln).toNat from rfl) ?_
          refine jx_sub (pc_q := 63) rfl rfl ?_
          refine jx_go (tg := 67) rfl rfl ?_
          refine jx_vr (pc_q := 70) (as := [.int (i32 (1)), .int (i32 ((A 3 (ln).toNat - A 2 (ln).toNat)))]) (st := []) rfl rfl rfl rfl ⟨rfl, rfl, Nat.le_of_ble_eq_true rfl⟩ rfl rfl (c_fail (dd := d) (hd := by omega) (hW := hW) (kind := 1) (place := (A 3 (ln).toNat - A 2 (ln).toNat)) (fk := fk) (e_fk := show G 16 = fk from (e_fk))  (h_kind := ⟨(by decide), (by decide)⟩) (h_place := ⟨(by omega), (by omega)⟩)  (p_0 := by omega) (p_1 := by omega)) (fun o V_q hq => ?_)
          obtain ⟨G33, A34, fk2_35, rfl, rfl, hW36, hF37, e38, p39, -⟩ := hq
          have hF41 := Fr_tr hF0 hF37 (Fr_sub (by decide)) (Fr_sub (by decide))
          have bfk2_35 : (0 : Int) ≤ fk2_35 ∧ fk2_35 ≤ 6 := e38 ▸ hW36.1 16
          refine .inl ⟨rfl, ?_⟩
          refine jx_ld (pc_q := 71) (l_q := [(0, .ref 66), (1, .int (i32 (lv)))]) (st_q := [.ref 66]) rfl (jl_aloadn rfl) ?_
          refine jx_vr (pc_q := 74) (as := []) (st := []) rfl rfl rfl rfl ⟨rfl, rfl, Nat.le_of_ble_eq_true rfl⟩ rfl rfl (c_bad (dd := d) (hd := by omega) (hW := hW36)  (fk := fk2_35) (e_fk := show G33 16 = fk2_35 from (e38))    ) (fun o V_q hq => ?_)
          obtain ⟨r42, rfl, rfl, b43, q44⟩ := hq
          refine .inr ⟨_, rfl, ?_⟩
          rcases q44 with ⟨rfl, a45⟩ | ⟨rfl, a46⟩
          · have _q : True := trivial
            refine jx_if_ne (pc_q := 77) (tg := 81) rfl rfl rfl (by decide) (by decide) (fun h47 => ?_) (fun h47 => ?_)
            · have _q := h47
              refine jx_ar (pc_q := 82) (st_q := [.int (i32 (0))]) rfl rfl rfl rfl ?_
              refine jx_rt (v := some (.int (i32 (0)))) rfl rfl rfl rfl rfl (by first | rfl | exact jRet_b (by omega)) ?_
              exact ⟨_, _, _, fk2_35, rfl, rfl, hW36, hF41, by omega, (e38), by first | exact Or.inl (⟨by omega, by omega, by omega, by omega, by omega⟩) | exact Or.inr ((⟨by omega, by omega⟩))⟩
            · have _q := h47
              exact absurd h47 (by omega)
          · have _q : True := trivial
            exfalso
            omega
      · have _q := h14
        refine jx_ld (pc_q := 19) (l_q := [(0, .ref 66), (1, .int (i32 (lv)))]) (st_q := [.ref 66]) rfl (jl_aloadn rfl) ?_
        refine jr_get (pc_q := 22) (i := 8) (v := .ref 72) rfl rfl (by decide) rfl rfl ?_
        refine jx_ld (pc_q := 23) (l_q := [(0, .ref 66), (1, .int (i32 (lv)))]) (st_q := [.ref 66, .ref 72]) rfl (jl_aloadn rfl) ?_
        refine jr_get (pc_q := 26) (i := 9) (v := .int (i32 (ln))) rfl rfl (by decide) (rFv_eq (by decide) (show G 9 = ln from (e_ln))) rfl ?_
        refine jr_ldv (pc_q := 27) (i := 5) (m := 3001) (z := ln) (y := ll) rfl (by decide) rfl (by decide) (Int.le_trans (by decide : (0 : Int) ≤ 0) b_ln.1) (Int.lt_of_le_of_lt b_ln.2 (by decide : (3000 : Int) < ((3001 : Nat) : Int))) rfl (show A 5 (ln).toNat = ll from (e_ll)) ?_
        refine jx_ld (pc_q := 28) (l_q := [(0, .ref 66), (1, .int (i32 (lv)))]) (st_q := [.int (i32 (lv)), .int (i32 (ll))]) rfl (jl_iloadn rfl) ?_
        refine jx_icmp_eq (pc_q := 31) (tg := 70) rfl rfl rfl (Int.le_trans (by decide : (-2147483648 : Int) ≤ -1) b_ll.1) (Int.le_trans b_ll.2 (by decide : (15 : Int) ≤ 2147483647)) (Int.le_trans (by decide : (-2147483648 : Int) ≤ -2147483648) h_lv.1) (Int.le_trans h_lv.2 (by decide : (2147483647 : Int) ≤ 2147483647)) (fun h48 => ?_) (fun h48 => ?_)
        · have _q := h48
          refine jx_ld (pc_q := 71) (l_q := [(0, .ref 66), (1, .int (i32 (lv)))]) (st_q := [.ref 66]) rfl (jl_aloadn rfl) ?_
          refine jx_vr (pc_q := 74) (as := []) (st := []) rfl rfl rfl rfl ⟨rfl, rfl, Nat.le_of_ble_eq_true rfl⟩ rfl rfl (c_bad (dd := d) (hd := by omega) (hW := hW)  (fk := fk) (e_fk := show G 16 = fk from (e_fk))    ) (fun o V_q hq => ?_)
          obtain ⟨r49, rfl, rfl, b50, q51⟩ := hq
          refine .inr ⟨_, rfl, ?_⟩
          rcases q51 with ⟨rfl, a52⟩ | ⟨rfl, a53⟩
          · have _q : True := trivial
            exfalso
            omega
          · have _q : True := trivial
            refine jx_if_ne (pc_q := 77) (tg := 81) rfl rfl rfl (by decide) (by decide) (fun h54 => ?_) (fun h54 => ?_)
            · have _q := h54
              exact absurd h54 (by omega)
            · have _q := h54
              refine jx_ar (pc_q := 78) (st_q := [.int (i32 (1))]) rfl rfl rfl rfl ?_
              refine jx_go (tg := 82) rfl rfl ?_
              refine jx_rt (v := some (.int (i32 (1)))) rfl rfl rfl rfl rfl (by first | rfl | exact jRet_b (by omega)) ?_
              exact ⟨_, _, _, fk, rfl, rfl, hW, hF0, by omega, (e_fk), by first | exact Or.inl (⟨by omega, by omega, by omega, by omega, by omega⟩) | exact Or.inr ((⟨by omega, by omega⟩))⟩
        · have _q := h48
          refine jx_ld (pc_q := 32) (l_q := [(0, .ref 66), (1, .int (i32 (lv)))]) (st_q := [.ref 66]) rfl (jl_aloadn rfl) ?_
          refine jx_ar (pc_q := 33) (st_q := [.int (i32 (1)), .ref 66]) rfl rfl rfl rfl ?_
          refine jx_ld (pc_q := 34) (l_q := [(0, .ref 66), (1, .int (i32 (lv)))]) (st_q := [.ref 66, .int (i32 (1)), .ref 66]) rfl (jl_aloadn rfl) ?_
          refine jr_get (pc_q := 37) (i := 9) (v := .int (i32 (ln))) rfl rfl (by decide) (rFv_eq (by decide) (show G 9 = ln from (e_ln))) rfl ?_
          refine jx_ld (pc_q := 38) (l_q := [(0, .ref 66), (1, .int (i32 (lv)))]) (st_q := [.ref 66, .int (i32 (ln)), .int (i32 (1)), .ref 66]) rfl (jl_aloadn rfl) ?_
          refine jr_get (pc_q := 41) (i := 3) (v := .int (i32 (li))) rfl rfl (by decide) (rFv_eq (by decide) (show G 3 = li from (e_li))) rfl ?_
          refine jx_icmp_ge (pc_q := 44) (tg := 66) rfl rfl rfl (Int.le_trans (by decide : (-2147483648 : Int) ≤ 0) b_ln.1) (Int.le_trans b_ln.2 (by decide : (3000 : Int) ≤ 2147483647)) (Int.le_trans (by decide : (-2147483648 : Int) ≤ 0) b_li.1) (Int.le_trans b_li.2 (by decide : (3000 : Int) ≤ 2147483647)) (fun h55 => ?_) (fun h55 => ?_)
          · have _q := h55
            refine jx_ar (pc_q := 67) (st_q := [.int (i32 (-1)), .int (i32 (1)), .ref 66]) rfl rfl rfl rfl ?_
            refine jx_vr (pc_q := 70) (as := [.int (i32 (1)), .int (i32 (-1))]) (st := []) rfl rfl rfl rfl ⟨rfl, rfl, Nat.le_of_ble_eq_true rfl⟩ rfl rfl (c_fail (dd := d) (hd := by omega) (hW := hW) (kind := 1) (place := -1) (fk := fk) (e_fk := show G 16 = fk from (e_fk))  (h_kind := ⟨(by decide), (by decide)⟩) (h_place := ⟨(by decide), (by decide)⟩)  (p_0 := by omega) (p_1 := by omega)) (fun o V_q hq => ?_)
            obtain ⟨G56, A57, fk2_58, rfl, rfl, hW59, hF60, e61, p62, -⟩ := hq
            have hF64 := Fr_tr hF0 hF60 (Fr_sub (by decide)) (Fr_sub (by decide))
            have bfk2_58 : (0 : Int) ≤ fk2_58 ∧ fk2_58 ≤ 6 := e61 ▸ hW59.1 16
            refine .inl ⟨rfl, ?_⟩
            refine jx_ld (pc_q := 71) (l_q := [(0, .ref 66), (1, .int (i32 (lv)))]) (st_q := [.ref 66]) rfl (jl_aloadn rfl) ?_
            refine jx_vr (pc_q := 74) (as := []) (st := []) rfl rfl rfl rfl ⟨rfl, rfl, Nat.le_of_ble_eq_true rfl⟩ rfl rfl (c_bad (dd := d) (hd := by omega) (hW := hW59)  (fk := fk2_58) (e_fk := show G56 16 = fk2_58 from (e61))    ) (fun o V_q hq => ?_)
            obtain ⟨r65, rfl, rfl, b66, q67⟩ := hq
            refine .inr ⟨_, rfl, ?_⟩
            rcases q67 with ⟨rfl, a68⟩ | ⟨rfl, a69⟩
            · have _q : True := trivial
              refine jx_if_ne (pc_q := 77) (tg := 81) rfl rfl rfl (by decide) (by decide) (fun h70 => ?_) (fun h70 => ?_)
              · have _q := h70
                refine jx_ar (pc_q := 82) (st_q := [.int (i32 (0))]) rfl rfl rfl rfl ?_
                refine jx_rt (v := some (.int (i32 (0)))) rfl rfl rfl rfl rfl (by first | rfl | exact jRet_b (by omega)) ?_
                exact ⟨_, _, _, fk2_58, rfl, rfl, hW59, hF64, by omega, (e61), by first | exact Or.inl (⟨by omega, by omega, by omega, by omega, by omega⟩) | exact Or.inr ((⟨by omega, by omega⟩))⟩
              · have _q := h70
                exact absurd h70 (by omega)
            · have _q : True := trivial
              exfalso
              omega
          · have _q := h55
            refine jx_ld (pc_q := 45) (l_q := [(0, .ref 66), (1, .int (i32 (lv)))]) (st_q := [.ref 66, .int (i32 (1)), .ref 66]) rfl (jl_aloadn rfl) ?_
            refine jr_get (pc_q := 48) (i := 6) (v := .ref 70) rfl rfl (by decide) rfl rfl ?_
            refine jx_ld (pc_q := 49) (l_q := [(0, .ref 66), (1, .int (i32 (lv)))]) (st_q := [.ref 66, .ref 70, .int (i32 (1)), .ref 66]) rfl (jl_aloadn rfl) ?_
            refine jr_get (pc_q := 52) (i := 9) (v := .int (i32 (ln))) rfl rfl (by decide) (rFv_eq (by decide) (show G 9 = ln from (e_ln))) rfl ?_
            have b71 : (0 : Int) ≤ A 3 (ln).toNat ∧ A 3 (ln).toNat ≤ 3000 := hW.2 3 _
            refine jr_ldv (pc_q := 53) (i := 3) (m := 3001) (z := ln) (y := A 3 (ln).toNat) rfl (by decide) rfl (by decide) (Int.le_trans (by decide : (0 : Int) ≤ 0) b_ln.1) (Int.lt_of_le_of_lt b_ln.2 (by decide : (3000 : Int) < ((3001 : Nat) : Int))) rfl (show A 3 (ln).toNat = A 3 (ln).toNat from rfl) ?_
            refine jx_ld (pc_q := 54) (l_q := [(0, .ref 66), (1, .int (i32 (lv)))]) (st_q := [.ref 66, .int (i32 (A 3 (ln).toNat)), .int (i32 (1)), .ref 66]) rfl (jl_aloadn rfl) ?_
            refine jr_get (pc_q := 57) (i := 5) (v := .ref 69) rfl rfl (by decide) rfl rfl ?_
            refine jx_ld (pc_q := 58) (l_q := [(0, .ref 66), (1, .int (i32 (lv)))]) (st_q := [.ref 66, .ref 69, .int (i32 (A 3 (ln).toNat)), .int (i32 (1)), .ref 66]) rfl (jl_aloadn rfl) ?_
            refine jr_get (pc_q := 61) (i := 9) (v := .int (i32 (ln))) rfl rfl (by decide) (rFv_eq (by decide) (show G 9 = ln from (e_ln))) rfl ?_
            have b72 : (0 : Int) ≤ A 2 (ln).toNat ∧ A 2 (ln).toNat ≤ 3000 := hW.2 2 _
            refine jr_ldv (pc_q := 62) (i := 2) (m := 3001) (z := ln) (y := A 2 (ln).toNat) rfl (by decide) rfl (by decide) (Int.le_trans (by decide : (0 : Int) ≤ 0) b_ln.1) (Int.lt_of_le_of_lt b_ln.2 (by decide : (3000 : Int) < ((3001 : Nat) : Int))) rfl (show A 2 (ln).toNat = A 2 (ln).toNat from rfl) ?_
            refine jx_sub (pc_q := 63) rfl rfl ?_
            refine jx_go (tg := 67) rfl rfl ?_
            refine jx_vr (pc_q := 70) (as := [.int (i32 (1)), .int (i32 ((A 3 (ln).toNat - A 2 (ln).toNat)))]) (st := []) rfl rfl rfl rfl ⟨rfl, rfl, Nat.le_of_ble_eq_true rfl⟩ rfl rfl (c_fail (dd := d) (hd := by omega) (hW := hW) (kind := 1) (place := (A 3 (ln).toNat - A 2 (ln).toNat)) (fk := fk) (e_fk := show G 16 = fk from (e_fk))  (h_kind := ⟨(by decide), (by decide)⟩) (h_place := ⟨(by omega), (by omega)⟩)  (p_0 := by omega) (p_1 := by omega)) (fun o V_q hq => ?_)
            obtain ⟨G73, A74, fk2_75, rfl, rfl, hW76, hF77, e78, p79, -⟩ := hq
            have hF81 := Fr_tr hF0 hF77 (Fr_sub (by decide)) (Fr_sub (by decide))
            have bfk2_75 : (0 : Int) ≤ fk2_75 ∧ fk2_75 ≤ 6 := e78 ▸ hW76.1 16
            refine .inl ⟨rfl, ?_⟩
            refine jx_ld (pc_q := 71) (l_q := [(0, .ref 66), (1, .int (i32 (lv)))]) (st_q := [.ref 66]) rfl (jl_aloadn rfl) ?_
            refine jx_vr (pc_q := 74) (as := []) (st := []) rfl rfl rfl rfl ⟨rfl, rfl, Nat.le_of_ble_eq_true rfl⟩ rfl rfl (c_bad (dd := d) (hd := by omega) (hW := hW76)  (fk := fk2_75) (e_fk := show G73 16 = fk2_75 from (e78))    ) (fun o V_q hq => ?_)
            obtain ⟨r82, rfl, rfl, b83, q84⟩ := hq
            refine .inr ⟨_, rfl, ?_⟩
            rcases q84 with ⟨rfl, a85⟩ | ⟨rfl, a86⟩
            · have _q : True := trivial
              refine jx_if_ne (pc_q := 77) (tg := 81) rfl rfl rfl (by decide) (by decide) (fun h87 => ?_) (fun h87 => ?_)
              · have _q := h87
                refine jx_ar (pc_q := 82) (st_q := [.int (i32 (0))]) rfl rfl rfl rfl ?_
                refine jx_rt (v := some (.int (i32 (0)))) rfl rfl rfl rfl rfl (by first | rfl | exact jRet_b (by omega)) ?_
                exact ⟨_, _, _, fk2_75, rfl, rfl, hW76, hF81, by omega, (e78), by first | exact Or.inl (⟨by omega, by omega, by omega, by omega, by omega⟩) | exact Or.inr ((⟨by omega, by omega⟩))⟩
              · have _q := h87
                exact absurd h87 (by omega)
            · have _q : True := trivial
              exfalso
              omega
set_option maxRecDepth 20000 in
set_option maxHeartbeats 4000000 in
theorem c_isBelow {X : jX} {dd : Nat} {c0 c1 : jC} {G : Nat → Int} {A : Nat → Nat → Int} {T : jH} {lv : Int} {ln li fk ll : Int} (hd : 2 ≤ dd) (hW : Wk G A) (e_ln : G 9 = ln) (e_li : G 3 = li) (e_fk : G 16 = fk) (e_ll : A 5 (ln).toNat = ll) (h_lv : (-2147483648 : Int) ≤ lv ∧ lv ≤ 2147483647) (p_0 : -1 ≤ lv ∧ lv ≤ 1000) : wk X dd 273 [.ref 66, .int (i32 lv)] (rV c0 c1 G A T) (fun o V_q => ∃ (G_q : Nat → Int) (A_q : Nat → Nat → Int) (r : Int) (fk2 : Int), V_q = rV c0 c1 G_q A_q T ∧ o = .inl (some (.int (i32 r))) ∧ Wk G_q A_q ∧ Fr [16, 17, 18] [] G A G_q A_q ∧ ((0 : Int) ≤ r ∧ r ≤ 1) ∧ G_q 16 = fk2 ∧ ((r = 1 ∧ (fk2 = 0) ∧ (fk = 0) ∧ (ln < li) ∧ (ll = lv + 1)) ∨ (r = 0 ∧ (1 ≤ fk2)) ∨ (r = 0 ∧ (fk2 = 0) ∧ (fk = 0) ∧ (li ≤ ln ∨ ll ≠ lv + 1)))) := by
  obtain ⟨d, rfl⟩ : ∃ d, dd = d + 1 := ⟨dd - 1, by omega⟩
  refine wk_of (e := jm273) rfl (Nat.le_of_ble_eq_true rfl) ?_
  show wj X d jm273 (0, [(0, .ref 66), (1, .int (i32 (lv)))], [], rV c0 c1 G A T) _
  have hF0 : Fr [16, 17, 18] [] G A G A := Fr_rf
  have b_ln : (0 : Int) ≤ ln ∧ ln ≤ 3000 := e_ln ▸ hW.1 9
  have b_li : (0 : Int) ≤ li ∧ li ≤ 3000 := e_li ▸ hW.1 3
  have b_fk : (0 : Int) ≤ fk ∧ fk ≤ 6 := e_fk ▸ hW.1 16
  have b_ll : (-1 : Int) ≤ ll ∧ ll ≤ 15 := e_ll ▸ hW.2 5 _
  refine jx_ld (pc_q := 1) (l_q := [(0, .ref 66), (1, .int (i32 (lv)))]) (st_q := [.ref 66]) rfl (jl_aloadn rfl) ?_
  refine jx_vr (pc_q := 4) (as := []) (st := []) rfl rfl rfl rfl ⟨rfl, rfl, Nat.le_of_ble_eq_true rfl⟩ rfl rfl (c_bad (dd := d) (hd := by omega) (hW := hW)  (fk := fk) (e_fk := show G 16 = fk from (e_fk))    ) (fun o V_q hq => ?_)
  obtain ⟨r1, rfl, rfl, b2, q3⟩ := hq
  refine .inr ⟨_, rfl, ?_⟩
  rcases q3 with ⟨rfl, a4⟩ | ⟨rfl, a5⟩
  · have _q : True := trivial
    refine jx_if_ne (pc_q := 7) (tg := 18) rfl rfl rfl (by decide) (by decide) (fun h6 => ?_) (fun h6 => ?_)
    · have _q := h6
      refine jx_ar (pc_q := 19) (st_q := [.int (i32 (0))]) rfl rfl rfl rfl ?_
      refine jx_rt (v := some (.int (i32 (0)))) rfl rfl rfl rfl rfl (by first | rfl | exact jRet_b (by omega)) ?_
      exact ⟨_, _, _, fk, rfl, rfl, hW, hF0, by omega, (e_fk), by first | exact Or.inl (⟨by omega, by omega, by omega, by omega, by omega⟩) | exact Or.inr (Or.inl (⟨by omega, by omega⟩)) | exact Or.inr (Or.inr ((⟨by omega, by omega, by omega, by omega⟩)))⟩
    · have _q := h6
      exact absurd h6 (by omega)
  · have _q : True := trivial
    refine jx_if_ne (pc_q := 7) (tg := 18) rfl rfl rfl (by decide) (by decide) (fun h7 => ?_) (fun h7 => ?_)
    · have _q := h7
      exact absurd h7 (by omega)
    · have _q := h7
      refine jx_ld (pc_q := 8) (l_q := [(0, .ref 66), (1, .int (i32 (lv)))]) (st_q := [.ref 66]) rfl (jl_aloadn rfl) ?_
      refine jr_get (pc_q := 11) (i := 9) (v := .int (i32 (ln))) rfl rfl (by decide) (rFv_eq (by decide) (show G 9 = ln from (e_ln))) rfl ?_
      refine jx_ld (pc_q := 12) (l_q := [(0, .ref 66), (1, .int (i32 (lv)))]) (st_q := [.ref 66, .int (i32 (ln))]) rfl (jl_aloadn rfl) ?_
      refine jr_get (pc_q := 15) (i := 3) (v := .int (i32 (li))) rfl rfl (by decide) (rFv_eq (by decide) (show G 3 = li from (e_li))) rfl ?_
      refine jx_icmp_lt (pc_q := 18) (tg := 20) rfl rfl rfl (Int.le_trans (by decide : (-2147483648 : Int) ≤ 0) b_ln.1) (Int.le_trans b_ln.2 (by decide : (3000 : Int) ≤ 2147483647)) (Int.le_trans (by decide : (-2147483648 : Int) ≤ 0) b_li.1) (Int.le_trans b_li.2 (by decide : (3000 : Int) ≤ 2147483647)) (fun h8 => ?_) (fun h8 => ?_)
      · have _q := h8
        refine jx_ld (pc_q := 21) (l_q := [(0, .ref 66), (1, .int (i32 (lv)))]) (st_q := [.ref 66]) rfl (jl_aloadn rfl) ?_
        refine jr_get (pc_q := 24) (i := 8) (v := .ref 72) rfl rfl (by decide) rfl rfl ?_
        refine jx_ld (pc_q := 25) (l_q := [(0, .ref 66), (1, .int (i32 (lv)))]) (st_q := [.ref 66, .ref 72]) rfl (jl_aloadn rfl) ?_
        refine jr_get (pc_q := 28) (i := 9) (v := .int (i32 (ln))) rfl rfl (by decide) (rFv_eq (by decide) (show G 9 = ln from (e_ln))) rfl ?_
        refine jr_ldv (pc_q := 29) (i := 5) (m := 3001) (z := ln) (y := ll) rfl (by decide) rfl (by decide) (Int.le_trans (by decide : (0 : Int) ≤ 0) b_ln.1) (Int.lt_of_le_of_lt b_ln.2 (by decide : (3000 : Int) < ((3001 : Nat) : Int))) rfl (show A 5 (ln).toNat = ll from (e_ll)) ?_
        refine jx_ar (pc_q := 30) (st_q := [.int (i32 (-1)), .int (i32 (ll))]) rfl rfl rfl rfl ?_
        refine jx_icmp_eq (pc_q := 33) (tg := 48) rfl rfl rfl (Int.le_trans (by decide : (-2147483648 : Int) ≤ -1) b_ll.1) (Int.le_trans b_ll.2 (by decide : (15 : Int) ≤ 2147483647)) (by decide) (by decide) (fun h9 => ?_) (fun h9 => ?_)
        · have _q := h9
          refine jx_ld (pc_q := 49) (l_q := [(0, .ref 66), (1, .int (i32 (lv)))]) (st_q := [.ref 66]) rfl (jl_aloadn rfl) ?_
          refine jx_ar (pc_q := 50) (st_q := [.int (i32 (1)), .ref 66]) rfl rfl rfl rfl ?_
          refine jx_ld (pc_q := 51) (l_q := [(0, .ref 66), (1, .int (i32 (lv)))]) (st_q := [.ref 66, .int (i32 (1)), .ref 66]) rfl (jl_aloadn rfl) ?_
          refine jr_get (pc_q := 54) (i := 6) (v := .ref 70) rfl rfl (by decide) rfl rfl ?_
          refine jx_ld (pc_q := 55) (l_q := [(0, .ref 66), (1, .int (i32 (lv)))]) (st_q := [.ref 66, .ref 70, .int (i32 (1)), .ref 66]) rfl (jl_aloadn rfl) ?_
          refine jr_get (pc_q := 58) (i := 9) (v := .int (i32 (ln))) rfl rfl (by decide) (rFv_eq (by decide) (show G 9 = ln from (e_ln))) rfl ?_
          have b10 : (0 : Int) ≤ A 3 (ln).toNat ∧ A 3 (ln).toNat ≤ 3000 := hW.2 3 _
          refine jr_ldv (pc_q := 59) (i := 3) (m := 3001) (z := ln) (y := A 3 (ln).toNat) rfl (by decide) rfl (by decide) (Int.le_trans (by decide : (0 : Int) ≤ 0) b_ln.1) (Int.lt_of_le_of_lt b_ln.2 (by decide : (3000 : Int) < ((3001 : Nat) : Int))) rfl (show A 3 (ln).toNat = A 3 (ln).toNat from rfl) ?_
          refine jx_ld (pc_q := 60) (l_q := [(0, .ref 66), (1, .int (i32 (lv)))]) (st_q := [.ref 66, .int (i32 (A 3 (ln).toNat)), .int (i32 (1)), .ref 66]) rfl (jl_aloadn rfl) ?_
          refine jr_get (pc_q := 63) (i := 5) (v := .ref 69) rfl rfl (by decide) rfl rfl ?_
          refine jx_ld (pc_q := 64) (l_q := [(0, .ref 66), (1, .int (i32 (lv)))]) (st_q := [.ref 66, .ref 69, .int (i32 (A 3 (ln).toNat)), .int (i32 (1)), .ref 66]) rfl (jl_aloadn rfl) ?_
          refine jr_get (pc_q := 67) (i := 9) (v := .int (i32 (ln))) rfl rfl (by decide) (rFv_eq (by decide) (show G 9 = ln from (e_ln))) rfl ?_
          have b11 : (0 : Int) ≤ A 2 (ln).toNat ∧ A 2 (ln).toNat ≤ 3000 := hW.2 2 _
          refine jr_ldv (pc_q := 68) (i := 2) (m := 3001) (z := ln) (y := A 2 (ln).toNat) rfl (by decide) rfl (by decide) (Int.le_trans (by decide : (0 : Int) ≤ 0) b_ln.1) (Int.lt_of_le_of_lt b_ln.2 (by decide : (3000 : Int) < ((3001 : Nat) : Int))) rfl (show A 2 (ln).toNat = A 2 (ln).toNat from rfl) ?_
          refine jx_sub (pc_q := 69) rfl rfl ?_
          refine jx_vr (pc_q := 72) (as := [.int (i32 (1)), .int (i32 ((A 3 (ln).toNat - A 2 (ln).toNat)))]) (st := []) rfl rfl rfl rfl ⟨rfl, rfl, Nat.le_of_ble_eq_true rfl⟩ rfl rfl (c_fail (dd := d) (hd := by omega) (hW := hW) (kind := 1) (place := (A 3 (ln).toNat - A 2 (ln).toNat)) (fk := fk) (e_fk := show G 16 = fk from (e_fk))  (h_kind := ⟨(by decide), (by decide)⟩) (h_place := ⟨(by omega), (by omega)⟩)  (p_0 := by omega) (p_1 := by omega)) (fun o V_q hq => ?_)
          obtain ⟨G12, A13, fk2_14, rfl, rfl, hW15, hF16, e17, p18, -⟩ := hq
          have hF20 := Fr_tr hF0 hF16 (Fr_sub (by decide)) (Fr_sub (by decide))
          have bfk2_14 : (0 : Int) ≤ fk2_14 ∧ fk2_14 ≤ 6 := e17 ▸ hW15.1 16
          refine .inl ⟨rfl, ?_⟩
          refine jx_ld (pc_q := 73) (l_q := [(0, .ref 66), (1, .int (i32 (lv)))]) (st_q := [.ref 66]) rfl (jl_aloadn rfl) ?_
          refine jx_vr (pc_q := 76) (as := []) (st := []) rfl rfl rfl rfl ⟨rfl, rfl, Nat.le_of_ble_eq_true rfl⟩ rfl rfl (c_bad (dd := d) (hd := by omega) (hW := hW15)  (fk := fk2_14) (e_fk := show G12 16 = fk2_14 from (e17))    ) (fun o V_q hq => ?_)
          obtain ⟨r21, rfl, rfl, b22, q23⟩ := hq
          refine .inr ⟨_, rfl, ?_⟩
          rcases q23 with ⟨rfl, a24⟩ | ⟨rfl, a25⟩
          · have _q : True := trivial
            refine jx_if_ne (pc_q := 79) (tg := 98) rfl rfl rfl (by decide) (by decide) (fun h26 => ?_) (fun h26 => ?_)
            · have _q := h26
              refine jx_ar (pc_q := 99) (st_q := [.int (i32 (0))]) rfl rfl rfl rfl ?_
              refine jx_rt (v := some (.int (i32 (0)))) rfl rfl rfl rfl rfl (by first | rfl | exact jRet_b (by omega)) ?_
              exact ⟨_, _, _, fk2_14, rfl, rfl, hW15, hF20, by omega, (e17), by first | exact Or.inl (⟨by omega, by omega, by omega, by omega, by omega⟩) | exact Or.inr (Or.inl (⟨by omega, by omega⟩)) | exact Or.inr (Or.inr ((⟨by omega, by omega, by omega, by omega⟩)))⟩
            · have _q := h26
              exact absurd h26 (by omega)
          · have _q : True := trivial
            exfalso
            omega
        · have _q := h9
          refine jx_ld (pc_q := 34) (l_q := [(0, .ref 66), (1, .int (i32 (lv)))]) (st_q := [.ref 66]) rfl (jl_aloadn rfl) ?_
          refine jr_get (pc_q := 37) (i := 8) (v := .ref 72) rfl rfl (by decide) rfl rfl ?_
          refine jx_ld (pc_q := 38) (l_q := [(0, .ref 66), (1, .int (i32 (lv)))]) (st_q := [.ref 66, .ref 72]) rfl (jl_aloadn rfl) ?_
          refine jr_get (pc_q := 41) (i := 9) (v := .int (i32 (ln))) rfl rfl (by decide) (rFv_eq (by decide) (show G 9 = ln from (e_ln))) rfl ?_
          refine jr_ldv (pc_q := 42) (i := 5) (m := 3001) (z := ln) (y := ll) rfl (by decide) rfl (by decide) (Int.le_trans (by decide : (0 : Int) ≤ 0) b_ln.1) (Int.lt_of_le_of_lt b_ln.2 (by decide : (3000 : Int) < ((3001 : Nat) : Int))) rfl (show A 5 (ln).toNat = ll from (e_ll)) ?_
          refine jx_ld (pc_q := 43) (l_q := [(0, .ref 66), (1, .int (i32 (lv)))]) (st_q := [.int (i32 (lv)), .int (i32 (ll))]) rfl (jl_iloadn rfl) ?_
          refine jx_ar (pc_q := 44) (st_q := [.int (i32 (1)), .int (i32 (lv)), .int (i32 (ll))]) rfl rfl rfl rfl ?_
          refine jx_add (pc_q := 45) rfl rfl ?_
          refine jx_icmp_le (pc_q := 48) (tg := 72) rfl rfl rfl (Int.le_trans (by decide : (-2147483648 : Int) ≤ -1) b_ll.1) (Int.le_trans b_ll.2 (by decide : (15 : Int) ≤ 2147483647)) (by omega) (by omega) (fun h27 => ?_) (fun h27 => ?_)
          · have _q := h27
            refine jx_ld (pc_q := 73) (l_q := [(0, .ref 66), (1, .int (i32 (lv)))]) (st_q := [.ref 66]) rfl (jl_aloadn rfl) ?_
            refine jx_vr (pc_q := 76) (as := []) (st := []) rfl rfl rfl rfl ⟨rfl, rfl, Nat.le_of_ble_eq_true rfl⟩ rfl rfl (c_bad (dd := d) (hd := by omega) (hW := hW)  (fk := fk) (e_fk := show G 16 = fk from (e_fk))    ) (fun o V_q hq => ?_)
            obtain ⟨r28, rfl, rfl, b29, q30⟩ := hq
            refine .inr ⟨_, rfl, ?_⟩
            rcases q30 with ⟨rfl, a31⟩ | ⟨rfl, a32⟩
            · have _q : True := trivial
              exfalso
              omega
            · have _q : True := trivial
              refine jx_if_ne (pc_q := 79) (tg := 98) rfl rfl rfl (by decide) (by decide) (fun h33 => ?_) (fun h33 => ?_)
              · have _q := h33
                exact absurd h33 (by omega)
              · have _q := h33
                refine jx_ld (pc_q := 80) (l_q := [(0, .ref 66), (1, .int (i32 (lv)))]) (st_q := [.ref 66]) rfl (jl_aloadn rfl) ?_
                refine jr_get (pc_q := 83) (i := 8) (v := .ref 72) rfl rfl (by decide) rfl rfl ?_
                refine jx_ld (pc_q := 84) (l_q := [(0, .ref 66), (1, .int (i32 (lv)))]) (st_q := [.ref 66, .ref 72]) rfl (jl_aloadn rfl) ?_
                refine jr_get (pc_q := 87) (i := 9) (v := .int (i32 (ln))) rfl rfl (by decide) (rFv_eq (by decide) (show G 9 = ln from (e_ln))) rfl ?_
                refine jr_ldv (pc_q := 88) (i := 5) (m := 3001) (z := ln) (y := ll) rfl (by decide) rfl (by decide) (Int.le_trans (by decide : (0 : Int) ≤ 0) b_ln.1) (Int.lt_of_le_of_lt b_ln.2 (by decide : (3000 : Int) < ((3001 : Nat) : Int))) rfl (show A 5 (ln).toNat = ll from (e_ll)) ?_
                refine jx_ld (pc_q := 89) (l_q := [(0, .ref 66), (1, .int (i32 (lv)))]) (st_q := [.int (i32 (lv)), .int (i32 (ll))]) rfl (jl_iloadn rfl) ?_
                refine jx_ar (pc_q := 90) (st_q := [.int (i32 (1)), .int (i32 (lv)), .int (i32 (ll))]) rfl rfl rfl rfl ?_
                refine jx_add (pc_q := 91) rfl rfl ?_
                refine jx_icmp_ne (pc_q := 94) (tg := 98) rfl rfl rfl (Int.le_trans (by decide : (-2147483648 : Int) ≤ -1) b_ll.1) (Int.le_trans b_ll.2 (by decide : (15 : Int) ≤ 2147483647)) (by omega) (by omega) (fun h34 => ?_) (fun h34 => ?_)
                · have _q := h34
                  refine jx_ar (pc_q := 99) (st_q := [.int (i32 (0))]) rfl rfl rfl rfl ?_
                  refine jx_rt (v := some (.int (i32 (0)))) rfl rfl rfl rfl rfl (by first | rfl | exact jRet_b (by omega)) ?_
                  exact ⟨_, _, _, fk, rfl, rfl, hW, hF0, by omega, (e_fk), by first | exact Or.inl (⟨by omega, by omega, by omega, by omega, by omega⟩) | exact Or.inr (Or.inl (⟨by omega, by omega⟩)) | exact Or.inr (Or.inr ((⟨by omega, by omega, by omega, by omega⟩)))⟩
                · have _q := h34
                  refine jx_ar (pc_q := 95) (st_q := [.int (i32 (1))]) rfl rfl rfl rfl ?_
                  refine jx_go (tg := 99) rfl rfl ?_
                  refine jx_rt (v := some (.int (i32 (1)))) rfl rfl rfl rfl rfl (by first | rfl | exact jRet_b (by omega)) ?_
                  exact ⟨_, _, _, fk, rfl, rfl, hW, hF0, by omega, (e_fk), by first | exact Or.inl (⟨by omega, by omega, by omega, by omega, by omega⟩) | exact Or.inr (Or.inl (⟨by omega, by omega⟩)) | exact Or.inr (Or.inr ((⟨by omega, by omega, by omega, by omega⟩)))⟩
          · have _q := h27
            refine jx_ld (pc_q := 49) (l_q := [(0, .ref 66), (1, .int (i32 (lv)))]) (st_q := [.ref 66]) rfl (jl_aloadn rfl) ?_
            refine jx_ar (pc_q := 50) (st_q := [.int (i32 (1)), .ref 66]) rfl rfl rfl rfl ?_
            refine jx_ld (pc_q := 51) (l_q := [(0, .ref 66), (1, .int (i32 (lv)))]) (st_q := [.ref 66, .int (i32 (1)), .ref 66]) rfl (jl_aloadn rfl) ?_
            refine jr_get (pc_q := 54) (i := 6) (v := .ref 70) rfl rfl (by decide) rfl rfl ?_
            refine jx_ld (pc_q := 55) (l_q := [(0, .ref 66), (1, .int (i32 (lv)))]) (st_q := [.ref 66, .ref 70, .int (i32 (1)), .ref 66]) rfl (jl_aloadn rfl) ?_
            refine jr_get (pc_q := 58) (i := 9) (v := .int (i32 (ln))) rfl rfl (by decide) (rFv_eq (by decide) (show G 9 = ln from (e_ln))) rfl ?_
            have b35 : (0 : Int) ≤ A 3 (ln).toNat ∧ A 3 (ln).toNat ≤ 3000 := hW.2 3 _
            refine jr_ldv (pc_q := 59) (i := 3) (m := 3001) (z := ln) (y := A 3 (ln).toNat) rfl (by decide) rfl (by decide) (Int.le_trans (by decide : (0 : Int) ≤ 0) b_ln.1) (Int.lt_of_le_of_lt b_ln.2 (by decide : (3000 : Int) < ((3001 : Nat) : Int))) rfl (show A 3 (ln).toNat = A 3 (ln).toNat from rfl) ?_
            refine jx_ld (pc_q := 60) (l_q := [(0, .ref 66), (1, .int (i32 (lv)))]) (st_q := [.ref 66, .int (i32 (A 3 (ln).toNat)), .int (i32 (1)), .ref 66]) rfl (jl_aloadn rfl) ?_
            refine jr_get (pc_q := 63) (i := 5) (v := .ref 69) rfl rfl (by decide) rfl rfl ?_
            refine jx_ld (pc_q := 64) (l_q := [(0, .ref 66), (1, .int (i32 (lv)))]) (st_q := [.ref 66, .ref 69, .int (i32 (A 3 (ln).toNat)), .int (i32 (1)), .ref 66]) rfl (jl_aloadn rfl) ?_
            refine jr_get (pc_q := 67) (i := 9) (v := .int (i32 (ln))) rfl rfl (by decide) (rFv_eq (by decide) (show G 9 = ln from (e_ln))) rfl ?_
            have b36 : (0 : Int) ≤ A 2 (ln).toNat ∧ A 2 (ln).toNat ≤ 3000 := hW.2 2 _
            refine jr_ldv (pc_q := 68) (i := 2) (m := 3001) (z := ln) (y := A 2 (ln).toNat) rfl (by decide) rfl (by decide) (Int.le_trans (by decide : (0 : Int) ≤ 0) b_ln.1) (Int.lt_of_le_of_lt b_ln.2 (by decide : (3000 : Int) < ((3001 : Nat) : Int))) rfl (show A 2 (ln).toNat = A 2 (ln).toNat from rfl) ?_
            refine jx_sub (pc_q := 69) rfl rfl ?_
            refine jx_vr (pc_q := 72) (as := [.int (i32 (1)), .int (i32 ((A 3 (ln).toNat - A 2 (ln).toNat)))]) (st := []) rfl rfl rfl rfl ⟨rfl, rfl, Nat.le_of_ble_eq_true rfl⟩ rfl rfl (c_fail (dd := d) (hd := by omega) (hW := hW) (kind := 1) (place := (A 3 (ln).toNat - A 2 (ln).toNat)) (fk := fk) (e_fk := show G 16 = fk from (e_fk))  (h_kind := ⟨(by decide), (by decide)⟩) (h_place := ⟨(by omega), (by omega)⟩)  (p_0 := by omega) (p_1 := by omega)) (fun o V_q hq => ?_)
            obtain ⟨G37, A38, fk2_39, rfl, rfl, hW40, hF41, e42, p43, -⟩ := hq
            have hF45 := Fr_tr hF0 hF41 (Fr_sub (by decide)) (Fr_sub (by decide))
            have bfk2_39 : (0 : Int) ≤ fk2_39 ∧ fk2_39 ≤ 6 := e42 ▸ hW40.1 16
            refine .inl ⟨rfl, ?_⟩
            refine jx_ld (pc_q := 73) (l_q := [(0, .ref 66), (1, .int (i32 (lv)))]) (st_q := [.ref 66]) rfl (jl_aloadn rfl) ?_
            refine jx_vr (pc_q := 76) (as := []) (st := []) rfl rfl rfl rfl ⟨rfl, rfl, Nat.le_of_ble_eq_true rfl⟩ rfl rfl (c_bad (dd := d) (hd := by omega) (hW := hW40)  (fk := fk2_39) (e_fk := show G37 16 = fk2_39 from (e42))    ) (fun o V_q hq => ?_)
            obtain ⟨r46, rfl, rfl, b47, q48⟩ := hq
            refine .inr ⟨_, rfl, ?_⟩
            rcases q48 with ⟨rfl, a49⟩ | ⟨rfl, a50⟩
            · have _q : True := trivial
              refine jx_if_ne (pc_q := 79) (tg := 98) rfl rfl rfl (by decide) (by decide) (fun h51 => ?_) (fun h51 => ?_)
              · have _q := h51
                refine jx_ar (pc_q := 99) (st_q := [.int (i32 (0))]) rfl rfl rfl rfl ?_
                refine jx_rt (v := some (.int (i32 (0)))) rfl rfl rfl rfl rfl (by first | rfl | exact jRet_b (by omega)) ?_
                exact ⟨_, _, _, fk2_39, rfl, rfl, hW40, hF45, by omega, (e42), by first | exact Or.inl (⟨by omega, by omega, by omega, by omega, by omega⟩) | exact Or.inr (Or.inl (⟨by omega, by omega⟩)) | exact Or.inr (Or.inr ((⟨by omega, by omega, by omega, by omega⟩)))⟩
              · have _q := h51
                exact absurd h51 (by omega)
            · have _q : True := trivial
              exfalso
              omega
      · have _q := h8
        refine jx_ar (pc_q := 19) (st_q := [.int (i32 (0))]) rfl rfl rfl rfl ?_
        refine jx_rt (v := some (.int (i32 (0)))) rfl rfl rfl rfl rfl (by first | rfl | exact jRet_b (by omega)) ?_
        exact ⟨_, _, _, fk, rfl, rfl, hW, hF0, by omega, (e_fk), by first | exact Or.inl (⟨by omega, by omega, by omega, by omega, by omega⟩) | exact Or.inr (Or.inl (⟨by omega, by omega⟩)) | exact Or.inr (Or.inr ((⟨by omega, by omega, by omega, by omega⟩)))⟩
set_option maxRecDepth 20000 in
set_option maxHeartbeats 4000000 in
theorem c_find__J {X : jX} {dd : Nat} {Vs : Nat → Prop} {sb : Int} {c0 c1 : jC} {G : Nat → Int} {A : Nat → Nat → Int} {T : jH} {nm : Int64} {vi : Int} (hd : 1 ≤ dd) (hW : Wk G A) (e_vi : G 29 = vi) (i_SV : SV Vs sb G A) : wk X dd 274 [.ref 66, .long nm] (rV c0 c1 G A T) (fun o V_q => ∃ (r : Int), V_q = rV c0 c1 G A T ∧ o = .inl (some (.int (i32 r))) ∧ ((-2147483648 : Int) ≤ r ∧ r ≤ 2147483647) ∧ (((r = -1)) ∨ ((0 ≤ r) ∧ (r ≤ 201) ∧ (SY Vs sb (r))))) := by
  obtain ⟨d, rfl⟩ : ∃ d, dd = d + 1 := ⟨dd - 1, by omega⟩
  refine wk_of (e := jm274) rfl (Nat.le_of_ble_eq_true rfl) ?_
  show wj X d jm274 (0, [(0, .ref 66), (1, .long (nm))], [], rV c0 c1 G A T) _
  have b_vi : (0 : Int) ≤ vi ∧ vi ≤ 202 := e_vi ▸ hW.1 29
  have at_7 : ∀ (m : Nat) (L : jL) (k : Int), (k + 1).toNat = m → jGet L 0 = some (.ref 66) → jGet L 1 = some (.long (nm)) → jGet L 3 = some (.int (i32 k)) → ((-2147483648 : Int) ≤ k ∧ k ≤ 2147483647) → (-1 ≤ k ∧ k < vi) → wj X d jm274 (7, L, [], rV c0 c1 G A T) (fun o V_q => ∃ (r : Int), V_q = rV c0 c1 G A T ∧ o = .inl (some (.int (i32 r))) ∧ ((-2147483648 : Int) ≤ r ∧ r ≤ 2147483647) ∧ (((r = -1)) ∨ ((0 ≤ r) ∧ (r ≤ 201) ∧ (SY Vs sb (r))))) := by
    intro m
    induction m using Nat.strongRecOn with
    | ind m ih7 =>
      intro L k hm gL_0 gL_1 gL_3 rx_k iv_0
      refine jx_ld (pc_q := 8) (l_q := L) (st_q := [.int (i32 (k))]) rfl (jl_iloadn gL_3) ?_
      refine jx_if_lt (pc_q := 11) (tg := 40) rfl rfl rfl (Int.le_trans (by decide : (-2147483648 : Int) ≤ -2147483648) rx_k.1) (Int.le_trans rx_k.2 (by decide : (2147483647 : Int) ≤ 2147483647)) (fun h1 => ?_) (fun h1 => ?_)
      · have _q := h1
        refine jx_ar (pc_q := 41) (st_q := [.int (i32 (-1))]) rfl rfl rfl rfl ?_
        refine jx_rt (v := some (.int (i32 (-1)))) rfl rfl rfl rfl rfl rfl ?_
        exact ⟨_, rfl, rfl, by omega, by first | exact Or.inl (by omega) | exact Or.inr ((⟨by omega, by omega, (i_SV (k).toNat (by rw [e_vi]; omega))⟩))⟩
      · have _q := h1
        refine jx_ld (pc_q := 12) (l_q := L) (st_q := [.ref 66]) rfl (jl_aloadn gL_0) ?_
        refine jr_get (pc_q := 15) (i := 20) (v := .ref 73) rfl rfl (by decide) rfl rfl ?_
        refine jx_ld (pc_q := 16) (l_q := L) (st_q := [.ref 66, .ref 73]) rfl (jl_aloadn gL_0) ?_
        refine jr_get (pc_q := 19) (i := 30) (v := .ref 81) rfl rfl (by decide) rfl rfl ?_
        refine jx_ld (pc_q := 20) (l_q := L) (st_q := [.int (i32 (k)), .ref 81, .ref 73]) rfl (jl_iloadn gL_3) ?_
        have b2 : (0 : Int) ≤ A 14 (k).toNat ∧ A 14 (k).toNat ≤ 201 := hW.2 14 _
        refine jr_ldv (pc_q := 21) (i := 14) (m := 260) (z := k) (y := A 14 (k).toNat) rfl (by decide) rfl (by decide) (by omega) (by omega) rfl (show A 14 (k).toNat = A 14 (k).toNat from rfl) ?_
        refine jr_llv (pc_q := 22) (i := 6) (m := 260) (z := A 14 (k).toNat) rfl (by decide) rfl (by decide) (by omega) (by omega) rfl (fun y3 => ?_)
        refine jx_ld (pc_q := 23) (l_q := L) (st_q := [.long (nm), .long (y3)]) rfl (jl_lloadn gL_1) ?_
        refine jx_lcmp (pc_q := 24) rfl rfl (fun r4 hr4 => ?_)
        refine jx_if_ne (pc_q := 27) (tg := 34) rfl rfl rfl (by omega) (by omega) (fun h5 => ?_) (fun h5 => ?_)
        · have _q := h5
          refine jx_inc (pc_q := 37) (l_q := jSto1 L 3 (.int (i32 ((k + (-1)))))) (x := k) rfl gL_3 (by decide) rfl rfl ?_
          obtain ⟨L6, eL6⟩ : ∃ q, q = jSto1 L 3 (.int (i32 ((k + (-1))))) := ⟨_, rfl⟩
          rw [← eL6]
          have gL6_0 : jGet L6 0 = some (.ref 66) := eL6 ▸ jg_ne (by decide) gL_0 rfl
          have gL6_1 : jGet L6 1 = some (.long (nm)) := eL6 ▸ jg_nel (by decide) gL_1 (by decide)
          have gL6_3 : jGet L6 3 = some (.int (i32 ((k + (-1))))) := eL6 ▸ jg_eq
          refine jx_go (tg := 7) rfl rfl ?_
          exact ih7 _ (by omega) L6 ((k + (-1))) rfl gL6_0 gL6_1 gL6_3 (by omega) (by omega)
        · have _q := h5
          refine jx_ld (pc_q := 28) (l_q := L) (st_q := [.ref 66]) rfl (jl_aloadn gL_0) ?_
          refine jr_get (pc_q := 31) (i := 30) (v := .ref 81) rfl rfl (by decide) rfl rfl ?_
          refine jx_ld (pc_q := 32) (l_q := L) (st_q := [.int (i32 (k)), .ref 81]) rfl (jl_iloadn gL_3) ?_
          refine jr_ldv (pc_q := 33) (i := 14) (m := 260) (z := k) (y := A 14 (k).toNat) rfl (by decide) rfl (by decide) (by omega) (by omega) rfl (show A 14 (k).toNat = A 14 (k).toNat from rfl) ?_
          refine jx_rt (v := some (.int (i32 (A 14 (k).toNat)))) rfl rfl rfl rfl rfl rfl ?_
          exact ⟨_, rfl, rfl, by omega, by first | exact Or.inl (by omega) | exact Or.inr ((⟨by omega, by omega, (i_SV (k).toNat (by rw [e_vi]; omega))⟩))⟩
  refine jx_ld (pc_q := 1) (l_q := [(0, .ref 66), (1, .long (nm))]) (st_q := [.ref 66]) rfl (jl_aloadn rfl) ?_
  refine jr_get (pc_q := 4) (i := 29) (v := .int (i32 (vi))) rfl rfl (by decide) (rFv_eq (by decide) (show G 29 = vi from (e_vi))) rfl ?_
  refine jx_ar (pc_q := 5) (st_q := [.int (i32 (1)), .int (i32 (vi))]) rfl rfl rfl rfl ?_
  refine jx_sub (pc_q := 6) rfl rfl ?_
  refine jx_ld (pc_q := 7) (l_q := jSto1 [(0, .ref 66), (1, .long (nm))] 3 (.int (i32 ((vi - 1))))) (st_q := []) rfl rfl ?_
  obtain ⟨L7, eL7⟩ : ∃ q, q = jSto1 [(0, .ref 66), (1, .long (nm))] 3 (.int (i32 ((vi - 1)))) := ⟨_, rfl⟩
  rw [← eL7]
  have gL7_0 : jGet L7 0 = some (.ref 66) := eL7 ▸ jg_ne (by decide) (rfl : jGet [(0, .ref 66), (1, .long (nm))] 0 = some (.ref 66)) rfl
  have gL7_1 : jGet L7 1 = some (.long (nm)) := eL7 ▸ jg_nel (by decide) (rfl : jGet [(0, .ref 66), (1, .long (nm))] 1 = some (.long (nm))) (by decide)
  have gL7_3 : jGet L7 3 = some (.int (i32 ((vi - 1)))) := eL7 ▸ jg_eq
  exact at_7 _ L7 ((vi - 1)) rfl gL7_0 gL7_1 gL7_3 (by omega) (by omega)
set_option maxRecDepth 20000 in
set_option maxHeartbeats 4000000 in
theorem c_show {X : jX} {dd : Nat} {c0 c1 : jC} {G : Nat → Int} {A : Nat → Nat → Int} {T : jH} {s : Int} {vi : Int} (hd : 1 ≤ dd) (hW : Wk G A) (e_vi : G 29 = vi) (h_s : (-2147483648 : Int) ≤ s ∧ s ≤ 2147483647) (p_0 : 0 ≤ s ∧ s ≤ 201) (p_1 : vi ≤ 201) : wk X dd 275 [.ref 66, .int (i32 s)] (rV c0 c1 G A T) (fun o V_q => ∃ (G_q : Nat → Int) (A_q : Nat → Nat → Int) (vi2 : Int) (sv2 : Int), V_q = rV c0 c1 G_q A_q T ∧ o = .inl none ∧ Wk G_q A_q ∧ Fr [29] [14] G A G_q A_q ∧ Fx [14] (vi) A A_q ∧ G_q 29 = vi2 ∧ A_q 14 (vi).toNat = sv2 ∧ (vi2 = vi + 1) ∧ (sv2 = s) ∧ True) := by
  obtain ⟨d, rfl⟩ : ∃ d, dd = d + 1 := ⟨dd - 1, by omega⟩
  refine wk_of (e := jm275) rfl (Nat.le_of_ble_eq_true rfl) ?_
  show wj X d jm275 (0, [(0, .ref 66), (1, .int (i32 (s)))], [], rV c0 c1 G A T) _
  have hF0 : Fr [29] [14] G A G A := Fr_rf
  have hV0 : Fx [14] (vi) A A := Fx_rf
  have b_vi : (0 : Int) ≤ vi ∧ vi ≤ 202 := e_vi ▸ hW.1 29
  refine jx_ld (pc_q := 1) (l_q := [(0, .ref 66), (1, .int (i32 (s)))]) (st_q := [.ref 66]) rfl (jl_aloadn rfl) ?_
  refine jr_get (pc_q := 4) (i := 30) (v := .ref 81) rfl rfl (by decide) rfl rfl ?_
  refine jx_ld (pc_q := 5) (l_q := [(0, .ref 66), (1, .int (i32 (s)))]) (st_q := [.ref 66, .ref 81]) rfl (jl_aloadn rfl) ?_
  refine jr_get (pc_q := 8) (i := 29) (v := .int (i32 (vi))) rfl rfl (by decide) (rFv_eq (by decide) (show G 29 = vi from (e_vi))) rfl ?_
  refine jx_ld (pc_q := 9) (l_q := [(0, .ref 66), (1, .int (i32 (s)))]) (st_q := [.int (i32 (s)), .int (i32 (vi)), .ref 81]) rfl (jl_iloadn rfl) ?_
  refine jr_st (pc_q := 10) (i := 14) (m := 260) (z := vi) (y := s) rfl (by decide) rfl (by decide) (by omega) (by omega) rfl ?_
  have hW2 : Wk G (uA A 14 (vi).toNat (s)) := Wk_a hW (show (0 : Int) ≤ s by omega) (show s ≤ (201 : Int) by omega)
  have hF3 := Fr_a (z := s) (k := 14) (n := (vi).toNat) hF0 (by decide)
  obtain ⟨A1, eA1⟩ : ∃ q, q = uA A 14 (vi).toNat (s) := ⟨_, rfl⟩
  rw [← eA1]
  rw [← eA1] at hW2 hF3
  have q4 : A1 14 (vi).toNat = s := by rw [eA1]; exact uA_eq
  have hV5 : Fx [14] (vi) A A1 := eA1 ▸ Fx_a hV0 (z := vi) (by omega) (by omega)
  refine jx_ld (pc_q := 11) (l_q := [(0, .ref 66), (1, .int (i32 (s)))]) (st_q := [.ref 66]) rfl (jl_aloadn rfl) ?_
  refine jx_ar (pc_q := 12) (st_q := [.ref 66, .ref 66]) rfl rfl rfl rfl ?_
  refine jr_get (pc_q := 15) (i := 29) (v := .int (i32 (vi))) rfl rfl (by decide) (rFv_eq (by decide) (show G 29 = vi from (e_vi))) rfl ?_
  refine jx_ar (pc_q := 16) (st_q := [.int (i32 (1)), .int (i32 (vi)), .ref 66]) rfl rfl rfl rfl ?_
  refine jx_add (pc_q := 17) rfl rfl ?_
  refine jr_put (pc_q := 20) (i := 29) (z := (vi + 1)) rfl rfl (by decide) rfl rfl rfl rfl rfl rfl ?_
  have hW6 : Wk (uG G 29 ((vi + 1))) A1 := Wk_g hW2 (show (0 : Int) ≤ (vi + 1) by omega) (show (vi + 1) ≤ (202 : Int) by omega)
  have hF7 := Fr_g (z := (vi + 1)) (i := 29) hF3 (by decide)
  refine jx_rt (v := none) rfl rfl rfl rfl rfl rfl ?_
  exact ⟨_, _, (vi + 1), s, rfl, rfl, hW6, hF7, hV5, rfl, (q4), by omega, by omega, trivial⟩
set_option maxRecDepth 20000 in
set_option maxHeartbeats 4000000 in
theorem c_symbol {X : jX} {dd : Nat} {c0 c1 : jC} {G : Nat → Int} {A : Nat → Nat → Int} {T : jH} {kind many : Int} {nm : Int64} {sy : Int} (hd : 1 ≤ dd) (hW : Wk G A) (e_sy : G 19 = sy) (h_kind : (-2147483648 : Int) ≤ kind ∧ kind ≤ 2147483647) (h_many : (-2147483648 : Int) ≤ many ∧ many ≤ 2147483647) (p_0 : sy ≤ 201) (p_1 : 0 ≤ kind ∧ kind ≤ 14) : wk X dd 277 [.ref 66, .long nm, .int (i32 kind), .int (i32 many)] (rV c0 c1 G A T) (fun o V_q => ∃ (G_q : Nat → Int) (A_q : Nat → Nat → Int) (r : Int) (sy2 : Int) (yk2 : Int), V_q = rV c0 c1 G_q A_q T ∧ o = .inl (some (.int (i32 r))) ∧ Wk G_q A_q ∧ Fr [19] [6, 7, 8, 9, 10, 11, 12] G A G_q A_q ∧ Fx sr (sy) A A_q ∧ ((-2147483648 : Int) ≤ r ∧ r ≤ 2147483647) ∧ G_q 19 = sy2 ∧ A_q 7 (sy).toNat = yk2 ∧ (r = sy) ∧ (sy2 = sy + 1) ∧ (yk2 = kind) ∧ (YD A_q (sy) (kind) (many)) ∧ True) := by
  obtain ⟨d, rfl⟩ : ∃ d, dd = d + 1 := ⟨dd - 1, by omega⟩
  refine wk_of (e := jm277) rfl (Nat.le_of_ble_eq_true rfl) ?_
  show wj X d jm277 (0, [(0, .ref 66), (1, .long (nm)), (3, .int (i32 (kind))), (4, .int (i32 (many)))], [], rV c0 c1 G A T) _
  have hF0 : Fr [19] [6, 7, 8, 9, 10, 11, 12] G A G A := Fr_rf
  have hS0 : Fx sr (sy) A A := Fx_rf
  have b_sy : (0 : Int) ≤ sy ∧ sy ≤ 202 := e_sy ▸ hW.1 19
  refine jx_ld (pc_q := 1) (l_q := [(0, .ref 66), (1, .long (nm)), (3, .int (i32 (kind))), (4, .int (i32 (many)))]) (st_q := [.ref 66]) rfl (jl_aloadn rfl) ?_
  refine jr_get (pc_q := 4) (i := 19) (v := .int (i32 (sy))) rfl rfl (by decide) (rFv_eq (by decide) (show G 19 = sy from (e_sy))) rfl ?_
  refine jx_ld (pc_q := 6) (l_q := jSto1 [(0, .ref 66), (1, .long (nm)), (3, .int (i32 (kind))), (4, .int (i32 (many)))] 5 (.int (i32 (sy)))) (st_q := []) rfl rfl ?_
  obtain ⟨L1, eL1⟩ : ∃ q, q = jSto1 [(0, .ref 66), (1, .long (nm)), (3, .int (i32 (kind))), (4, .int (i32 (many)))] 5 (.int (i32 (sy))) := ⟨_, rfl⟩
  rw [← eL1]
  have gL1_0 : jGet L1 0 = some (.ref 66) := eL1 ▸ jg_ne (by decide) (rfl : jGet [(0, .ref 66), (1, .long (nm)), (3, .int (i32 (kind))), (4, .int (i32 (many)))] 0 = some (.ref 66)) rfl
  have gL1_1 : jGet L1 1 = some (.long (nm)) := eL1 ▸ jg_nel (by decide) (rfl : jGet [(0, .ref 66), (1, .long (nm)), (3, .int (i32 (kind))), (4, .int (i32 (many)))] 1 = some (.long (nm))) (by decide)
  have gL1_3 : jGet L1 3 = some (.int (i32 (kind))) := eL1 ▸ jg_ne (by decide) (rfl : jGet [(0, .ref 66), (1, .long (nm)), (3, .int (i32 (kind))), (4, .int (i32 (many)))] 3 = some (.int (i32 (kind)))) rfl
  have gL1_4 : jGet L1 4 = some (.int (i32 (many))) := eL1 ▸ jg_ne (by decide) (rfl : jGet [(0, .ref 66), (1, .long (nm)), (3, .int (i32 (kind))), (4, .int (i32 (many)))] 4 = some (.int (i32 (many)))) rfl
  have gL1_5 : jGet L1 5 = some (.int (i32 (sy))) := eL1 ▸ jg_eq
  refine jx_ld (pc_q := 7) (l_q := L1) (st_q := [.ref 66]) rfl (jl_aloadn gL1_0) ?_
  refine jr_get (pc_q := 10) (i := 20) (v := .ref 73) rfl rfl (by decide) rfl rfl ?_
  refine jx_ld (pc_q := 12) (l_q := L1) (st_q := [.int (i32 (sy)), .ref 73]) rfl (jl_iload gL1_5) ?_
  refine jx_ld (pc_q := 13) (l_q := L1) (st_q := [.long (nm), .int (i32 (sy)), .ref 73]) rfl (jl_lloadn gL1_1) ?_
  have rl2 := i64_rg (nm)
  refine jr_sl (pc_q := 14) (i := 6) (m := 260) (z := sy) (y := nm) rfl (by decide) rfl (by decide) (by omega) (by omega) rfl ?_
  have hW4 : Wk G (uA A 6 (sy).toNat ((nm : Int64).toInt)) := Wk_a hW (show (-9223372036854775808 : Int) ≤ (nm : Int64).toInt by omega) (show (nm : Int64).toInt ≤ (9223372036854775807 : Int) by omega)
  have hF5 := Fr_a (z := (nm : Int64).toInt) (k := 6) (n := (sy).toNat) hF0 (by decide)
  obtain ⟨A3, eA3⟩ : ∃ q, q = uA A 6 (sy).toNat ((nm : Int64).toInt) := ⟨_, rfl⟩
  rw [← eA3]
  rw [← eA3] at hW4 hF5
  have q6 : A3 6 (sy).toNat = (nm : Int64).toInt := by rw [eA3]; exact uA_eq
  have hS7 : Fx sr (sy) A A3 := eA3 ▸ Fx_n hS0 rfl
  refine jx_ld (pc_q := 15) (l_q := L1) (st_q := [.ref 66]) rfl (jl_aloadn gL1_0) ?_
  refine jr_get (pc_q := 18) (i := 21) (v := .ref 74) rfl rfl (by decide) rfl rfl ?_
  refine jx_ld (pc_q := 20) (l_q := L1) (st_q := [.int (i32 (sy)), .ref 74]) rfl (jl_iload gL1_5) ?_
  refine jx_ld (pc_q := 21) (l_q := L1) (st_q := [.int (i32 (kind)), .int (i32 (sy)), .ref 74]) rfl (jl_iloadn gL1_3) ?_
  refine jr_st (pc_q := 22) (i := 7) (m := 260) (z := sy) (y := kind) rfl (by decide) rfl (by decide) (by omega) (by omega) rfl ?_
  have hW9 : Wk G (uA A3 7 (sy).toNat (kind)) := Wk_a hW4 (show (0 : Int) ≤ kind by omega) (show kind ≤ (14 : Int) by omega)
  have hF10 := Fr_a (z := kind) (k := 7) (n := (sy).toNat) hF5 (by decide)
  obtain ⟨A8, eA8⟩ : ∃ q, q = uA A3 7 (sy).toNat (kind) := ⟨_, rfl⟩
  rw [← eA8]
  rw [← eA8] at hW9 hF10
  have q11 : A8 7 (sy).toNat = kind := by rw [eA8]; exact uA_eq
  have hS12 : Fx sr (sy) A A8 := eA8 ▸ Fx_a hS7 (z := sy) (by omega) (by omega)
  refine jx_ld (pc_q := 23) (l_q := L1) (st_q := [.ref 66]) rfl (jl_aloadn gL1_0) ?_
  refine jr_get (pc_q := 26) (i := 22) (v := .ref 75) rfl rfl (by decide) rfl rfl ?_
  refine jx_ld (pc_q := 28) (l_q := L1) (st_q := [.int (i32 (sy)), .ref 75]) rfl (jl_iload gL1_5) ?_
  refine jx_ld (pc_q := 30) (l_q := L1) (st_q := [.int (i32 (many)), .int (i32 (sy)), .ref 75]) rfl (jl_iload gL1_4) ?_
  refine jr_st (pc_q := 31) (i := 8) (m := 260) (z := sy) (y := many) rfl (by decide) rfl (by decide) (by omega) (by omega) rfl ?_
  have hW14 : Wk G (uA A8 8 (sy).toNat (many)) := Wk_a hW9 (show (-2147483648 : Int) ≤ many by omega) (show many ≤ (2147483647 : Int) by omega)
  have hF15 := Fr_a (z := many) (k := 8) (n := (sy).toNat) hF10 (by decide)
  obtain ⟨A13, eA13⟩ : ∃ q, q = uA A8 8 (sy).toNat (many) := ⟨_, rfl⟩
  rw [← eA13]
  rw [← eA13] at hW14 hF15
  have q16 : A13 8 (sy).toNat = many := by rw [eA13]; exact uA_eq
  have hS17 : Fx sr (sy) A A13 := eA13 ▸ Fx_a hS12 (z := sy) (by omega) (by omega)
  refine jx_ld (pc_q := 32) (l_q := L1) (st_q := [.ref 66]) rfl (jl_aloadn gL1_0) ?_
  refine jr_get (pc_q := 35) (i := 23) (v := .ref 76) rfl rfl (by decide) rfl rfl ?_
  refine jx_ld (pc_q := 37) (l_q := L1) (st_q := [.int (i32 (sy)), .ref 76]) rfl (jl_iload gL1_5) ?_
  refine jx_ar (pc_q := 38) (st_q := [.int (i32 (0)), .int (i32 (sy)), .ref 76]) rfl rfl rfl rfl ?_
  refine jr_st (pc_q := 39) (i := 9) (m := 260) (z := sy) (y := 0) rfl (by decide) rfl (by decide) (by omega) (by omega) rfl ?_
  have hW19 : Wk G (uA A13 9 (sy).toNat (0)) := Wk_a hW14 (show (-2147483648 : Int) ≤ 0 by omega) (show 0 ≤ (2147483647 : Int) by omega)
  have hF20 := Fr_a (z := 0) (k := 9) (n := (sy).toNat) hF15 (by decide)
  obtain ⟨A18, eA18⟩ : ∃ q, q = uA A13 9 (sy).toNat (0) := ⟨_, rfl⟩
  rw [← eA18]
  rw [← eA18] at hW19 hF20
  have q21 : A18 9 (sy).toNat = 0 := by rw [eA18]; exact uA_eq
  have hS22 : Fx sr (sy) A A18 := eA18 ▸ Fx_n hS17 rfl
  refine jx_ld (pc_q := 40) (l_q := L1) (st_q := [.ref 66]) rfl (jl_aloadn gL1_0) ?_
  refine jr_get (pc_q := 43) (i := 24) (v := .ref 77) rfl rfl (by decide) rfl rfl ?_
  refine jx_ld (pc_q := 45) (l_q := L1) (st_q := [.int (i32 (sy)), .ref 77]) rfl (jl_iload gL1_5) ?_
  refine jx_ar (pc_q := 46) (st_q := [.int (i32 (0)), .int (i32 (sy)), .ref 77]) rfl rfl rfl rfl ?_
  refine jr_st (pc_q := 47) (i := 10) (m := 260) (z := sy) (y := 0) rfl (by decide) rfl (by decide) (by omega) (by omega) rfl ?_
  have hW24 : Wk G (uA A18 10 (sy).toNat (0)) := Wk_a hW19 (show (-2147483648 : Int) ≤ 0 by omega) (show 0 ≤ (2147483647 : Int) by omega)
  have hF25 := Fr_a (z := 0) (k := 10) (n := (sy).toNat) hF20 (by decide)
  obtain ⟨A23, eA23⟩ : ∃ q, q = uA A18 10 (sy).toNat (0) := ⟨_, rfl⟩
  rw [← eA23]
  rw [← eA23] at hW24 hF25
  have q26 : A23 10 (sy).toNat = 0 := by rw [eA23]; exact uA_eq
  have hS27 : Fx sr (sy) A A23 := eA23 ▸ Fx_n hS22 rfl
  refine jx_ld (pc_q := 48) (l_q := L1) (st_q := [.ref 66]) rfl (jl_aloadn gL1_0) ?_
  refine jr_get (pc_q := 51) (i := 25) (v := .ref 78) rfl rfl (by decide) rfl rfl ?_
  refine jx_ld (pc_q := 53) (l_q := L1) (st_q := [.int (i32 (sy)), .ref 78]) rfl (jl_iload gL1_5) ?_
  refine jx_ar (pc_q := 54) (st_q := [.int (i32 (0)), .int (i32 (sy)), .ref 78]) rfl rfl rfl rfl ?_
  refine jr_st (pc_q := 55) (i := 11) (m := 260) (z := sy) (y := 0) rfl (by decide) rfl (by decide) (by omega) (by omega) rfl ?_
  have hW29 : Wk G (uA A23 11 (sy).toNat (0)) := Wk_a hW24 (show (0 : Int) ≤ 0 by omega) (show 0 ≤ (15 : Int) by omega)
  have hF30 := Fr_a (z := 0) (k := 11) (n := (sy).toNat) hF25 (by decide)
  obtain ⟨A28, eA28⟩ : ∃ q, q = uA A23 11 (sy).toNat (0) := ⟨_, rfl⟩
  rw [← eA28]
  rw [← eA28] at hW29 hF30
  have q31 : A28 11 (sy).toNat = 0 := by rw [eA28]; exact uA_eq
  have hS32 : Fx sr (sy) A A28 := eA28 ▸ Fx_n hS27 rfl
  refine jx_ld (pc_q := 56) (l_q := L1) (st_q := [.ref 66]) rfl (jl_aloadn gL1_0) ?_
  refine jr_get (pc_q := 59) (i := 26) (v := .ref 79) rfl rfl (by decide) rfl rfl ?_
  refine jx_ld (pc_q := 61) (l_q := L1) (st_q := [.int (i32 (sy)), .ref 79]) rfl (jl_iload gL1_5) ?_
  refine jx_ar (pc_q := 62) (st_q := [.int (i32 (0)), .int (i32 (sy)), .ref 79]) rfl rfl rfl rfl ?_
  refine jr_st (pc_q := 63) (i := 12) (m := 260) (z := sy) (y := 0) rfl (by decide) rfl (by decide) (by omega) (by omega) rfl ?_
  have hW34 : Wk G (uA A28 12 (sy).toNat (0)) := Wk_a hW29 (show (0 : Int) ≤ 0 by omega) (show 0 ≤ (24 : Int) by omega)
  have hF35 := Fr_a (z := 0) (k := 12) (n := (sy).toNat) hF30 (by decide)
  obtain ⟨A33, eA33⟩ : ∃ q, q = uA A28 12 (sy).toNat (0) := ⟨_, rfl⟩
  rw [← eA33]
  rw [← eA33] at hW34 hF35
  have q36 : A33 12 (sy).toNat = 0 := by rw [eA33]; exact uA_eq
  have hS37 : Fx sr (sy) A A33 := eA33 ▸ Fx_a hS32 (z := sy) (by omega) (by omega)
  refine jx_ld (pc_q := 64) (l_q := L1) (st_q := [.ref 66]) rfl (jl_aloadn gL1_0) ?_
  refine jx_ar (pc_q := 65) (st_q := [.ref 66, .ref 66]) rfl rfl rfl rfl ?_
  refine jr_get (pc_q := 68) (i := 19) (v := .int (i32 (sy))) rfl rfl (by decide) (rFv_eq (by decide) (show G 19 = sy from (e_sy))) rfl ?_
  refine jx_ar (pc_q := 69) (st_q := [.int (i32 (1)), .int (i32 (sy)), .ref 66]) rfl rfl rfl rfl ?_
  refine jx_add (pc_q := 70) rfl rfl ?_
  refine jr_put (pc_q := 73) (i := 19) (z := (sy + 1)) rfl rfl (by decide) rfl rfl rfl rfl rfl rfl ?_
  have hW38 : Wk (uG G 19 ((sy + 1))) A33 := Wk_g hW34 (show (0 : Int) ≤ (sy + 1) by omega) (show (sy + 1) ≤ (202 : Int) by omega)
  have hF39 := Fr_g (z := (sy + 1)) (i := 19) hF35 (by decide)
  refine jx_ld (pc_q := 75) (l_q := L1) (st_q := [.int (i32 (sy))]) rfl (jl_iload gL1_5) ?_
  refine jx_rt (v := some (.int (i32 (sy)))) rfl rfl rfl rfl rfl rfl ?_
  exact ⟨_, _, _, (sy + 1), kind, rfl, rfl, hW38, hF39, hS37, by omega, rfl, (congrFun (((congrFun eA33 7).trans (uA_ne (by decide))).trans (((congrFun eA28 7).trans (uA_ne (by decide))).trans (((congrFun eA23 7).trans (uA_ne (by decide))).trans (((congrFun eA18 7).trans (uA_ne (by decide))).trans ((congrFun eA13 7).trans (uA_ne (by decide))))))) _).trans (q11), by omega, by omega, by omega, ⟨(show A33 7 (sy).toNat = kind from (congrFun (((congrFun eA33 7).trans (uA_ne (by decide))).trans (((congrFun eA28 7).trans (uA_ne (by decide))).trans (((congrFun eA23 7).trans (uA_ne (by decide))).trans (((congrFun eA18 7).trans (uA_ne (by decide))).trans ((congrFun eA13 7).trans (uA_ne (by decide))))))) _).trans (q11)), (show A33 8 (sy).toNat = many from (congrFun (((congrFun eA33 8).trans (uA_ne (by decide))).trans (((congrFun eA28 8).trans (uA_ne (by decide))).trans (((congrFun eA23 8).trans (uA_ne (by decide))).trans ((congrFun eA18 8).trans (uA_ne (by decide)))))) _).trans (q16))⟩, trivial⟩
set_option maxRecDepth 20000 in
set_option maxHeartbeats 4000000 in
theorem c_newName {X : jX} {dd : Nat} {c0 c1 : jC} {G : Nat → Int} {A : Nat → Nat → Int} {T : jH} {kind many : Int} {sy na fk : Int} (hd : 2 ≤ dd) (hW : Wk G A) (e_sy : G 19 = sy) (e_na : G 28 = na) (e_fk : G 16 = fk) (h_kind : (-2147483648 : Int) ≤ kind ∧ kind ≤ 2147483647) (h_many : (-2147483648 : Int) ≤ many ∧ many ≤ 2147483647) (p_0 : sy ≤ na + 2) (p_1 : 0 ≤ kind ∧ kind ≤ 14) : wk X dd 276 [.ref 66, .int (i32 kind), .int (i32 many)] (rV c0 c1 G A T) (fun o V_q => ∃ (G_q : Nat → Int) (A_q : Nat → Nat → Int) (r : Int) (sy2 : Int) (na2 : Int) (fk2 : Int) (yk2 : Int), V_q = rV c0 c1 G_q A_q T ∧ o = .inl (some (.int (i32 r))) ∧ Wk G_q A_q ∧ Fr [16, 17, 18, 19, 28] [6, 7, 8, 9, 10, 11, 12] G A G_q A_q ∧ Fx sr (sy) A A_q ∧ ((-2147483648 : Int) ≤ r ∧ r ≤ 2147483647) ∧ G_q 19 = sy2 ∧ G_q 28 = na2 ∧ G_q 16 = fk2 ∧ A_q 7 (sy).toNat = yk2 ∧ ((r = sy ∧ (fk2 = 0) ∧ (fk = 0) ∧ (sy2 = sy + 1) ∧ (na2 = na + 1) ∧ (yk2 = kind) ∧ (YD A_q (sy) (kind) (many))) ∨ (r = 0 ∧ (1 ≤ fk2) ∧ (sy2 = sy) ∧ (na2 = na)))) := by
  obtain ⟨d, rfl⟩ : ∃ d, dd = d + 1 := ⟨dd - 1, by omega⟩
  refine wk_of (e := jm276) rfl (Nat.le_of_ble_eq_true rfl) ?_
  show wj X d jm276 (0, [(0, .ref 66), (1, .int (i32 (kind))), (2, .int (i32 (many)))], [], rV c0 c1 G A T) _
  have hF0 : Fr [16, 17, 18, 19, 28] [6, 7, 8, 9, 10, 11, 12] G A G A := Fr_rf
  have hS0 : Fx sr (sy) A A := Fx_rf
  have b_sy : (0 : Int) ≤ sy ∧ sy ≤ 202 := e_sy ▸ hW.1 19
  have b_na : (0 : Int) ≤ na ∧ na ≤ 200 := e_na ▸ hW.1 28
  have b_fk : (0 : Int) ≤ fk ∧ fk ≤ 6 := e_fk ▸ hW.1 16
  refine jx_ld (pc_q := 1) (l_q := [(0, .ref 66), (1, .int (i32 (kind))), (2, .int (i32 (many)))]) (st_q := [.ref 66]) rfl (jl_aloadn rfl) ?_
  refine jx_vr (pc_q := 4) (as := []) (st := []) rfl rfl rfl rfl ⟨rfl, rfl, Nat.le_of_ble_eq_true rfl⟩ rfl rfl (c_bad (dd := d) (hd := by omega) (hW := hW)  (fk := fk) (e_fk := show G 16 = fk from (e_fk))    ) (fun o V_q hq => ?_)
  obtain ⟨r1, rfl, rfl, b2, q3⟩ := hq
  refine .inr ⟨_, rfl, ?_⟩
  rcases q3 with ⟨rfl, a4⟩ | ⟨rfl, a5⟩
  · have _q : True := trivial
    refine jx_if_ne (pc_q := 7) (tg := 27) rfl rfl rfl (by decide) (by decide) (fun h6 => ?_) (fun h6 => ?_)
    · have _q := h6
      refine jx_ld (pc_q := 28) (l_q := [(0, .ref 66), (1, .int (i32 (kind))), (2, .int (i32 (many)))]) (st_q := [.ref 66]) rfl (jl_aloadn rfl) ?_
      refine jx_vr (pc_q := 31) (as := []) (st := []) rfl rfl rfl rfl ⟨rfl, rfl, Nat.le_of_ble_eq_true rfl⟩ rfl rfl (c_bad (dd := d) (hd := by omega) (hW := hW)  (fk := fk) (e_fk := show G 16 = fk from (e_fk))    ) (fun o V_q hq => ?_)
      obtain ⟨r7, rfl, rfl, b8, q9⟩ := hq
      refine .inr ⟨_, rfl, ?_⟩
      rcases q9 with ⟨rfl, a10⟩ | ⟨rfl, a11⟩
      · have _q : True := trivial
        refine jx_if_eq (pc_q := 34) (tg := 36) rfl rfl rfl (by decide) (by decide) (fun h12 => ?_) (fun h12 => ?_)
        · have _q := h12
          exact absurd h12 (by omega)
        · have _q := h12
          refine jx_ar (pc_q := 35) (st_q := [.int (i32 (0))]) rfl rfl rfl rfl ?_
          refine jx_rt (v := some (.int (i32 (0)))) rfl rfl rfl rfl rfl rfl ?_
          exact ⟨_, _, _, sy, na, fk, A 7 (sy).toNat, rfl, rfl, hW, hF0, hS0, by omega, (e_sy), (e_na), (e_fk), rfl, by first | exact Or.inr ((⟨by omega, by omega, by omega, by omega⟩))⟩
      · have _q : True := trivial
        exfalso
        omega
    · have _q := h6
      exact absurd h6 (by omega)
  · have _q : True := trivial
    refine jx_if_ne (pc_q := 7) (tg := 27) rfl rfl rfl (by decide) (by decide) (fun h13 => ?_) (fun h13 => ?_)
    · have _q := h13
      exact absurd h13 (by omega)
    · have _q := h13
      refine jx_ld (pc_q := 8) (l_q := [(0, .ref 66), (1, .int (i32 (kind))), (2, .int (i32 (many)))]) (st_q := [.ref 66]) rfl (jl_aloadn rfl) ?_
      refine jr_get (pc_q := 11) (i := 28) (v := .int (i32 (na))) rfl rfl (by decide) (rFv_eq (by decide) (show G 28 = na from (e_na))) rfl ?_
      refine jx_ar (pc_q := 14) (st_q := [.int (i32 (200)), .int (i32 (na))]) rfl rfl rfl rfl ?_
      refine jx_icmp_ne (pc_q := 17) (tg := 27) rfl rfl rfl (Int.le_trans (by decide : (-2147483648 : Int) ≤ 0) b_na.1) (Int.le_trans b_na.2 (by decide : (200 : Int) ≤ 2147483647)) (by decide) (by decide) (fun h14 => ?_) (fun h14 => ?_)
      · have _q := h14
        refine jx_ld (pc_q := 28) (l_q := [(0, .ref 66), (1, .int (i32 (kind))), (2, .int (i32 (many)))]) (st_q := [.ref 66]) rfl (jl_aloadn rfl) ?_
        refine jx_vr (pc_q := 31) (as := []) (st := []) rfl rfl rfl rfl ⟨rfl, rfl, Nat.le_of_ble_eq_true rfl⟩ rfl rfl (c_bad (dd := d) (hd := by omega) (hW := hW)  (fk := fk) (e_fk := show G 16 = fk from (e_fk))    ) (fun o V_q hq => ?_)
        obtain ⟨r15, rfl, rfl, b16, q17⟩ := hq
        refine .inr ⟨_, rfl, ?_⟩
        rcases q17 with ⟨rfl, a18⟩ | ⟨rfl, a19⟩
        · have _q : True := trivial
          exfalso
          omega
        · have _q : True := trivial
          refine jx_if_eq (pc_q := 34) (tg := 36) rfl rfl rfl (by decide) (by decide) (fun h20 => ?_) (fun h20 => ?_)
          · have _q := h20
            refine jx_ld (pc_q := 37) (l_q := [(0, .ref 66), (1, .int (i32 (kind))), (2, .int (i32 (many)))]) (st_q := [.ref 66]) rfl (jl_aloadn rfl) ?_
            refine jx_ar (pc_q := 38) (st_q := [.ref 66, .ref 66]) rfl rfl rfl rfl ?_
            refine jr_get (pc_q := 41) (i := 28) (v := .int (i32 (na))) rfl rfl (by decide) (rFv_eq (by decide) (show G 28 = na from (e_na))) rfl ?_
            refine jx_ar (pc_q := 42) (st_q := [.int (i32 (1)), .int (i32 (na)), .ref 66]) rfl rfl rfl rfl ?_
            refine jx_add (pc_q := 43) rfl rfl ?_
            refine jr_put (pc_q := 46) (i := 28) (z := (na + 1)) rfl rfl (by decide) rfl rfl rfl rfl rfl rfl ?_
            have hW21 : Wk (uG G 28 ((na + 1))) A := Wk_g hW (show (0 : Int) ≤ (na + 1) by omega) (show (na + 1) ≤ (200 : Int) by omega)
            have hF22 := Fr_g (z := (na + 1)) (i := 28) hF0 (by decide)
            refine jx_ld (pc_q := 47) (l_q := [(0, .ref 66), (1, .int (i32 (kind))), (2, .int (i32 (many)))]) (st_q := [.ref 66]) rfl (jl_aloadn rfl) ?_
            refine jx_ld (pc_q := 48) (l_q := [(0, .ref 66), (1, .int (i32 (kind))), (2, .int (i32 (many)))]) (st_q := [.ref 66, .ref 66]) rfl (jl_aloadn rfl) ?_
            refine jr_get (pc_q := 51) (i := 14) (v := .long (i64 ((uG G 28 ((na + 1))) 14))) rfl rfl (by decide) rfl rfl ?_
            obtain ⟨y23, ey23⟩ : ∃ q : Int64, q = i64 ((uG G 28 ((na + 1))) 14) := ⟨_, rfl⟩
            rw [← ey23]
            refine jx_ld (pc_q := 52) (l_q := [(0, .ref 66), (1, .int (i32 (kind))), (2, .int (i32 (many)))]) (st_q := [.int (i32 (kind)), .long (y23), .ref 66]) rfl (jl_iloadn rfl) ?_
            refine jx_ld (pc_q := 53) (l_q := [(0, .ref 66), (1, .int (i32 (kind))), (2, .int (i32 (many)))]) (st_q := [.int (i32 (many)), .int (i32 (kind)), .long (y23), .ref 66]) rfl (jl_iloadn rfl) ?_
            refine jx_vr (pc_q := 56) (as := [.long (y23), .int (i32 (kind)), .int (i32 (many))]) (st := []) rfl rfl rfl rfl ⟨rfl, rfl, Nat.le_of_ble_eq_true rfl⟩ rfl rfl (c_symbol (dd := d) (hd := by omega) (hW := hW21) (nm := y23) (kind := kind) (many := many) (sy := sy) (e_sy := show (uG G 28 ((na + 1))) 19 = sy from (e_sy))  (h_kind := ⟨(Int.le_trans (by decide : (-2147483648 : Int) ≤ -2147483648) h_kind.1), (Int.le_trans h_kind.2 (by decide : (2147483647 : Int) ≤ 2147483647))⟩) (h_many := ⟨(Int.le_trans (by decide : (-2147483648 : Int) ≤ -2147483648) h_many.1), (Int.le_trans h_many.2 (by decide : (2147483647 : Int) ≤ 2147483647))⟩)  (p_0 := by omega) (p_1 := by omega)) (fun o V_q hq => ?_)
            obtain ⟨G24, A25, r26, sy2_27, yk2_28, rfl, rfl, hW29, hF30, hQ31, b32, e33, e34, p35, p36, p37, p38, -⟩ := hq
            have hF40 := Fr_tr hF22 hF30 (Fr_sub (by decide)) (Fr_sub (by decide))
            have hS41 := Fx_tr hS0 hQ31 (by omega)
            have bsy2_27 : (0 : Int) ≤ sy2_27 ∧ sy2_27 ≤ 202 := e33 ▸ hW29.1 19
            have byk2_28 : (0 : Int) ≤ yk2_28 ∧ yk2_28 ≤ 14 := e34 ▸ hW29.2 7 _
            refine .inr ⟨_, rfl, ?_⟩
            refine jx_rt (v := some (.int (i32 (r26)))) rfl rfl rfl rfl rfl rfl ?_
            exact ⟨_, _, _, sy2_27, (na + 1), fk, yk2_28, rfl, rfl, hW29, hF40, hS41, by omega, (e33), (hF30.1 28 rfl), ((hF30.1 16 rfl).trans (e_fk)), (e34), by first | exact Or.inl (⟨by omega, by omega, by omega, by omega, by omega, by omega, p38⟩)⟩
          · have _q := h20
            exact absurd h20 (by omega)
      · have _q := h14
        refine jx_ld (pc_q := 18) (l_q := [(0, .ref 66), (1, .int (i32 (kind))), (2, .int (i32 (many)))]) (st_q := [.ref 66]) rfl (jl_aloadn rfl) ?_
        refine jx_ar (pc_q := 20) (st_q := [.int (i32 (6)), .ref 66]) rfl rfl rfl rfl ?_
        refine jx_ld (pc_q := 21) (l_q := [(0, .ref 66), (1, .int (i32 (kind))), (2, .int (i32 (many)))]) (st_q := [.ref 66, .int (i32 (6)), .ref 66]) rfl (jl_aloadn rfl) ?_
        have b42 : (-3000 : Int) ≤ G 12 ∧ G 12 ≤ 3002 := hW.1 12
        refine jr_get (pc_q := 24) (i := 12) (v := .int (i32 (G 12))) rfl rfl (by decide) rfl rfl ?_
        refine jx_vr (pc_q := 27) (as := [.int (i32 (6)), .int (i32 (G 12))]) (st := []) rfl rfl rfl rfl ⟨rfl, rfl, Nat.le_of_ble_eq_true rfl⟩ rfl rfl (c_fail (dd := d) (hd := by omega) (hW := hW) (kind := 6) (place := G 12) (fk := fk) (e_fk := show G 16 = fk from (e_fk))  (h_kind := ⟨(by decide), (by decide)⟩) (h_place := ⟨(Int.le_trans (by decide : (-2147483648 : Int) ≤ -3000) b42.1), (Int.le_trans b42.2 (by decide : (3002 : Int) ≤ 2147483647))⟩)  (p_0 := by omega) (p_1 := by omega)) (fun o V_q hq => ?_)
        obtain ⟨G43, A44, fk2_45, rfl, rfl, hW46, hF47, e48, p49, -⟩ := hq
        have hF51 := Fr_tr hF0 hF47 (Fr_sub (by decide)) (Fr_sub (by decide))
        have hS52 := Fx_f hS0 hF47 (by decide)
        have bfk2_45 : (0 : Int) ≤ fk2_45 ∧ fk2_45 ≤ 6 := e48 ▸ hW46.1 16
        refine .inl ⟨rfl, ?_⟩
        refine jx_ld (pc_q := 28) (l_q := [(0, .ref 66), (1, .int (i32 (kind))), (2, .int (i32 (many)))]) (st_q := [.ref 66]) rfl (jl_aloadn rfl) ?_
        refine jx_vr (pc_q := 31) (as := []) (st := []) rfl rfl rfl rfl ⟨rfl, rfl, Nat.le_of_ble_eq_true rfl⟩ rfl rfl (c_bad (dd := d) (hd := by omega) (hW := hW46)  (fk := fk2_45) (e_fk := show G43 16 = fk2_45 from (e48))    ) (fun o V_q hq => ?_)
        obtain ⟨r53, rfl, rfl, b54, q55⟩ := hq
        refine .inr ⟨_, rfl, ?_⟩
        rcases q55 with ⟨rfl, a56⟩ | ⟨rfl, a57⟩
        · have _q : True := trivial
          refine jx_if_eq (pc_q := 34) (tg := 36) rfl rfl rfl (by decide) (by decide) (fun h58 => ?_) (fun h58 => ?_)
          · have _q := h58
            exact absurd h58 (by omega)
          · have _q := h58
            refine jx_ar (pc_q := 35) (st_q := [.int (i32 (0))]) rfl rfl rfl rfl ?_
            refine jx_rt (v := some (.int (i32 (0)))) rfl rfl rfl rfl rfl rfl ?_
            exact ⟨_, _, _, sy, na, fk2_45, A 7 (sy).toNat, rfl, rfl, hW46, hF51, hS52, by omega, ((hF47.1 19 rfl).trans (e_sy)), ((hF47.1 28 rfl).trans (e_na)), (e48), (congrFun (hF47.2 7 rfl) _), by first | exact Or.inr ((⟨by omega, by omega, by omega, by omega⟩))⟩
        · have _q : True := trivial
          exfalso
          omega
set_option maxRecDepth 20000 in
set_option maxHeartbeats 4000000 in
theorem c_lookUp {X : jX} {dd : Nat} {Vs : Nat → Prop} {sb : Int} {c0 c1 : jC} {G : Nat → Int} {A : Nat → Nat → Int} {T : jH} {fk : Int} (hd : 2 ≤ dd) (hW : Wk G A) (e_fk : G 16 = fk) (i_SV : SV Vs sb G A) : wk X dd 279 [.ref 66] (rV c0 c1 G A T) (fun o V_q => ∃ (G_q : Nat → Int) (A_q : Nat → Nat → Int) (r : Int) (fk2 : Int), V_q = rV c0 c1 G_q A_q T ∧ o = .inl (some (.int (i32 r))) ∧ Wk G_q A_q ∧ Fr [16, 17, 18] [] G A G_q A_q ∧ ((-2147483648 : Int) ≤ r ∧ r ≤ 2147483647) ∧ G_q 16 = fk2 ∧ (((r = -1) ∧ (1 ≤ fk2)) ∨ ((0 ≤ r) ∧ (r ≤ 201) ∧ (fk2 = fk) ∧ (SY Vs sb (r))))) := by
  obtain ⟨d, rfl⟩ : ∃ d, dd = d + 1 := ⟨dd - 1, by omega⟩
  refine wk_of (e := jm279) rfl (Nat.le_of_ble_eq_true rfl) ?_
  show wj X d jm279 (0, [(0, .ref 66)], [], rV c0 c1 G A T) _
  have hF0 : Fr [16, 17, 18] [] G A G A := Fr_rf
  have b_fk : (0 : Int) ≤ fk ∧ fk ≤ 6 := e_fk ▸ hW.1 16
  refine jx_ld (pc_q := 1) (l_q := [(0, .ref 66)]) (st_q := [.ref 66]) rfl (jl_aloadn rfl) ?_
  refine jx_ld (pc_q := 2) (l_q := [(0, .ref 66)]) (st_q := [.ref 66, .ref 66]) rfl (jl_aloadn rfl) ?_
  refine jr_get (pc_q := 5) (i := 14) (v := .long (i64 (G 14))) rfl rfl (by decide) rfl rfl ?_
  obtain ⟨y1, ey1⟩ : ∃ q : Int64, q = i64 (G 14) := ⟨_, rfl⟩
  rw [← ey1]
  have b2 : (0 : Int) ≤ G 29 ∧ G 29 ≤ 202 := hW.1 29
  refine jx_vr (pc_q := 8) (as := [.long (y1)]) (st := []) rfl rfl rfl rfl ⟨rfl, rfl, Nat.le_of_ble_eq_true rfl⟩ rfl rfl (c_find__J (dd := d) (hd := by omega) (hW := hW) (nm := y1) (vi := G 29) (e_vi := show G 29 = G 29 from rfl) (i_SV := (SV_ext (rfl) (rfl) i_SV))   ) (fun o V_q hq => ?_)
  obtain ⟨r3, rfl, rfl, b4, q5⟩ := hq
  refine .inr ⟨_, rfl, ?_⟩
  rcases q5 with a6 | ⟨a7, a8, a9⟩
  · have _q : True := trivial
    refine jx_ld (pc_q := 9) (l_q := jSto1 [(0, .ref 66)] 1 (.int (i32 (r3)))) (st_q := []) rfl rfl ?_
    obtain ⟨L10, eL10⟩ : ∃ q, q = jSto1 [(0, .ref 66)] 1 (.int (i32 (r3))) := ⟨_, rfl⟩
    rw [← eL10]
    have gL10_0 : jGet L10 0 = some (.ref 66) := eL10 ▸ jg_ne (by decide) (rfl : jGet [(0, .ref 66)] 0 = some (.ref 66)) rfl
    have gL10_1 : jGet L10 1 = some (.int (i32 (r3))) := eL10 ▸ jg_eq
    refine jx_ld (pc_q := 10) (l_q := L10) (st_q := [.int (i32 (r3))]) rfl (jl_iloadn gL10_1) ?_
    refine jx_ar (pc_q := 11) (st_q := [.int (i32 (-1)), .int (i32 (r3))]) rfl rfl rfl rfl ?_
    refine jx_icmp_ne (pc_q := 14) (tg := 23) rfl rfl rfl (Int.le_trans (by decide : (-2147483648 : Int) ≤ -2147483648) b4.1) (Int.le_trans b4.2 (by decide : (2147483647 : Int) ≤ 2147483647)) (by decide) (by decide) (fun h11 => ?_) (fun h11 => ?_)
    · have _q := h11
      refine jx_ld (pc_q := 24) (l_q := L10) (st_q := [.int (i32 (r3))]) rfl (jl_iloadn gL10_1) ?_
      refine jx_rt (v := some (.int (i32 (r3)))) rfl rfl rfl rfl rfl rfl ?_
      exact ⟨_, _, _, fk, rfl, rfl, hW, hF0, by omega, (e_fk), by first | exact Or.inl (⟨by omega, by omega⟩)⟩
    · have _q := h11
      refine jx_ld (pc_q := 15) (l_q := L10) (st_q := [.ref 66]) rfl (jl_aloadn gL10_0) ?_
      refine jx_ar (pc_q := 16) (st_q := [.int (i32 (3)), .ref 66]) rfl rfl rfl rfl ?_
      refine jx_ld (pc_q := 17) (l_q := L10) (st_q := [.ref 66, .int (i32 (3)), .ref 66]) rfl (jl_aloadn gL10_0) ?_
      have b12 : (-3000 : Int) ≤ G 12 ∧ G 12 ≤ 3002 := hW.1 12
      refine jr_get (pc_q := 20) (i := 12) (v := .int (i32 (G 12))) rfl rfl (by decide) rfl rfl ?_
      refine jx_vr (pc_q := 23) (as := [.int (i32 (3)), .int (i32 (G 12))]) (st := []) rfl rfl rfl rfl ⟨rfl, rfl, Nat.le_of_ble_eq_true rfl⟩ rfl rfl (c_fail (dd := d) (hd := by omega) (hW := hW) (kind := 3) (place := G 12) (fk := fk) (e_fk := show G 16 = fk from (e_fk))  (h_kind := ⟨(by decide), (by decide)⟩) (h_place := ⟨(Int.le_trans (by decide : (-2147483648 : Int) ≤ -3000) b12.1), (Int.le_trans b12.2 (by decide : (3002 : Int) ≤ 2147483647))⟩)  (p_0 := by omega) (p_1 := by omega)) (fun o V_q hq => ?_)
      obtain ⟨G13, A14, fk2_15, rfl, rfl, hW16, hF17, e18, p19, -⟩ := hq
      have hF21 := Fr_tr hF0 hF17 (Fr_sub (by decide)) (Fr_sub (by decide))
      have bfk2_15 : (0 : Int) ≤ fk2_15 ∧ fk2_15 ≤ 6 := e18 ▸ hW16.1 16
      refine .inl ⟨rfl, ?_⟩
      refine jx_ld (pc_q := 24) (l_q := L10) (st_q := [.int (i32 (r3))]) rfl (jl_iloadn gL10_1) ?_
      refine jx_rt (v := some (.int (i32 (r3)))) rfl rfl rfl rfl rfl rfl ?_
      exact ⟨_, _, _, fk2_15, rfl, rfl, hW16, hF21, by omega, (e18), by first | exact Or.inl (⟨by omega, by omega⟩)⟩
  · have _q : True := trivial
    refine jx_ld (pc_q := 9) (l_q := jSto1 [(0, .ref 66)] 1 (.int (i32 (r3)))) (st_q := []) rfl rfl ?_
    obtain ⟨L22, eL22⟩ : ∃ q, q = jSto1 [(0, .ref 66)] 1 (.int (i32 (r3))) := ⟨_, rfl⟩
    rw [← eL22]
    have gL22_0 : jGet L22 0 = some (.ref 66) := eL22 ▸ jg_ne (by decide) (rfl : jGet [(0, .ref 66)] 0 = some (.ref 66)) rfl
    have gL22_1 : jGet L22 1 = some (.int (i32 (r3))) := eL22 ▸ jg_eq
    refine jx_ld (pc_q := 10) (l_q := L22) (st_q := [.int (i32 (r3))]) rfl (jl_iloadn gL22_1) ?_
    refine jx_ar (pc_q := 11) (st_q := [.int (i32 (-1)), .int (i32 (r3))]) rfl rfl rfl rfl ?_
    refine jx_icmp_ne (pc_q := 14) (tg := 23) rfl rfl rfl (Int.le_trans (by decide : (-2147483648 : Int) ≤ -2147483648) b4.1) (Int.le_trans b4.2 (by decide : (2147483647 : Int) ≤ 2147483647)) (by decide) (by decide) (fun h23 => ?_) (fun h23 => ?_)
    · have _q := h23
      refine jx_ld (pc_q := 24) (l_q := L22) (st_q := [.int (i32 (r3))]) rfl (jl_iloadn gL22_1) ?_
      refine jx_rt (v := some (.int (i32 (r3)))) rfl rfl rfl rfl rfl rfl ?_
      exact ⟨_, _, _, fk, rfl, rfl, hW, hF0, by omega, (e_fk), by first | exact Or.inl (⟨by omega, by omega⟩) | exact Or.inr ((⟨by omega, by omega, by omega, a9⟩))⟩
    · have _q := h23
      refine jx_ld (pc_q := 15) (l_q := L22) (st_q := [.ref 66]) rfl (jl_aloadn gL22_0) ?_
      refine jx_ar (pc_q := 16) (st_q := [.int (i32 (3)), .ref 66]) rfl rfl rfl rfl ?_
      refine jx_ld (pc_q := 17) (l_q := L22) (st_q := [.ref 66, .int (i32 (3)), .ref 66]) rfl (jl_aloadn gL22_0) ?_
      have b24 : (-3000 : Int) ≤ G 12 ∧ G 12 ≤ 3002 := hW.1 12
      refine jr_get (pc_q := 20) (i := 12) (v := .int (i32 (G 12))) rfl rfl (by decide) rfl rfl ?_
      refine jx_vr (pc_q := 23) (as := [.int (i32 (3)), .int (i32 (G 12))]) (st := []) rfl rfl rfl rfl ⟨rfl, rfl, Nat.le_of_ble_eq_true rfl⟩ rfl rfl (c_fail (dd := d) (hd := by omega) (hW := hW) (kind := 3) (place := G 12) (fk := fk) (e_fk := show G 16 = fk from (e_fk))  (h_kind := ⟨(by decide), (by decide)⟩) (h_place := ⟨(Int.le_trans (by decide : (-2147483648 : Int) ≤ -3000) b24.1), (Int.le_trans b24.2 (by decide : (3002 : Int) ≤ 2147483647))⟩)  (p_0 := by omega) (p_1 := by omega)) (fun o V_q hq => ?_)
      obtain ⟨G25, A26, fk2_27, rfl, rfl, hW28, hF29, e30, p31, -⟩ := hq
      have hF33 := Fr_tr hF0 hF29 (Fr_sub (by decide)) (Fr_sub (by decide))
      have bfk2_27 : (0 : Int) ≤ fk2_27 ∧ fk2_27 ≤ 6 := e30 ▸ hW28.1 16
      refine .inl ⟨rfl, ?_⟩
      refine jx_ld (pc_q := 24) (l_q := L22) (st_q := [.int (i32 (r3))]) rfl (jl_iloadn gL22_1) ?_
      refine jx_rt (v := some (.int (i32 (r3)))) rfl rfl rfl rfl rfl rfl ?_
      exact ⟨_, _, _, fk2_27, rfl, rfl, hW28, hF33, by omega, (e30), by first | exact Or.inl (⟨by omega, by omega⟩) | exact Or.inr ((⟨by omega, by omega, by omega, a9⟩))⟩
set_option maxRecDepth 20000 in
set_option maxHeartbeats 4000000 in
theorem c_isValue {X : jX} {dd : Nat} {V : jH} {k : Int} (hd : 1 ≤ dd) (h_k : (-2147483648 : Int) ≤ k ∧ k ≤ 2147483647) : wk X dd 280 [.int (i32 k)] V (fun o V_q => ∃ (r : Int), V_q = V ∧ o = .inl (some (.int (i32 r))) ∧ ((0 : Int) ≤ r ∧ r ≤ 1) ∧ ((r = 1 ∧ (kVal (k))) ∨ (r = 0))) := by
  obtain ⟨d, rfl⟩ : ∃ d, dd = d + 1 := ⟨dd - 1, by omega⟩
  refine wk_of (e := jm280) rfl (Nat.le_of_ble_eq_true rfl) ?_
  show wj X d jm280 (0, [(0, .int (i32 (k)))], [], V) _
  refine jx_ld (pc_q := 1) (l_q := [(0, .int (i32 (k)))]) (st_q := [.int (i32 (k))]) rfl (jl_iloadn rfl) ?_
  refine jx_ar (pc_q := 2) (st_q := [.int (i32 (1)), .int (i32 (k))]) rfl rfl rfl rfl ?_
  refine jx_icmp_eq (pc_q := 5) (tg := 28) rfl rfl rfl (Int.le_trans (by decide : (-2147483648 : Int) ≤ -2147483648) h_k.1) (Int.le_trans h_k.2 (by decide : (2147483647 : Int) ≤ 2147483647)) (by decide) (by decide) (fun h1 => ?_) (fun h1 => ?_)
  · have _q := h1
    refine jx_ar (pc_q := 29) (st_q := [.int (i32 (1))]) rfl rfl rfl rfl ?_
    refine jx_go (tg := 33) rfl rfl ?_
    refine jx_rt (v := some (.int (i32 (1)))) rfl rfl rfl rfl rfl (by first | rfl | exact jRet_b (by omega)) ?_
    exact ⟨_, rfl, rfl, by omega, by first | exact Or.inl (⟨by omega, (by unfold kVal; omega)⟩) | exact Or.inr ((by omega))⟩
  · have _q := h1
    refine jx_ld (pc_q := 6) (l_q := [(0, .int (i32 (k)))]) (st_q := [.int (i32 (k))]) rfl (jl_iloadn rfl) ?_
    refine jx_ar (pc_q := 7) (st_q := [.int (i32 (5)), .int (i32 (k))]) rfl rfl rfl rfl ?_
    refine jx_icmp_eq (pc_q := 10) (tg := 28) rfl rfl rfl (Int.le_trans (by decide : (-2147483648 : Int) ≤ -2147483648) h_k.1) (Int.le_trans h_k.2 (by decide : (2147483647 : Int) ≤ 2147483647)) (by decide) (by decide) (fun h2 => ?_) (fun h2 => ?_)
    · have _q := h2
      refine jx_ar (pc_q := 29) (st_q := [.int (i32 (1))]) rfl rfl rfl rfl ?_
      refine jx_go (tg := 33) rfl rfl ?_
      refine jx_rt (v := some (.int (i32 (1)))) rfl rfl rfl rfl rfl (by first | rfl | exact jRet_b (by omega)) ?_
      exact ⟨_, rfl, rfl, by omega, by first | exact Or.inl (⟨by omega, (by unfold kVal; omega)⟩) | exact Or.inr ((by omega))⟩
    · have _q := h2
      refine jx_ld (pc_q := 11) (l_q := [(0, .int (i32 (k)))]) (st_q := [.int (i32 (k))]) rfl (jl_iloadn rfl) ?_
      refine jx_ar (pc_q := 13) (st_q := [.int (i32 (6)), .int (i32 (k))]) rfl rfl rfl rfl ?_
      refine jx_icmp_eq (pc_q := 16) (tg := 28) rfl rfl rfl (Int.le_trans (by decide : (-2147483648 : Int) ≤ -2147483648) h_k.1) (Int.le_trans h_k.2 (by decide : (2147483647 : Int) ≤ 2147483647)) (by decide) (by decide) (fun h3 => ?_) (fun h3 => ?_)
      · have _q := h3
        refine jx_ar (pc_q := 29) (st_q := [.int (i32 (1))]) rfl rfl rfl rfl ?_
        refine jx_go (tg := 33) rfl rfl ?_
        refine jx_rt (v := some (.int (i32 (1)))) rfl rfl rfl rfl rfl (by first | rfl | exact jRet_b (by omega)) ?_
        exact ⟨_, rfl, rfl, by omega, by first | exact Or.inl (⟨by omega, (by unfold kVal; omega)⟩) | exact Or.inr ((by omega))⟩
      · have _q := h3
        refine jx_ld (pc_q := 17) (l_q := [(0, .int (i32 (k)))]) (st_q := [.int (i32 (k))]) rfl (jl_iloadn rfl) ?_
        refine jx_ar (pc_q := 19) (st_q := [.int (i32 (9)), .int (i32 (k))]) rfl rfl rfl rfl ?_
        refine jx_icmp_eq (pc_q := 22) (tg := 28) rfl rfl rfl (Int.le_trans (by decide : (-2147483648 : Int) ≤ -2147483648) h_k.1) (Int.le_trans h_k.2 (by decide : (2147483647 : Int) ≤ 2147483647)) (by decide) (by decide) (fun h4 => ?_) (fun h4 => ?_)
        · have _q := h4
          refine jx_ar (pc_q := 29) (st_q := [.int (i32 (1))]) rfl rfl rfl rfl ?_
          refine jx_go (tg := 33) rfl rfl ?_
          refine jx_rt (v := some (.int (i32 (1)))) rfl rfl rfl rfl rfl (by first | rfl | exact jRet_b (by omega)) ?_
          exact ⟨_, rfl, rfl, by omega, by first | exact Or.inl (⟨by omega, (by unfold kVal; omega)⟩) | exact Or.inr ((by omega))⟩
        · have _q := h4
          refine jx_ld (pc_q := 23) (l_q := [(0, .int (i32 (k)))]) (st_q := [.int (i32 (k))]) rfl (jl_iloadn rfl) ?_
          refine jx_ar (pc_q := 25) (st_q := [.int (i32 (10)), .int (i32 (k))]) rfl rfl rfl rfl ?_
          refine jx_icmp_ne (pc_q := 28) (tg := 32) rfl rfl rfl (Int.le_trans (by decide : (-2147483648 : Int) ≤ -2147483648) h_k.1) (Int.le_trans h_k.2 (by decide : (2147483647 : Int) ≤ 2147483647)) (by decide) (by decide) (fun h5 => ?_) (fun h5 => ?_)
          · have _q := h5
            refine jx_ar (pc_q := 33) (st_q := [.int (i32 (0))]) rfl rfl rfl rfl ?_
            refine jx_rt (v := some (.int (i32 (0)))) rfl rfl rfl rfl rfl (by first | rfl | exact jRet_b (by omega)) ?_
            exact ⟨_, rfl, rfl, by omega, by first | exact Or.inl (⟨by omega, (by unfold kVal; omega)⟩) | exact Or.inr ((by omega))⟩
          · have _q := h5
            refine jx_ar (pc_q := 29) (st_q := [.int (i32 (1))]) rfl rfl rfl rfl ?_
            refine jx_go (tg := 33) rfl rfl ?_
            refine jx_rt (v := some (.int (i32 (1)))) rfl rfl rfl rfl rfl (by first | rfl | exact jRet_b (by omega)) ?_
            exact ⟨_, rfl, rfl, by omega, by first | exact Or.inl (⟨by omega, (by unfold kVal; omega)⟩) | exact Or.inr ((by omega))⟩
set_option maxRecDepth 20000 in
set_option maxHeartbeats 4000000 in
theorem c_isVariable {X : jX} {dd : Nat} {V : jH} {k : Int} (hd : 1 ≤ dd) (h_k : (-2147483648 : Int) ≤ k ∧ k ≤ 2147483647) : wk X dd 281 [.int (i32 k)] V (fun o V_q => ∃ (r : Int), V_q = V ∧ o = .inl (some (.int (i32 r))) ∧ ((0 : Int) ≤ r ∧ r ≤ 1) ∧ ((r = 1 ∧ (kVar (k))) ∨ (r = 0))) := by
  obtain ⟨d, rfl⟩ : ∃ d, dd = d + 1 := ⟨dd - 1, by omega⟩
  refine wk_of (e := jm281) rfl (Nat.le_of_ble_eq_true rfl) ?_
  show wj X d jm281 (0, [(0, .int (i32 (k)))], [], V) _
  refine jx_ld (pc_q := 1) (l_q := [(0, .int (i32 (k)))]) (st_q := [.int (i32 (k))]) rfl (jl_iloadn rfl) ?_
  refine jx_ar (pc_q := 2) (st_q := [.int (i32 (1)), .int (i32 (k))]) rfl rfl rfl rfl ?_
  refine jx_icmp_eq (pc_q := 5) (tg := 11) rfl rfl rfl (Int.le_trans (by decide : (-2147483648 : Int) ≤ -2147483648) h_k.1) (Int.le_trans h_k.2 (by decide : (2147483647 : Int) ≤ 2147483647)) (by decide) (by decide) (fun h1 => ?_) (fun h1 => ?_)
  · have _q := h1
    refine jx_ar (pc_q := 12) (st_q := [.int (i32 (1))]) rfl rfl rfl rfl ?_
    refine jx_go (tg := 16) rfl rfl ?_
    refine jx_rt (v := some (.int (i32 (1)))) rfl rfl rfl rfl rfl (by first | rfl | exact jRet_b (by omega)) ?_
    exact ⟨_, rfl, rfl, by omega, by first | exact Or.inl (⟨by omega, (by unfold kVar; omega)⟩) | exact Or.inr ((by omega))⟩
  · have _q := h1
    refine jx_ld (pc_q := 6) (l_q := [(0, .int (i32 (k)))]) (st_q := [.int (i32 (k))]) rfl (jl_iloadn rfl) ?_
    refine jx_ar (pc_q := 8) (st_q := [.int (i32 (6)), .int (i32 (k))]) rfl rfl rfl rfl ?_
    refine jx_icmp_ne (pc_q := 11) (tg := 15) rfl rfl rfl (Int.le_trans (by decide : (-2147483648 : Int) ≤ -2147483648) h_k.1) (Int.le_trans h_k.2 (by decide : (2147483647 : Int) ≤ 2147483647)) (by decide) (by decide) (fun h2 => ?_) (fun h2 => ?_)
    · have _q := h2
      refine jx_ar (pc_q := 16) (st_q := [.int (i32 (0))]) rfl rfl rfl rfl ?_
      refine jx_rt (v := some (.int (i32 (0)))) rfl rfl rfl rfl rfl (by first | rfl | exact jRet_b (by omega)) ?_
      exact ⟨_, rfl, rfl, by omega, by first | exact Or.inl (⟨by omega, (by unfold kVar; omega)⟩) | exact Or.inr ((by omega))⟩
    · have _q := h2
      refine jx_ar (pc_q := 12) (st_q := [.int (i32 (1))]) rfl rfl rfl rfl ?_
      refine jx_go (tg := 16) rfl rfl ?_
      refine jx_rt (v := some (.int (i32 (1)))) rfl rfl rfl rfl rfl (by first | rfl | exact jRet_b (by omega)) ?_
      exact ⟨_, rfl, rfl, by omega, by first | exact Or.inl (⟨by omega, (by unfold kVar; omega)⟩) | exact Or.inr ((by omega))⟩
set_option maxRecDepth 20000 in
set_option maxHeartbeats 4000000 in
theorem c_isArray {X : jX} {dd : Nat} {V : jH} {k : Int} (hd : 1 ≤ dd) (h_k : (-2147483648 : Int) ≤ k ∧ k ≤ 2147483647) : wk X dd 282 [.int (i32 k)] V (fun o V_q => ∃ (r : Int), V_q = V ∧ o = .inl (some (.int (i32 r))) ∧ ((0 : Int) ≤ r ∧ r ≤ 1) ∧ ((r = 1 ∧ (kArr (k))) ∨ (r = 0))) := by
  obtain ⟨d, rfl⟩ : ∃ d, dd = d + 1 := ⟨dd - 1, by omega⟩
  refine wk_of (e := jm282) rfl (Nat.le_of_ble_eq_true rfl) ?_
  show wj X d jm282 (0, [(0, .int (i32 (k)))], [], V) _
  refine jx_ld (pc_q := 1) (l_q := [(0, .int (i32 (k)))]) (st_q := [.int (i32 (k))]) rfl (jl_iloadn rfl) ?_
  refine jx_ar (pc_q := 2) (st_q := [.int (i32 (2)), .int (i32 (k))]) rfl rfl rfl rfl ?_
  refine jx_icmp_eq (pc_q := 5) (tg := 11) rfl rfl rfl (Int.le_trans (by decide : (-2147483648 : Int) ≤ -2147483648) h_k.1) (Int.le_trans h_k.2 (by decide : (2147483647 : Int) ≤ 2147483647)) (by decide) (by decide) (fun h1 => ?_) (fun h1 => ?_)
  · have _q := h1
    refine jx_ar (pc_q := 12) (st_q := [.int (i32 (1))]) rfl rfl rfl rfl ?_
    refine jx_go (tg := 16) rfl rfl ?_
    refine jx_rt (v := some (.int (i32 (1)))) rfl rfl rfl rfl rfl (by first | rfl | exact jRet_b (by omega)) ?_
    exact ⟨_, rfl, rfl, by omega, by first | exact Or.inl (⟨by omega, (by unfold kArr; omega)⟩) | exact Or.inr ((by omega))⟩
  · have _q := h1
    refine jx_ld (pc_q := 6) (l_q := [(0, .int (i32 (k)))]) (st_q := [.int (i32 (k))]) rfl (jl_iloadn rfl) ?_
    refine jx_ar (pc_q := 8) (st_q := [.int (i32 (7)), .int (i32 (k))]) rfl rfl rfl rfl ?_
    refine jx_icmp_ne (pc_q := 11) (tg := 15) rfl rfl rfl (Int.le_trans (by decide : (-2147483648 : Int) ≤ -2147483648) h_k.1) (Int.le_trans h_k.2 (by decide : (2147483647 : Int) ≤ 2147483647)) (by decide) (by decide) (fun h2 => ?_) (fun h2 => ?_)
    · have _q := h2
      refine jx_ar (pc_q := 16) (st_q := [.int (i32 (0))]) rfl rfl rfl rfl ?_
      refine jx_rt (v := some (.int (i32 (0)))) rfl rfl rfl rfl rfl (by first | rfl | exact jRet_b (by omega)) ?_
      exact ⟨_, rfl, rfl, by omega, by first | exact Or.inl (⟨by omega, (by unfold kArr; omega)⟩) | exact Or.inr ((by omega))⟩
    · have _q := h2
      refine jx_ar (pc_q := 12) (st_q := [.int (i32 (1))]) rfl rfl rfl rfl ?_
      refine jx_go (tg := 16) rfl rfl ?_
      refine jx_rt (v := some (.int (i32 (1)))) rfl rfl rfl rfl rfl (by first | rfl | exact jRet_b (by omega)) ?_
      exact ⟨_, rfl, rfl, by omega, by first | exact Or.inl (⟨by omega, (by unfold kArr; omega)⟩) | exact Or.inr ((by omega))⟩
set_option maxRecDepth 20000 in
set_option maxHeartbeats 4000000 in
theorem c_isChannel {X : jX} {dd : Nat} {V : jH} {k : Int} (hd : 1 ≤ dd) (h_k : (-2147483648 : Int) ≤ k ∧ k ≤ 2147483647) : wk X dd 283 [.int (i32 k)] V (fun o V_q => ∃ (r : Int), V_q = V ∧ o = .inl (some (.int (i32 r))) ∧ ((0 : Int) ≤ r ∧ r ≤ 1) ∧ ((r = 1 ∧ (kCh (k))) ∨ (r = 0))) := by
  obtain ⟨d, rfl⟩ : ∃ d, dd = d + 1 := ⟨dd - 1, by omega⟩
  refine wk_of (e := jm283) rfl (Nat.le_of_ble_eq_true rfl) ?_
  show wj X d jm283 (0, [(0, .int (i32 (k)))], [], V) _
  refine jx_ld (pc_q := 1) (l_q := [(0, .int (i32 (k)))]) (st_q := [.int (i32 (k))]) rfl (jl_iloadn rfl) ?_
  refine jx_ar (pc_q := 2) (st_q := [.int (i32 (3)), .int (i32 (k))]) rfl rfl rfl rfl ?_
  refine jx_icmp_eq (pc_q := 5) (tg := 29) rfl rfl rfl (Int.le_trans (by decide : (-2147483648 : Int) ≤ -2147483648) h_k.1) (Int.le_trans h_k.2 (by decide : (2147483647 : Int) ≤ 2147483647)) (by decide) (by decide) (fun h1 => ?_) (fun h1 => ?_)
  · have _q := h1
    refine jx_ar (pc_q := 30) (st_q := [.int (i32 (1))]) rfl rfl rfl rfl ?_
    refine jx_go (tg := 34) rfl rfl ?_
    refine jx_rt (v := some (.int (i32 (1)))) rfl rfl rfl rfl rfl (by first | rfl | exact jRet_b (by omega)) ?_
    exact ⟨_, rfl, rfl, by omega, by first | exact Or.inl (⟨by omega, (by unfold kCh; omega)⟩) | exact Or.inr ((by omega))⟩
  · have _q := h1
    refine jx_ld (pc_q := 6) (l_q := [(0, .int (i32 (k)))]) (st_q := [.int (i32 (k))]) rfl (jl_iloadn rfl) ?_
    refine jx_ar (pc_q := 8) (st_q := [.int (i32 (8)), .int (i32 (k))]) rfl rfl rfl rfl ?_
    refine jx_icmp_eq (pc_q := 11) (tg := 29) rfl rfl rfl (Int.le_trans (by decide : (-2147483648 : Int) ≤ -2147483648) h_k.1) (Int.le_trans h_k.2 (by decide : (2147483647 : Int) ≤ 2147483647)) (by decide) (by decide) (fun h2 => ?_) (fun h2 => ?_)
    · have _q := h2
      refine jx_ar (pc_q := 30) (st_q := [.int (i32 (1))]) rfl rfl rfl rfl ?_
      refine jx_go (tg := 34) rfl rfl ?_
      refine jx_rt (v := some (.int (i32 (1)))) rfl rfl rfl rfl rfl (by first | rfl | exact jRet_b (by omega)) ?_
      exact ⟨_, rfl, rfl, by omega, by first | exact Or.inl (⟨by omega, (by unfold kCh; omega)⟩) | exact Or.inr ((by omega))⟩
    · have _q := h2
      refine jx_ld (pc_q := 12) (l_q := [(0, .int (i32 (k)))]) (st_q := [.int (i32 (k))]) rfl (jl_iloadn rfl) ?_
      refine jx_ar (pc_q := 14) (st_q := [.int (i32 (11)), .int (i32 (k))]) rfl rfl rfl rfl ?_
      refine jx_icmp_eq (pc_q := 17) (tg := 29) rfl rfl rfl (Int.le_trans (by decide : (-2147483648 : Int) ≤ -2147483648) h_k.1) (Int.le_trans h_k.2 (by decide : (2147483647 : Int) ≤ 2147483647)) (by decide) (by decide) (fun h3 => ?_) (fun h3 => ?_)
      · have _q := h3
        refine jx_ar (pc_q := 30) (st_q := [.int (i32 (1))]) rfl rfl rfl rfl ?_
        refine jx_go (tg := 34) rfl rfl ?_
        refine jx_rt (v := some (.int (i32 (1)))) rfl rfl rfl rfl rfl (by first | rfl | exact jRet_b (by omega)) ?_
        exact ⟨_, rfl, rfl, by omega, by first | exact Or.inl (⟨by omega, (by unfold kCh; omega)⟩) | exact Or.inr ((by omega))⟩
      · have _q := h3
        refine jx_ld (pc_q := 18) (l_q := [(0, .int (i32 (k)))]) (st_q := [.int (i32 (k))]) rfl (jl_iloadn rfl) ?_
        refine jx_ar (pc_q := 20) (st_q := [.int (i32 (12)), .int (i32 (k))]) rfl rfl rfl rfl ?_
        refine jx_icmp_eq (pc_q := 23) (tg := 29) rfl rfl rfl (Int.le_trans (by decide : (-2147483648 : Int) ≤ -2147483648) h_k.1) (Int.le_trans h_k.2 (by decide : (2147483647 : Int) ≤ 2147483647)) (by decide) (by decide) (fun h4 => ?_) (fun h4 => ?_)
        · have _q := h4
          refine jx_ar (pc_q := 30) (st_q := [.int (i32 (1))]) rfl rfl rfl rfl ?_
          refine jx_go (tg := 34) rfl rfl ?_
          refine jx_rt (v := some (.int (i32 (1)))) rfl rfl rfl rfl rfl (by first | rfl | exact jRet_b (by omega)) ?_
          exact ⟨_, rfl, rfl, by omega, by first | exact Or.inl (⟨by omega, (by unfold kCh; omega)⟩) | exact Or.inr ((by omega))⟩
        · have _q := h4
          refine jx_ld (pc_q := 24) (l_q := [(0, .int (i32 (k)))]) (st_q := [.int (i32 (k))]) rfl (jl_iloadn rfl) ?_
          refine jx_ar (pc_q := 26) (st_q := [.int (i32 (13)), .int (i32 (k))]) rfl rfl rfl rfl ?_
          refine jx_icmp_ne (pc_q := 29) (tg := 33) rfl rfl rfl (Int.le_trans (by decide : (-2147483648 : Int) ≤ -2147483648) h_k.1) (Int.le_trans h_k.2 (by decide : (2147483647 : Int) ≤ 2147483647)) (by decide) (by decide) (fun h5 => ?_) (fun h5 => ?_)
          · have _q := h5
            refine jx_ar (pc_q := 34) (st_q := [.int (i32 (0))]) rfl rfl rfl rfl ?_
            refine jx_rt (v := some (.int (i32 (0)))) rfl rfl rfl rfl rfl (by first | rfl | exact jRet_b (by omega)) ?_
            exact ⟨_, rfl, rfl, by omega, by first | exact Or.inl (⟨by omega, (by unfold kCh; omega)⟩) | exact Or.inr ((by omega))⟩
          · have _q := h5
            refine jx_ar (pc_q := 30) (st_q := [.int (i32 (1))]) rfl rfl rfl rfl ?_
            refine jx_go (tg := 34) rfl rfl ?_
            refine jx_rt (v := some (.int (i32 (1)))) rfl rfl rfl rfl rfl (by first | rfl | exact jRet_b (by omega)) ?_
            exact ⟨_, rfl, rfl, by omega, by first | exact Or.inl (⟨by omega, (by unfold kCh; omega)⟩) | exact Or.inr ((by omega))⟩
set_option maxRecDepth 20000 in
set_option maxHeartbeats 4000000 in
theorem c_operationAt {X : jX} {dd : Nat} {c0 c1 : jC} {G : Nat → Int} {A : Nat → Nat → Int} {T : jH} {tk tn : Int} (hd : 1 ≤ dd) (hW : Wk G A) (e_tk : G 11 = tk) (e_tn : G 13 = tn) : wk X dd 285 [.ref 66] (rV c0 c1 G A T) (fun o V_q => ∃ (r : Int), V_q = rV c0 c1 G A T ∧ o = .inl (some (.int (i32 r))) ∧ ((-2147483648 : Int) ≤ r ∧ r ≤ 2147483647) ∧ ((r = 0) ∨ ((tz tk = 1)))) := by
  obtain ⟨d, rfl⟩ : ∃ d, dd = d + 1 := ⟨dd - 1, by omega⟩
  refine wk_of (e := jm285) rfl (Nat.le_of_ble_eq_true rfl) ?_
  show wj X d jm285 (0, [(0, .ref 66)], [], rV c0 c1 G A T) _
  have z_tk := tz_f tk
  have b_tk : (0 : Int) ≤ tk ∧ tk ≤ 5 := e_tk ▸ hW.1 11
  have b_tn : (-2147483648 : Int) ≤ tn ∧ tn ≤ 2147483647 := e_tn ▸ hW.1 13
  refine jx_ld (pc_q := 1) (l_q := [(0, .ref 66)]) (st_q := [.ref 66]) rfl (jl_aloadn rfl) ?_
  have z1 := tz_f (tk)
  refine jr_get (pc_q := 4) (i := 11) (v := .int (i32 (tk))) rfl rfl (by decide) (rFv_eq (by decide) (show G 11 = tk from (e_tk))) rfl ?_
  refine jx_ar (pc_q := 5) (st_q := [.int (i32 (2)), .int (i32 (tk))]) rfl rfl rfl rfl ?_
  refine jx_icmp_ne (pc_q := 8) (tg := 35) rfl rfl rfl (Int.le_trans (by decide : (-2147483648 : Int) ≤ 0) b_tk.1) (Int.le_trans b_tk.2 (by decide : (5 : Int) ≤ 2147483647)) (by decide) (by decide) (fun h2 => ?_) (fun h2 => ?_)
  · have _q := h2
    refine jx_ld (pc_q := 36) (l_q := [(0, .ref 66)]) (st_q := [.ref 66]) rfl (jl_aloadn rfl) ?_
    have z3 := tz_f (tk)
    refine jr_get (pc_q := 39) (i := 11) (v := .int (i32 (tk))) rfl rfl (by decide) (rFv_eq (by decide) (show G 11 = tk from (e_tk))) rfl ?_
    refine jx_ar (pc_q := 40) (st_q := [.int (i32 (4)), .int (i32 (tk))]) rfl rfl rfl rfl ?_
    refine jx_icmp_eq (pc_q := 43) (tg := 45) rfl rfl rfl (Int.le_trans (by decide : (-2147483648 : Int) ≤ 0) b_tk.1) (Int.le_trans b_tk.2 (by decide : (5 : Int) ≤ 2147483647)) (by decide) (by decide) (fun h4 => ?_) (fun h4 => ?_)
    · have _q := h4
      refine jx_ld (pc_q := 46) (l_q := [(0, .ref 66)]) (st_q := [.ref 66]) rfl (jl_aloadn rfl) ?_
      refine jr_get (pc_q := 49) (i := 13) (v := .int (i32 (tn))) rfl rfl (by decide) (rFv_eq (by decide) (show G 13 = tn from (e_tn))) rfl ?_
      refine jx_ar (pc_q := 51) (st_q := [.int (i32 (43)), .int (i32 (tn))]) rfl rfl rfl rfl ?_
      refine jx_icmp_eq (pc_q := 54) (tg := 117) rfl rfl rfl (Int.le_trans (by decide : (-2147483648 : Int) ≤ -2147483648) b_tn.1) (Int.le_trans b_tn.2 (by decide : (2147483647 : Int) ≤ 2147483647)) (by decide) (by decide) (fun h5 => ?_) (fun h5 => ?_)
      · have _q := h5
        refine jx_ar (pc_q := 118) (st_q := [.int (i32 (1))]) rfl rfl rfl rfl ?_
        refine jx_go (tg := 122) rfl rfl ?_
        refine jx_ld (pc_q := 123) (l_q := jSto1 [(0, .ref 66)] 1 (.int (i32 (1)))) (st_q := []) rfl rfl ?_
        obtain ⟨L6, eL6⟩ : ∃ q, q = jSto1 [(0, .ref 66)] 1 (.int (i32 (1))) := ⟨_, rfl⟩
        rw [← eL6]
        have gL6_0 : jGet L6 0 = some (.ref 66) := eL6 ▸ jg_ne (by decide) (rfl : jGet [(0, .ref 66)] 0 = some (.ref 66)) rfl
        have gL6_1 : jGet L6 1 = some (.int (i32 (1))) := eL6 ▸ jg_eq
        refine jx_ld (pc_q := 124) (l_q := L6) (st_q := [.int (i32 (1))]) rfl (jl_iloadn gL6_1) ?_
        refine jx_if_ne (pc_q := 127) (tg := 137) rfl rfl rfl (by decide) (by decide) (fun h7 => ?_) (fun h7 => ?_)
        · have _q := h7
          refine jx_ld (pc_q := 138) (l_q := L6) (st_q := [.ref 66]) rfl (jl_aloadn gL6_0) ?_
          refine jr_get (pc_q := 141) (i := 13) (v := .int (i32 (tn))) rfl rfl (by decide) (rFv_eq (by decide) (show G 13 = tn from (e_tn))) rfl ?_
          refine jx_go (tg := 145) rfl rfl ?_
          refine jx_rt (v := some (.int (i32 (tn)))) rfl rfl rfl rfl rfl rfl ?_
          exact ⟨_, rfl, rfl, by omega, by first | exact Or.inl (by omega) | exact Or.inr ((by omega))⟩
        · have _q := h7
          exact absurd h7 (by omega)
      · have _q := h5
        refine jx_ld (pc_q := 55) (l_q := [(0, .ref 66)]) (st_q := [.ref 66]) rfl (jl_aloadn rfl) ?_
        refine jr_get (pc_q := 58) (i := 13) (v := .int (i32 (tn))) rfl rfl (by decide) (rFv_eq (by decide) (show G 13 = tn from (e_tn))) rfl ?_
        refine jx_ar (pc_q := 60) (st_q := [.int (i32 (45)), .int (i32 (tn))]) rfl rfl rfl rfl ?_
        refine jx_icmp_eq (pc_q := 63) (tg := 117) rfl rfl rfl (Int.le_trans (by decide : (-2147483648 : Int) ≤ -2147483648) b_tn.1) (Int.le_trans b_tn.2 (by decide : (2147483647 : Int) ≤ 2147483647)) (by decide) (by decide) (fun h8 => ?_) (fun h8 => ?_)
        · have _q := h8
          refine jx_ar (pc_q := 118) (st_q := [.int (i32 (1))]) rfl rfl rfl rfl ?_
          refine jx_go (tg := 122) rfl rfl ?_
          refine jx_ld (pc_q := 123) (l_q := jSto1 [(0, .ref 66)] 1 (.int (i32 (1)))) (st_q := []) rfl rfl ?_
          obtain ⟨L9, eL9⟩ : ∃ q, q = jSto1 [(0, .ref 66)] 1 (.int (i32 (1))) := ⟨_, rfl⟩
          rw [← eL9]
          have gL9_0 : jGet L9 0 = some (.ref 66) := eL9 ▸ jg_ne (by decide) (rfl : jGet [(0, .ref 66)] 0 = some (.ref 66)) rfl
          have gL9_1 : jGet L9 1 = some (.int (i32 (1))) := eL9 ▸ jg_eq
          refine jx_ld (pc_q := 124) (l_q := L9) (st_q := [.int (i32 (1))]) rfl (jl_iloadn gL9_1) ?_
          refine jx_if_ne (pc_q := 127) (tg := 137) rfl rfl rfl (by decide) (by decide) (fun h10 => ?_) (fun h10 => ?_)
          · have _q := h10
            refine jx_ld (pc_q := 138) (l_q := L9) (st_q := [.ref 66]) rfl (jl_aloadn gL9_0) ?_
            refine jr_get (pc_q := 141) (i := 13) (v := .int (i32 (tn))) rfl rfl (by decide) (rFv_eq (by decide) (show G 13 = tn from (e_tn))) rfl ?_
            refine jx_go (tg := 145) rfl rfl ?_
            refine jx_rt (v := some (.int (i32 (tn)))) rfl rfl rfl rfl rfl rfl ?_
            exact ⟨_, rfl, rfl, by omega, by first | exact Or.inl (by omega) | exact Or.inr ((by omega))⟩
          · have _q := h10
            exact absurd h10 (by omega)
        · have _q := h8
          refine jx_ld (pc_q := 64) (l_q := [(0, .ref 66)]) (st_q := [.ref 66]) rfl (jl_aloadn rfl) ?_
          refine jr_get (pc_q := 67) (i := 13) (v := .int (i32 (tn))) rfl rfl (by decide) (rFv_eq (by decide) (show G 13 = tn from (e_tn))) rfl ?_
          refine jx_ar (pc_q := 69) (st_q := [.int (i32 (42)), .int (i32 (tn))]) rfl rfl rfl rfl ?_
          refine jx_icmp_eq (pc_q := 72) (tg := 117) rfl rfl rfl (Int.le_trans (by decide : (-2147483648 : Int) ≤ -2147483648) b_tn.1) (Int.le_trans b_tn.2 (by decide : (2147483647 : Int) ≤ 2147483647)) (by decide) (by decide) (fun h11 => ?_) (fun h11 => ?_)
          · have _q := h11
            refine jx_ar (pc_q := 118) (st_q := [.int (i32 (1))]) rfl rfl rfl rfl ?_
            refine jx_go (tg := 122) rfl rfl ?_
            refine jx_ld (pc_q := 123) (l_q := jSto1 [(0, .ref 66)] 1 (.int (i32 (1)))) (st_q := []) rfl rfl ?_
            obtain ⟨L12, eL12⟩ : ∃ q, q = jSto1 [(0, .ref 66)] 1 (.int (i32 (1))) := ⟨_, rfl⟩
            rw [← eL12]
            have gL12_0 : jGet L12 0 = some (.ref 66) := eL12 ▸ jg_ne (by decide) (rfl : jGet [(0, .ref 66)] 0 = some (.ref 66)) rfl
            have gL12_1 : jGet L12 1 = some (.int (i32 (1))) := eL12 ▸ jg_eq
            refine jx_ld (pc_q := 124) (l_q := L12) (st_q := [.int (i32 (1))]) rfl (jl_iloadn gL12_1) ?_
            refine jx_if_ne (pc_q := 127) (tg := 137) rfl rfl rfl (by decide) (by decide) (fun h13 => ?_) (fun h13 => ?_)
            · have _q := h13
              refine jx_ld (pc_q := 138) (l_q := L12) (st_q := [.ref 66]) rfl (jl_aloadn gL12_0) ?_
              refine jr_get (pc_q := 141) (i := 13) (v := .int (i32 (tn))) rfl rfl (by decide) (rFv_eq (by decide) (show G 13 = tn from (e_tn))) rfl ?_
              refine jx_go (tg := 145) rfl rfl ?_
              refine jx_rt (v := some (.int (i32 (tn)))) rfl rfl rfl rfl rfl rfl ?_
              exact ⟨_, rfl, rfl, by omega, by first | exact Or.inl (by omega) | exact Or.inr ((by omega))⟩
            · have _q := h13
              exact absurd h13 (by omega)
          · have _q := h11
            refine jx_ld (pc_q := 73) (l_q := [(0, .ref 66)]) (st_q := [.ref 66]) rfl (jl_aloadn rfl) ?_
            refine jr_get (pc_q := 76) (i := 13) (v := .int (i32 (tn))) rfl rfl (by decide) (rFv_eq (by decide) (show G 13 = tn from (e_tn))) rfl ?_
            refine jx_ar (pc_q := 78) (st_q := [.int (i32 (47)), .int (i32 (tn))]) rfl rfl rfl rfl ?_
            refine jx_icmp_eq (pc_q := 81) (tg := 117) rfl rfl rfl (Int.le_trans (by decide : (-2147483648 : Int) ≤ -2147483648) b_tn.1) (Int.le_trans b_tn.2 (by decide : (2147483647 : Int) ≤ 2147483647)) (by decide) (by decide) (fun h14 => ?_) (fun h14 => ?_)
            · have _q := h14
              refine jx_ar (pc_q := 118) (st_q := [.int (i32 (1))]) rfl rfl rfl rfl ?_
              refine jx_go (tg := 122) rfl rfl ?_
              refine jx_ld (pc_q := 123) (l_q := jSto1 [(0, .ref 66)] 1 (.int (i32 (1)))) (st_q := []) rfl rfl ?_
              obtain ⟨L15, eL15⟩ : ∃ q, q = jSto1 [(0, .ref 66)] 1 (.int (i32 (1))) := ⟨_, rfl⟩
              rw [← eL15]
              have gL15_0 : jGet L15 0 = some (.ref 66) := eL15 ▸ jg_ne (by decide) (rfl : jGet [(0, .ref 66)] 0 = some (.ref 66)) rfl
              have gL15_1 : jGet L15 1 = some (.int (i32 (1))) := eL15 ▸ jg_eq
              refine jx_ld (pc_q := 124) (l_q := L15) (st_q := [.int (i32 (1))]) rfl (jl_iloadn gL15_1) ?_
              refine jx_if_ne (pc_q := 127) (tg := 137) rfl rfl rfl (by decide) (by decide) (fun h16 => ?_) (fun h16 => ?_)
              · have _q := h16
                refine jx_ld (pc_q := 138) (l_q := L15) (st_q := [.ref 66]) rfl (jl_aloadn gL15_0) ?_
                refine jr_get (pc_q := 141) (i := 13) (v := .int (i32 (tn))) rfl rfl (by decide) (rFv_eq (by decide) (show G 13 = tn from (e_tn))) rfl ?_
                refine jx_go (tg := 145) rfl rfl ?_
                refine jx_rt (v := some (.int (i32 (tn)))) rfl rfl rfl rfl rfl rfl ?_
                exact ⟨_, rfl, rfl, by omega, by first | exact Or.inl (by omega) | exact Or.inr ((by omega))⟩
              · have _q := h16
                exact absurd h16 (by omega)
            · have _q := h14
              refine jx_ld (pc_q := 82) (l_q := [(0, .ref 66)]) (st_q := [.ref 66]) rfl (jl_aloadn rfl) ?_
              refine jr_get (pc_q := 85) (i := 13) (v := .int (i32 (tn))) rfl rfl (by decide) (rFv_eq (by decide) (show G 13 = tn from (e_tn))) rfl ?_
              refine jx_ar (pc_q := 87) (st_q := [.int (i32 (92)), .int (i32 (tn))]) rfl rfl rfl rfl ?_
              refine jx_icmp_eq (pc_q := 90) (tg := 117) rfl rfl rfl (Int.le_trans (by decide : (-2147483648 : Int) ≤ -2147483648) b_tn.1) (Int.le_trans b_tn.2 (by decide : (2147483647 : Int) ≤ 2147483647)) (by decide) (by decide) (fun h17 => ?_) (fun h17 => ?_)
              · have _q := h17
                refine jx_ar (pc_q := 118) (st_q := [.int (i32 (1))]) rfl rfl rfl rfl ?_
                refine jx_go (tg := 122) rfl rfl ?_
                refine jx_ld (pc_q := 123) (l_q := jSto1 [(0, .ref 66)] 1 (.int (i32 (1)))) (st_q := []) rfl rfl ?_
                obtain ⟨L18, eL18⟩ : ∃ q, q = jSto1 [(0, .ref 66)] 1 (.int (i32 (1))) := ⟨_, rfl⟩
                rw [← eL18]
                have gL18_0 : jGet L18 0 = some (.ref 66) := eL18 ▸ jg_ne (by decide) (rfl : jGet [(0, .ref 66)] 0 = some (.ref 66)) rfl
                have gL18_1 : jGet L18 1 = some (.int (i32 (1))) := eL18 ▸ jg_eq
                refine jx_ld (pc_q := 124) (l_q := L18) (st_q := [.int (i32 (1))]) rfl (jl_iloadn gL18_1) ?_
                refine jx_if_ne (pc_q := 127) (tg := 137) rfl rfl rfl (by decide) (by decide) (fun h19 => ?_) (fun h19 => ?_)
                · have _q := h19
                  refine jx_ld (pc_q := 138) (l_q := L18) (st_q := [.ref 66]) rfl (jl_aloadn gL18_0) ?_
                  refine jr_get (pc_q := 141) (i := 13) (v := .int (i32 (tn))) rfl rfl (by decide) (rFv_eq (by decide) (show G 13 = tn from (e_tn))) rfl ?_
                  refine jx_go (tg := 145) rfl rfl ?_
                  refine jx_rt (v := some (.int (i32 (tn)))) rfl rfl rfl rfl rfl rfl ?_
                  exact ⟨_, rfl, rfl, by omega, by first | exact Or.inl (by omega) | exact Or.inr ((by omega))⟩
                · have _q := h19
                  exact absurd h19 (by omega)
              · have _q := h17
                refine jx_ld (pc_q := 91) (l_q := [(0, .ref 66)]) (st_q := [.ref 66]) rfl (jl_aloadn rfl) ?_
                refine jr_get (pc_q := 94) (i := 13) (v := .int (i32 (tn))) rfl rfl (by decide) (rFv_eq (by decide) (show G 13 = tn from (e_tn))) rfl ?_
                refine jx_ar (pc_q := 96) (st_q := [.int (i32 (61)), .int (i32 (tn))]) rfl rfl rfl rfl ?_
                refine jx_icmp_eq (pc_q := 99) (tg := 117) rfl rfl rfl (Int.le_trans (by decide : (-2147483648 : Int) ≤ -2147483648) b_tn.1) (Int.le_trans b_tn.2 (by decide : (2147483647 : Int) ≤ 2147483647)) (by decide) (by decide) (fun h20 => ?_) (fun h20 => ?_)
                · have _q := h20
                  refine jx_ar (pc_q := 118) (st_q := [.int (i32 (1))]) rfl rfl rfl rfl ?_
                  refine jx_go (tg := 122) rfl rfl ?_
                  refine jx_ld (pc_q := 123) (l_q := jSto1 [(0, .ref 66)] 1 (.int (i32 (1)))) (st_q := []) rfl rfl ?_
                  obtain ⟨L21, eL21⟩ : ∃ q, q = jSto1 [(0, .ref 66)] 1 (.int (i32 (1))) := ⟨_, rfl⟩
                  rw [← eL21]
                  have gL21_0 : jGet L21 0 = some (.ref 66) := eL21 ▸ jg_ne (by decide) (rfl : jGet [(0, .ref 66)] 0 = some (.ref 66)) rfl
                  have gL21_1 : jGet L21 1 = some (.int (i32 (1))) := eL21 ▸ jg_eq
                  refine jx_ld (pc_q := 124) (l_q := L21) (st_q := [.int (i32 (1))]) rfl (jl_iloadn gL21_1) ?_
                  refine jx_if_ne (pc_q := 127) (tg := 137) rfl rfl rfl (by decide) (by decide) (fun h22 => ?_) (fun h22 => ?_)
                  · have _q := h22
                    refine jx_ld (pc_q := 138) (l_q := L21) (st_q := [.ref 66]) rfl (jl_aloadn gL21_0) ?_
                    refine jr_get (pc_q := 141) (i := 13) (v := .int (i32 (tn))) rfl rfl (by decide) (rFv_eq (by decide) (show G 13 = tn from (e_tn))) rfl ?_
                    refine jx_go (tg := 145) rfl rfl ?_
                    refine jx_rt (v := some (.int (i32 (tn)))) rfl rfl rfl rfl rfl rfl ?_
                    exact ⟨_, rfl, rfl, by omega, by first | exact Or.inl (by omega) | exact Or.inr ((by omega))⟩
                  · have _q := h22
                    exact absurd h22 (by omega)
                · have _q := h20
                  refine jx_ld (pc_q := 100) (l_q := [(0, .ref 66)]) (st_q := [.ref 66]) rfl (jl_aloadn rfl) ?_
                  refine jr_get (pc_q := 103) (i := 13) (v := .int (i32 (tn))) rfl rfl (by decide) (rFv_eq (by decide) (show G 13 = tn from (e_tn))) rfl ?_
                  refine jx_ar (pc_q := 105) (st_q := [.int (i32 (60)), .int (i32 (tn))]) rfl rfl rfl rfl ?_
                  refine jx_icmp_eq (pc_q := 108) (tg := 117) rfl rfl rfl (Int.le_trans (by decide : (-2147483648 : Int) ≤ -2147483648) b_tn.1) (Int.le_trans b_tn.2 (by decide : (2147483647 : Int) ≤ 2147483647)) (by decide) (by decide) (fun h23 => ?_) (fun h23 => ?_)
                  · have _q := h23
                    refine jx_ar (pc_q := 118) (st_q := [.int (i32 (1))]) rfl rfl rfl rfl ?_
                    refine jx_go (tg := 122) rfl rfl ?_
                    refine jx_ld (pc_q := 123) (l_q := jSto1 [(0, .ref 66)] 1 (.int (i32 (1)))) (st_q := []) rfl rfl ?_
                    obtain ⟨L24, eL24⟩ : ∃ q, q = jSto1 [(0, .ref 66)] 1 (.int (i32 (1))) := ⟨_, rfl⟩
                    rw [← eL24]
                    have gL24_0 : jGet L24 0 = some (.ref 66) := eL24 ▸ jg_ne (by decide) (rfl : jGet [(0, .ref 66)] 0 = some (.ref 66)) rfl
                    have gL24_1 : jGet L24 1 = some (.int (i32 (1))) := eL24 ▸ jg_eq
                    refine jx_ld (pc_q := 124) (l_q := L24) (st_q := [.int (i32 (1))]) rfl (jl_iloadn gL24_1) ?_
                    refine jx_if_ne (pc_q := 127) (tg := 137) rfl rfl rfl (by decide) (by decide) (fun h25 => ?_) (fun h25 => ?_)
                    · have _q := h25
                      refine jx_ld (pc_q := 138) (l_q := L24) (st_q := [.ref 66]) rfl (jl_aloadn gL24_0) ?_
                      refine jr_get (pc_q := 141) (i := 13) (v := .int (i32 (tn))) rfl rfl (by decide) (rFv_eq (by decide) (show G 13 = tn from (e_tn))) rfl ?_
                      refine jx_go (tg := 145) rfl rfl ?_
                      refine jx_rt (v := some (.int (i32 (tn)))) rfl rfl rfl rfl rfl rfl ?_
                      exact ⟨_, rfl, rfl, by omega, by first | exact Or.inl (by omega) | exact Or.inr ((by omega))⟩
                    · have _q := h25
                      exact absurd h25 (by omega)
                  · have _q := h23
                    refine jx_ld (pc_q := 109) (l_q := [(0, .ref 66)]) (st_q := [.ref 66]) rfl (jl_aloadn rfl) ?_
                    refine jr_get (pc_q := 112) (i := 13) (v := .int (i32 (tn))) rfl rfl (by decide) (rFv_eq (by decide) (show G 13 = tn from (e_tn))) rfl ?_
                    refine jx_ar (pc_q := 114) (st_q := [.int (i32 (62)), .int (i32 (tn))]) rfl rfl rfl rfl ?_
                    refine jx_icmp_ne (pc_q := 117) (tg := 121) rfl rfl rfl (Int.le_trans (by decide : (-2147483648 : Int) ≤ -2147483648) b_tn.1) (Int.le_trans b_tn.2 (by decide : (2147483647 : Int) ≤ 2147483647)) (by decide) (by decide) (fun h26 => ?_) (fun h26 => ?_)
                    · have _q := h26
                      refine jx_ar (pc_q := 122) (st_q := [.int (i32 (0))]) rfl rfl rfl rfl ?_
                      refine jx_ld (pc_q := 123) (l_q := jSto1 [(0, .ref 66)] 1 (.int (i32 (0)))) (st_q := []) rfl rfl ?_
                      obtain ⟨L27, eL27⟩ : ∃ q, q = jSto1 [(0, .ref 66)] 1 (.int (i32 (0))) := ⟨_, rfl⟩
                      rw [← eL27]
                      have gL27_0 : jGet L27 0 = some (.ref 66) := eL27 ▸ jg_ne (by decide) (rfl : jGet [(0, .ref 66)] 0 = some (.ref 66)) rfl
                      have gL27_1 : jGet L27 1 = some (.int (i32 (0))) := eL27 ▸ jg_eq
                      refine jx_ld (pc_q := 124) (l_q := L27) (st_q := [.int (i32 (0))]) rfl (jl_iloadn gL27_1) ?_
                      refine jx_if_ne (pc_q := 127) (tg := 137) rfl rfl rfl (by decide) (by decide) (fun h28 => ?_) (fun h28 => ?_)
                      · have _q := h28
                        exact absurd h28 (by omega)
                      · have _q := h28
                        refine jx_ld (pc_q := 128) (l_q := L27) (st_q := [.ref 66]) rfl (jl_aloadn gL27_0) ?_
                        refine jr_get (pc_q := 131) (i := 13) (v := .int (i32 (tn))) rfl rfl (by decide) (rFv_eq (by decide) (show G 13 = tn from (e_tn))) rfl ?_
                        refine jx_ar (pc_q := 134) (st_q := [.int (i32 (300)), .int (i32 (tn))]) rfl rfl rfl rfl ?_
                        refine jx_icmp_le (pc_q := 137) (tg := 144) rfl rfl rfl (Int.le_trans (by decide : (-2147483648 : Int) ≤ -2147483648) b_tn.1) (Int.le_trans b_tn.2 (by decide : (2147483647 : Int) ≤ 2147483647)) (by decide) (by decide) (fun h29 => ?_) (fun h29 => ?_)
                        · have _q := h29
                          refine jx_ar (pc_q := 145) (st_q := [.int (i32 (0))]) rfl rfl rfl rfl ?_
                          refine jx_rt (v := some (.int (i32 (0)))) rfl rfl rfl rfl rfl rfl ?_
                          exact ⟨_, rfl, rfl, by omega, by first | exact Or.inl (by omega) | exact Or.inr ((by omega))⟩
                        · have _q := h29
                          refine jx_ld (pc_q := 138) (l_q := L27) (st_q := [.ref 66]) rfl (jl_aloadn gL27_0) ?_
                          refine jr_get (pc_q := 141) (i := 13) (v := .int (i32 (tn))) rfl rfl (by decide) (rFv_eq (by decide) (show G 13 = tn from (e_tn))) rfl ?_
                          refine jx_go (tg := 145) rfl rfl ?_
                          refine jx_rt (v := some (.int (i32 (tn)))) rfl rfl rfl rfl rfl rfl ?_
                          exact ⟨_, rfl, rfl, by omega, by first | exact Or.inl (by omega) | exact Or.inr ((by omega))⟩
                    · have _q := h26
                      refine jx_ar (pc_q := 118) (st_q := [.int (i32 (1))]) rfl rfl rfl rfl ?_
                      refine jx_go (tg := 122) rfl rfl ?_
                      refine jx_ld (pc_q := 123) (l_q := jSto1 [(0, .ref 66)] 1 (.int (i32 (1)))) (st_q := []) rfl rfl ?_
                      obtain ⟨L30, eL30⟩ : ∃ q, q = jSto1 [(0, .ref 66)] 1 (.int (i32 (1))) := ⟨_, rfl⟩
                      rw [← eL30]
                      have gL30_0 : jGet L30 0 = some (.ref 66) := eL30 ▸ jg_ne (by decide) (rfl : jGet [(0, .ref 66)] 0 = some (.ref 66)) rfl
                      have gL30_1 : jGet L30 1 = some (.int (i32 (1))) := eL30 ▸ jg_eq
                      refine jx_ld (pc_q := 124) (l_q := L30) (st_q := [.int (i32 (1))]) rfl (jl_iloadn gL30_1) ?_
                      refine jx_if_ne (pc_q := 127) (tg := 137) rfl rfl rfl (by decide) (by decide) (fun h31 => ?_) (fun h31 => ?_)
                      · have _q := h31
                        refine jx_ld (pc_q := 138) (l_q := L30) (st_q := [.ref 66]) rfl (jl_aloadn gL30_0) ?_
                        refine jr_get (pc_q := 141) (i := 13) (v := .int (i32 (tn))) rfl rfl (by decide) (rFv_eq (by decide) (show G 13 = tn from (e_tn))) rfl ?_
                        refine jx_go (tg := 145) rfl rfl ?_
                        refine jx_rt (v := some (.int (i32 (tn)))) rfl rfl rfl rfl rfl rfl ?_
                        exact ⟨_, rfl, rfl, by omega, by first | exact Or.inl (by omega) | exact Or.inr ((by omega))⟩
                      · have _q := h31
                        exact absurd h31 (by omega)
    · have _q := h4
      refine jx_ar (pc_q := 44) (st_q := [.int (i32 (0))]) rfl rfl rfl rfl ?_
      refine jx_rt (v := some (.int (i32 (0)))) rfl rfl rfl rfl rfl rfl ?_
      exact ⟨_, rfl, rfl, by omega, by first | exact Or.inl (by omega) | exact Or.inr ((by omega))⟩
  · have _q := h2
    refine jx_ld (pc_q := 9) (l_q := [(0, .ref 66)]) (st_q := [.ref 66]) rfl (jl_aloadn rfl) ?_
    refine jr_get (pc_q := 12) (i := 13) (v := .int (i32 (tn))) rfl rfl (by decide) (rFv_eq (by decide) (show G 13 = tn from (e_tn))) rfl ?_
    refine jx_ar (pc_q := 14) (st_q := [.int (i32 (17)), .int (i32 (tn))]) rfl rfl rfl rfl ?_
    refine jx_icmp_eq (pc_q := 17) (tg := 26) rfl rfl rfl (Int.le_trans (by decide : (-2147483648 : Int) ≤ -2147483648) b_tn.1) (Int.le_trans b_tn.2 (by decide : (2147483647 : Int) ≤ 2147483647)) (by decide) (by decide) (fun h32 => ?_) (fun h32 => ?_)
    · have _q := h32
      refine jx_ld (pc_q := 27) (l_q := [(0, .ref 66)]) (st_q := [.ref 66]) rfl (jl_aloadn rfl) ?_
      refine jr_get (pc_q := 30) (i := 13) (v := .int (i32 (tn))) rfl rfl (by decide) (rFv_eq (by decide) (show G 13 = tn from (e_tn))) rfl ?_
      refine jx_go (tg := 34) rfl rfl ?_
      refine jx_rt (v := some (.int (i32 (tn)))) rfl rfl rfl rfl rfl rfl ?_
      exact ⟨_, rfl, rfl, by omega, by first | exact Or.inl (by omega) | exact Or.inr ((by omega))⟩
    · have _q := h32
      refine jx_ld (pc_q := 18) (l_q := [(0, .ref 66)]) (st_q := [.ref 66]) rfl (jl_aloadn rfl) ?_
      refine jr_get (pc_q := 21) (i := 13) (v := .int (i32 (tn))) rfl rfl (by decide) (rFv_eq (by decide) (show G 13 = tn from (e_tn))) rfl ?_
      refine jx_ar (pc_q := 23) (st_q := [.int (i32 (18)), .int (i32 (tn))]) rfl rfl rfl rfl ?_
      refine jx_icmp_ne (pc_q := 26) (tg := 33) rfl rfl rfl (Int.le_trans (by decide : (-2147483648 : Int) ≤ -2147483648) b_tn.1) (Int.le_trans b_tn.2 (by decide : (2147483647 : Int) ≤ 2147483647)) (by decide) (by decide) (fun h33 => ?_) (fun h33 => ?_)
      · have _q := h33
        refine jx_ar (pc_q := 34) (st_q := [.int (i32 (0))]) rfl rfl rfl rfl ?_
        refine jx_rt (v := some (.int (i32 (0)))) rfl rfl rfl rfl rfl rfl ?_
        exact ⟨_, rfl, rfl, by omega, by first | exact Or.inl (by omega) | exact Or.inr ((by omega))⟩
      · have _q := h33
        refine jx_ld (pc_q := 27) (l_q := [(0, .ref 66)]) (st_q := [.ref 66]) rfl (jl_aloadn rfl) ?_
        refine jr_get (pc_q := 30) (i := 13) (v := .int (i32 (tn))) rfl rfl (by decide) (rFv_eq (by decide) (show G 13 = tn from (e_tn))) rfl ?_
        refine jx_go (tg := 34) rfl rfl ?_
        refine jx_rt (v := some (.int (i32 (tn)))) rfl rfl rfl rfl rfl rfl ?_
        exact ⟨_, rfl, rfl, by omega, by first | exact Or.inl (by omega) | exact Or.inr ((by omega))⟩
