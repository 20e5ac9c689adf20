set_option maxRecDepth 20000 in
set_option maxHeartbeats 4000000 in
theorem c_needNumber {X : jX} {dd : Nat} {c0 c1 : jC} {G : Nat → Int} {A : Nat → Nat → Int} {T : jH} {lo hi : Int} {ln le at0 fk tk0 : Int} (hd : 7 ≤ dd) (hW : Wk G A) (e_ln : G 9 = ln) (e_le : A 4 (ln).toNat = le) (e_at0 : G 10 = at0) (e_fk : G 16 = fk) (e_tk0 : G 11 = tk0) (h_lo : (-2147483648 : Int) ≤ lo ∧ lo ≤ 2147483647) (h_hi : (-2147483648 : Int) ≤ hi ∧ hi ≤ 2147483647) (p_0 : at0 ≤ le) : wk X dd 293 [.ref 66, .int (i32 lo), .int (i32 hi)] (rV c0 c1 G A T) (fun o V_q => ∃ (G_q : Nat → Int) (A_q : Nat → Nat → Int) (r : Int) (at2 : Int) (tk2 : Int) (fk2 : Int), V_q = rV c0 c1 G_q A_q T ∧ o = .inl (some (.int (i32 r))) ∧ Wk G_q A_q ∧ Fr [10, 11, 12, 13, 14, 16, 17, 18] [] G A G_q A_q ∧ ((-2147483648 : Int) ≤ r ∧ r ≤ 2147483647) ∧ G_q 10 = at2 ∧ G_q 11 = tk2 ∧ G_q 16 = fk2 ∧ (at0 ≤ at2) ∧ (at2 ≤ le) ∧ (((1 ≤ fk2) ∧ (at2 = at0) ∧ (tk2 = tk0) ∧ (tz tk2 = tz tk0)) ∨ ((fk2 = 0) ∧ (fk = 0) ∧ (lo ≤ r) ∧ (r ≤ hi) ∧ (2 * at0 ≤ 2 * at2 - tz tk2)))) := by
  obtain ⟨d, rfl⟩ : ∃ d, dd = d + 1 := ⟨dd - 1, by omega⟩
  refine wk_of (e := jm293) rfl (Nat.le_of_ble_eq_true rfl) ?_
  show wj X d jm293 (0, [(0, .ref 66), (1, .int (i32 (lo))), (2, .int (i32 (hi)))], [], rV c0 c1 G A T) _
  have hF0 : Fr [10, 11, 12, 13, 14, 16, 17, 18] [] G A G A := Fr_rf
  have b_ln : (0 : Int) ≤ ln ∧ ln ≤ 3000 := e_ln ▸ hW.1 9
  have b_le : (0 : Int) ≤ le ∧ le ≤ 3000 := e_le ▸ hW.2 4 _
  have b_at0 : (0 : Int) ≤ at0 ∧ at0 ≤ 3002 := e_at0 ▸ hW.1 10
  have b_fk : (0 : Int) ≤ fk ∧ fk ≤ 6 := e_fk ▸ hW.1 16
  have z_tk0 := tz_f tk0
  have b_tk0 : (0 : Int) ≤ tk0 ∧ tk0 ≤ 5 := e_tk0 ▸ hW.1 11
  refine jx_ld (pc_q := 1) (l_q := [(0, .ref 66), (1, .int (i32 (lo))), (2, .int (i32 (hi)))]) (st_q := [.ref 66]) rfl (jl_aloadn rfl) ?_
  have b1 : (-2147483648 : Int) ≤ G 13 ∧ G 13 ≤ 2147483647 := hW.1 13
  refine jr_get (pc_q := 4) (i := 13) (v := .int (i32 (G 13))) rfl rfl (by decide) rfl rfl ?_
  refine jx_ld (pc_q := 5) (l_q := jSto1 [(0, .ref 66), (1, .int (i32 (lo))), (2, .int (i32 (hi)))] 3 (.int (i32 (G 13)))) (st_q := []) rfl rfl ?_
  obtain ⟨L2, eL2⟩ : ∃ q, q = jSto1 [(0, .ref 66), (1, .int (i32 (lo))), (2, .int (i32 (hi)))] 3 (.int (i32 (G 13))) := ⟨_, rfl⟩
  rw [← eL2]
  have gL2_0 : jGet L2 0 = some (.ref 66) := eL2 ▸ jg_ne (by decide) (rfl : jGet [(0, .ref 66), (1, .int (i32 (lo))), (2, .int (i32 (hi)))] 0 = some (.ref 66)) rfl
  have gL2_1 : jGet L2 1 = some (.int (i32 (lo))) := eL2 ▸ jg_ne (by decide) (rfl : jGet [(0, .ref 66), (1, .int (i32 (lo))), (2, .int (i32 (hi)))] 1 = some (.int (i32 (lo)))) rfl
  have gL2_2 : jGet L2 2 = some (.int (i32 (hi))) := eL2 ▸ jg_ne (by decide) (rfl : jGet [(0, .ref 66), (1, .int (i32 (lo))), (2, .int (i32 (hi)))] 2 = some (.int (i32 (hi)))) rfl
  have gL2_3 : jGet L2 3 = some (.int (i32 (G 13))) := eL2 ▸ jg_eq
  refine jx_ld (pc_q := 6) (l_q := L2) (st_q := [.ref 66]) rfl (jl_aloadn gL2_0) ?_
  refine jx_ld (pc_q := 7) (l_q := L2) (st_q := [.ref 66, .ref 66]) rfl (jl_aloadn gL2_0) ?_
  have z3 := tz_f (tk0)
  refine jr_get (pc_q := 10) (i := 11) (v := .int (i32 (tk0))) rfl rfl (by decide) (rFv_eq (by decide) (show G 11 = tk0 from (e_tk0))) rfl ?_
  refine jx_ar (pc_q := 11) (st_q := [.int (i32 (3)), .int (i32 (tk0)), .ref 66]) rfl rfl rfl rfl ?_
  refine jx_icmp_ne (pc_q := 14) (tg := 27) rfl rfl rfl (Int.le_trans (by decide : (-2147483648 : Int) ≤ 0) b_tk0.1) (Int.le_trans b_tk0.2 (by decide : (5 : Int) ≤ 2147483647)) (by decide) (by decide) (fun h4 => ?_) (fun h4 => ?_)
  · have _q := h4
    refine jx_ar (pc_q := 28) (st_q := [.int (i32 (0)), .ref 66]) rfl rfl rfl rfl ?_
    refine jx_vr (pc_q := 31) (as := [.int (i32 (0))]) (st := []) rfl rfl rfl rfl ⟨rfl, rfl, Nat.le_of_ble_eq_true rfl⟩ rfl rfl (c_need (dd := d) (hd := by omega) (hW := hW) (g := 0) (ln := ln) (e_ln := show G 9 = ln from (e_ln)) (le := le) (e_le := show A 4 (ln).toNat = le from (e_le)) (at0 := at0) (e_at0 := show G 10 = at0 from (e_at0)) (fk := fk) (e_fk := show G 16 = fk from (e_fk)) (tk0 := tk0) (e_tk0 := show G 11 = tk0 from (e_tk0))  (h_g := ⟨(by decide), (by decide)⟩)  (p_0 := by omega)) (fun o V_q hq => ?_)
    obtain ⟨G5, A6, at2_7, tk2_8, fk2_9, rfl, rfl, hW10, hF11, e12, e13, e14, p15, p16, q17⟩ := hq
    have hF18 := Fr_tr hF0 hF11 (Fr_sub (by decide)) (Fr_sub (by decide))
    have bat2_7 : (0 : Int) ≤ at2_7 ∧ at2_7 ≤ 3002 := e12 ▸ hW10.1 10
    have ztk2_8 := tz_b tk2_8
    have btk2_8 : (0 : Int) ≤ tk2_8 ∧ tk2_8 ≤ 5 := e13 ▸ hW10.1 11
    have bfk2_9 : (0 : Int) ≤ fk2_9 ∧ fk2_9 ≤ 6 := e14 ▸ hW10.1 16
    refine .inl ⟨rfl, ?_⟩
    rcases q17 with ⟨a19, a20, a21, a22⟩ | ⟨a23, a24, a25, a26⟩
    · have _q : True := trivial
      refine jx_ld (pc_q := 32) (l_q := L2) (st_q := [.int (i32 (G 13))]) rfl (jl_iloadn gL2_3) ?_
      refine jx_rt (v := some (.int (i32 (G 13)))) rfl rfl rfl rfl rfl rfl ?_
      have z27 := tz_f (tk2_8)
      exact ⟨_, _, _, at2_7, tk2_8, fk2_9, rfl, rfl, hW10, hF18, by omega, (e12), (e13), (e14), by omega, by omega, by first | exact Or.inl (⟨by omega, by omega, by omega, by omega⟩) | exact Or.inr ((⟨by omega, by omega, by omega, by omega, by omega⟩))⟩
    · have _q : True := trivial
      exfalso
      omega
  · have _q := h4
    refine jx_ld (pc_q := 15) (l_q := L2) (st_q := [.int (i32 (G 13)), .ref 66]) rfl (jl_iloadn gL2_3) ?_
    refine jx_ld (pc_q := 16) (l_q := L2) (st_q := [.int (i32 (lo)), .int (i32 (G 13)), .ref 66]) rfl (jl_iloadn gL2_1) ?_
    refine jx_ld (pc_q := 17) (l_q := L2) (st_q := [.int (i32 (hi)), .int (i32 (lo)), .int (i32 (G 13)), .ref 66]) rfl (jl_iloadn gL2_2) ?_
    refine jx_st (pc_q := 20) (as := [.int (i32 (G 13)), .int (i32 (lo)), .int (i32 (hi))]) (st := [.ref 66]) rfl rfl ⟨rfl, Nat.le_of_ble_eq_true rfl⟩ rfl rfl rfl (c_in (dd := d) (hd := by omega) (v := G 13) (a := lo) (b := hi)   (h_v := ⟨(Int.le_trans (by decide : (-2147483648 : Int) ≤ -2147483648) b1.1), (Int.le_trans b1.2 (by decide : (2147483647 : Int) ≤ 2147483647))⟩) (h_a := ⟨(Int.le_trans (by decide : (-2147483648 : Int) ≤ -2147483648) h_lo.1), (Int.le_trans h_lo.2 (by decide : (2147483647 : Int) ≤ 2147483647))⟩) (h_b := ⟨(Int.le_trans (by decide : (-2147483648 : Int) ≤ -2147483648) h_hi.1), (Int.le_trans h_hi.2 (by decide : (2147483647 : Int) ≤ 2147483647))⟩)  ) (fun o V_q hq => ?_)
    obtain ⟨r28, rfl, rfl, b29, q30⟩ := hq
    refine .inr ⟨_, rfl, ?_⟩
    rcases q30 with ⟨rfl, a31, a32⟩ | ⟨rfl, a33⟩
    · have _q : True := trivial
      refine jx_if_eq (pc_q := 23) (tg := 27) rfl rfl rfl (by decide) (by decide) (fun h34 => ?_) (fun h34 => ?_)
      · have _q := h34
        exact absurd h34 (by omega)
      · have _q := h34
        refine jx_ar (pc_q := 24) (st_q := [.int (i32 (1)), .ref 66]) rfl rfl rfl rfl ?_
        refine jx_go (tg := 28) rfl rfl ?_
        refine jx_vr (pc_q := 31) (as := [.int (i32 (1))]) (st := []) rfl rfl rfl rfl ⟨rfl, rfl, Nat.le_of_ble_eq_true rfl⟩ rfl rfl (c_need (dd := d) (hd := by omega) (hW := hW) (g := 1) (ln := ln) (e_ln := show G 9 = ln from (e_ln)) (le := le) (e_le := show A 4 (ln).toNat = le from (e_le)) (at0 := at0) (e_at0 := show G 10 = at0 from (e_at0)) (fk := fk) (e_fk := show G 16 = fk from (e_fk)) (tk0 := tk0) (e_tk0 := show G 11 = tk0 from (e_tk0))  (h_g := ⟨(by decide), (by decide)⟩)  (p_0 := by omega)) (fun o V_q hq => ?_)
        obtain ⟨G35, A36, at2_37, tk2_38, fk2_39, rfl, rfl, hW40, hF41, e42, e43, e44, p45, p46, q47⟩ := hq
        have hF48 := Fr_tr hF0 hF41 (Fr_sub (by decide)) (Fr_sub (by decide))
        have bat2_37 : (0 : Int) ≤ at2_37 ∧ at2_37 ≤ 3002 := e42 ▸ hW40.1 10
        have ztk2_38 := tz_b tk2_38
        have btk2_38 : (0 : Int) ≤ tk2_38 ∧ tk2_38 ≤ 5 := e43 ▸ hW40.1 11
        have bfk2_39 : (0 : Int) ≤ fk2_39 ∧ fk2_39 ≤ 6 := e44 ▸ hW40.1 16
        refine .inl ⟨rfl, ?_⟩
        rcases q47 with ⟨a49, a50, a51, a52⟩ | ⟨a53, a54, a55, a56⟩
        · have _q : True := trivial
          refine jx_ld (pc_q := 32) (l_q := L2) (st_q := [.int (i32 (G 13))]) rfl (jl_iloadn gL2_3) ?_
          refine jx_rt (v := some (.int (i32 (G 13)))) rfl rfl rfl rfl rfl rfl ?_
          have z57 := tz_f (tk2_38)
          exact ⟨_, _, _, at2_37, tk2_38, fk2_39, rfl, rfl, hW40, hF48, by omega, (e42), (e43), (e44), by omega, by omega, by first | exact Or.inl (⟨by omega, by omega, by omega, by omega⟩) | exact Or.inr ((⟨by omega, by omega, by omega, by omega, by omega⟩))⟩
        · have _q : True := trivial
          refine jx_ld (pc_q := 32) (l_q := L2) (st_q := [.int (i32 (G 13))]) rfl (jl_iloadn gL2_3) ?_
          refine jx_rt (v := some (.int (i32 (G 13)))) rfl rfl rfl rfl rfl rfl ?_
          have z58 := tz_f (tk2_38)
          exact ⟨_, _, _, at2_37, tk2_38, fk2_39, rfl, rfl, hW40, hF48, by omega, (e42), (e43), (e44), by omega, by omega, by first | exact Or.inl (⟨by omega, by omega, by omega, by omega⟩) | exact Or.inr ((⟨by omega, by omega, by omega, by omega, by omega⟩))⟩
    · have _q : True := trivial
      refine jx_if_eq (pc_q := 23) (tg := 27) rfl rfl rfl (by decide) (by decide) (fun h59 => ?_) (fun h59 => ?_)
      · have _q := h59
        refine jx_ar (pc_q := 28) (st_q := [.int (i32 (0)), .ref 66]) rfl rfl rfl rfl ?_
        refine jx_vr (pc_q := 31) (as := [.int (i32 (0))]) (st := []) rfl rfl rfl rfl ⟨rfl, rfl, Nat.le_of_ble_eq_true rfl⟩ rfl rfl (c_need (dd := d) (hd := by omega) (hW := hW) (g := 0) (ln := ln) (e_ln := show G 9 = ln from (e_ln)) (le := le) (e_le := show A 4 (ln).toNat = le from (e_le)) (at0 := at0) (e_at0 := show G 10 = at0 from (e_at0)) (fk := fk) (e_fk := show G 16 = fk from (e_fk)) (tk0 := tk0) (e_tk0 := show G 11 = tk0 from (e_tk0))  (h_g := ⟨(by decide), (by decide)⟩)  (p_0 := by omega)) (fun o V_q hq => ?_)
        obtain ⟨G60, A61, at2_62, tk2_63, fk2_64, rfl, rfl, hW65, hF66, e67, e68, e69, p70, p71, q72⟩ := hq
        have hF73 := Fr_tr hF0 hF66 (Fr_sub (by decide)) (Fr_sub (by decide))
        have bat2_62 : (0 : Int) ≤ at2_62 ∧ at2_62 ≤ 3002 := e67 ▸ hW65.1 10
        have ztk2_63 := tz_b tk2_63
        have btk2_63 : (0 : Int) ≤ tk2_63 ∧ tk2_63 ≤ 5 := e68 ▸ hW65.1 11
        have bfk2_64 : (0 : Int) ≤ fk2_64 ∧ fk2_64 ≤ 6 := e69 ▸ hW65.1 16
        refine .inl ⟨rfl, ?_⟩
        rcases q72 with ⟨a74, a75, a76, a77⟩ | ⟨a78, a79, a80, a81⟩
        · have _q : True := trivial
          refine jx_ld (pc_q := 32) (l_q := L2) (st_q := [.int (i32 (G 13))]) rfl (jl_iloadn gL2_3) ?_
          refine jx_rt (v := some (.int (i32 (G 13)))) rfl rfl rfl rfl rfl rfl ?_
          have z82 := tz_f (tk2_63)
          exact ⟨_, _, _, at2_62, tk2_63, fk2_64, rfl, rfl, hW65, hF73, by omega, (e67), (e68), (e69), by omega, by omega, by first | exact Or.inl (⟨by omega, by omega, by omega, by omega⟩) | exact Or.inr ((⟨by omega, by omega, by omega, by omega, by omega⟩))⟩
        · have _q : True := trivial
          exfalso
          omega
      · have _q := h59
        exact absurd h59 (by omega)
set_option maxRecDepth 20000 in
set_option maxHeartbeats 4000000 in
theorem c_readDeclaration_at_233 {X : jX} {d : Nat} {c0 c1 : jC} {G : Nat → Int} {A : Nat → Nat → Int} {T : jH} {ln le at0 fk tk0 li sy na vi : Int} (hd : 8 ≤ d + 1) (hW : Wk G A) (e_ln : G 9 = ln) (e_le : A 4 (ln).toNat = le) (e_at0 : G 10 = at0) (e_fk : G 16 = fk) (e_tk0 : G 11 = tk0) (e_li : G 3 = li) (e_sy : G 19 = sy) (e_na : G 28 = na) (e_vi : G 29 = vi) (p_0 : at0 ≤ le) (p_1 : ln < li) (p_2 : fk = 0) (p_3 : sy ≤ na + 2) (p_4 : vi ≤ sy) : ∀ (m : Nat) (L : jL) (Gx : Nat → Int) (Ax : Nat → Nat → Int) (fr s8 at4 fk4 ln4 sy4 na4 vi4 : Int), (sy4 - s8).toNat = m → jGet L 0 = some (.ref 66) → jGet L 5 = some (.int (i32 fr)) → jGet L 7 = some (.int (i32 s8)) → Wk Gx Ax → Fr [9, 10, 11, 12, 13, 14, 16, 17, 18, 19, 28, 29] [6, 7, 8, 9, 10, 11, 12, 14] G A Gx Ax → Fx sr (sy) A Ax → Fx [14] (vi) A Ax → Gx 10 = at4 → Gx 16 = fk4 → Gx 9 = ln4 → Gx 19 = sy4 → Gx 28 = na4 → Gx 29 = vi4 → ((-2147483648 : Int) ≤ fr ∧ fr ≤ 2147483647) → ((-2147483648 : Int) ≤ s8 ∧ s8 ≤ 2147483647) → (fk4 = 0) → (fr = sy) → (at0 ≤ at4) → (at4 ≤ le) → (ln4 = ln + 1) → (sy ≤ sy4) → (sy4 ≤ na4 + 2) → (sy ≤ s8 ∧ s8 ≤ sy4) → (vi4 - vi = s8 - sy) → (wD Ax (sy) (sy4)) → (DS Ax (vi) (vi4) (sy) (sy4)) → wj X d jm294 (233, L, [], rV c0 c1 Gx Ax T) (fun o V_q => ∃ (G_q : Nat → Int) (A_q : Nat → Nat → Int) (at2 : Int) (fk2 : Int) (ln2 : Int) (sy2 : Int) (na2 : Int) (vi2 : Int), V_q = rV c0 c1 G_q A_q T ∧ o = .inl none ∧ Wk G_q A_q ∧ Fr [9, 10, 11, 12, 13, 14, 16, 17, 18, 19, 28, 29] [6, 7, 8, 9, 10, 11, 12, 14] G A G_q A_q ∧ Fx sr (sy) A A_q ∧ Fx [14] (vi) A A_q ∧ G_q 10 = at2 ∧ G_q 16 = fk2 ∧ G_q 9 = ln2 ∧ G_q 19 = sy2 ∧ G_q 28 = na2 ∧ G_q 29 = vi2 ∧ (at0 ≤ at2) ∧ (at2 ≤ le) ∧ (sy ≤ sy2) ∧ (sy2 ≤ na2 + 2) ∧ (vi ≤ vi2) ∧ (vi2 - vi ≤ sy2 - sy) ∧ (((1 ≤ fk2) ∧ (ln2 = ln ∨ ln2 = ln + 1)) ∨ ((fk2 = 0) ∧ (ln2 = ln + 1) ∧ (wD A_q (sy) (sy2)) ∧ (DS A_q (vi) (vi2) (sy) (sy2))))) := by
  have hF0 : Fr [9, 10, 11, 12, 13, 14, 16, 17, 18, 19, 28, 29] [6, 7, 8, 9, 10, 11, 12, 14] G A G A := Fr_rf
  have hS0 : Fx sr (sy) A A := Fx_rf
  have hV0 : Fx [14] (vi) A A := Fx_rf
  have b_ln : (0 : Int) ≤ ln ∧ ln ≤ 3000 := e_ln ▸ hW.1 9
  have b_le : (0 : Int) ≤ le ∧ le ≤ 3000 := e_le ▸ hW.2 4 _
  have b_at0 : (0 : Int) ≤ at0 ∧ at0 ≤ 3002 := e_at0 ▸ hW.1 10
  have b_fk : (0 : Int) ≤ fk ∧ fk ≤ 6 := e_fk ▸ hW.1 16
  have b_tk0 : (0 : Int) ≤ tk0 ∧ tk0 ≤ 5 := e_tk0 ▸ hW.1 11
  have b_li : (0 : Int) ≤ li ∧ li ≤ 3000 := e_li ▸ hW.1 3
  have b_sy : (0 : Int) ≤ sy ∧ sy ≤ 202 := e_sy ▸ hW.1 19
  have b_na : (0 : Int) ≤ na ∧ na ≤ 200 := e_na ▸ hW.1 28
  have b_vi : (0 : Int) ≤ vi ∧ vi ≤ 202 := e_vi ▸ hW.1 29
  intro m
  induction m using Nat.strongRecOn with
  | ind m ih233 =>
    intro L Gx Ax fr s8 at4 fk4 ln4 sy4 na4 vi4 hm gL_0 gL_5 gL_7 hWx hFx hSx hVx ex_at4 ex_fk4 ex_ln4 ex_sy4 ex_na4 ex_vi4 rx_fr rx_s8 iv_0 iv_1 iv_2 iv_3 iv_4 iv_5 iv_6 iv_7 iv_8 iv_9 iv_10
    have b_at4 : (0 : Int) ≤ at4 ∧ at4 ≤ 3002 := ex_at4 ▸ hWx.1 10
    have b_fk4 : (0 : Int) ≤ fk4 ∧ fk4 ≤ 6 := ex_fk4 ▸ hWx.1 16
    have b_ln4 : (0 : Int) ≤ ln4 ∧ ln4 ≤ 3000 := ex_ln4 ▸ hWx.1 9
    have b_sy4 : (0 : Int) ≤ sy4 ∧ sy4 ≤ 202 := ex_sy4 ▸ hWx.1 19
    have b_na4 : (0 : Int) ≤ na4 ∧ na4 ≤ 200 := ex_na4 ▸ hWx.1 28
    have b_vi4 : (0 : Int) ≤ vi4 ∧ vi4 ≤ 202 := ex_vi4 ▸ hWx.1 29
    refine jx_ld (pc_q := 235) (l_q := L) (st_q := [.int (i32 (s8))]) rfl (jl_iload gL_7) ?_
    refine jx_ld (pc_q := 236) (l_q := L) (st_q := [.ref 66, .int (i32 (s8))]) rfl (jl_aloadn gL_0) ?_
    refine jr_get (pc_q := 239) (i := 19) (v := .int (i32 (sy4))) rfl rfl (by decide) (rFv_eq (by decide) (show Gx 19 = sy4 from (ex_sy4))) rfl ?_
    refine jx_icmp_ge (pc_q := 242) (tg := 261) rfl rfl rfl (Int.le_trans (by decide : (-2147483648 : Int) ≤ -2147483648) rx_s8.1) (Int.le_trans rx_s8.2 (by decide : (2147483647 : Int) ≤ 2147483647)) (Int.le_trans (by decide : (-2147483648 : Int) ≤ 0) b_sy4.1) (Int.le_trans b_sy4.2 (by decide : (202 : Int) ≤ 2147483647)) (fun h1 => ?_) (fun h1 => ?_)
    · have _q := h1
      refine jx_rt (v := none) rfl rfl rfl rfl rfl rfl ?_
      exact ⟨_, _, at4, fk4, ln4, sy4, na4, vi4, rfl, rfl, hWx, hFx, hSx, hVx, (ex_at4), (ex_fk4), (ex_ln4), (ex_sy4), (ex_na4), (ex_vi4), by omega, by omega, by omega, by omega, by omega, by omega, by first | exact Or.inr ((⟨by omega, by omega, iv_9, iv_10⟩))⟩
    · have _q := h1
      refine jx_ld (pc_q := 243) (l_q := L) (st_q := [.ref 66]) rfl (jl_aloadn gL_0) ?_
      refine jx_vr (pc_q := 246) (as := []) (st := []) rfl rfl rfl rfl ⟨rfl, rfl, Nat.le_of_ble_eq_true rfl⟩ rfl rfl (c_bad (dd := d) (hd := by omega) (hW := hWx)  (fk := fk4) (e_fk := show Gx 16 = fk4 from (ex_fk4))    ) (fun o V_q hq => ?_)
      obtain ⟨r2, rfl, rfl, b3, q4⟩ := hq
      refine .inr ⟨_, rfl, ?_⟩
      rcases q4 with ⟨rfl, a5⟩ | ⟨rfl, a6⟩
      · have _q : True := trivial
        exfalso
        omega
      · have _q : True := trivial
        refine jx_if_ne (pc_q := 249) (tg := 261) rfl rfl rfl (by decide) (by decide) (fun h7 => ?_) (fun h7 => ?_)
        · have _q := h7
          exact absurd h7 (by omega)
        · have _q := h7
          refine jx_ld (pc_q := 250) (l_q := L) (st_q := [.ref 66]) rfl (jl_aloadn gL_0) ?_
          refine jx_ld (pc_q := 252) (l_q := L) (st_q := [.int (i32 (s8)), .ref 66]) rfl (jl_iload gL_7) ?_
          refine jx_vr (pc_q := 255) (as := [.int (i32 (s8))]) (st := []) rfl rfl rfl rfl ⟨rfl, rfl, Nat.le_of_ble_eq_true rfl⟩ rfl rfl (c_show (dd := d) (hd := by omega) (hW := hWx) (s := s8) (vi := vi4) (e_vi := show Gx 29 = vi4 from (ex_vi4))  (h_s := ⟨(Int.le_trans (by decide : (-2147483648 : Int) ≤ -2147483648) rx_s8.1), (Int.le_trans rx_s8.2 (by decide : (2147483647 : Int) ≤ 2147483647))⟩)  (p_0 := by omega) (p_1 := by omega)) (fun o V_q hq => ?_)
          obtain ⟨G8, A9, vi2_10, sv2_11, rfl, rfl, hW12, hF13, hQ14, e15, e16, p17, p18, -⟩ := hq
          have hF20 := Fr_tr hFx hF13 (Fr_sub (by decide)) (Fr_sub (by decide))
          have hS21 := Fx_f hSx hF13 (by decide)
          have hV22 := Fx_tr hVx hQ14 (by omega)
          have sf23 : wD A9 (sy) (sy4) := wD_fx (Sg_fr (sb := sy4) hF13 (by decide)) (by omega) iv_9
          have sf24 : DS A9 (vi) (vi4) (sy) (sy4) := DS_fx hQ14 (by omega) iv_10
          have bvi2_10 : (0 : Int) ≤ vi2_10 ∧ vi2_10 ≤ 202 := e15 ▸ hW12.1 29
          have bsv2_11 : (0 : Int) ≤ sv2_11 ∧ sv2_11 ≤ 201 := e16 ▸ hW12.2 14 _
          refine .inl ⟨rfl, ?_⟩
          refine jx_inc (pc_q := 258) (l_q := jSto1 L 7 (.int (i32 ((s8 + (1)))))) (x := s8) rfl gL_7 (by decide) rfl rfl ?_
          obtain ⟨L25, eL25⟩ : ∃ q, q = jSto1 L 7 (.int (i32 ((s8 + (1))))) := ⟨_, rfl⟩
          rw [← eL25]
          have gL25_0 : jGet L25 0 = some (.ref 66) := eL25 ▸ jg_ne (by decide) gL_0 rfl
          have gL25_5 : jGet L25 5 = some (.int (i32 (fr))) := eL25 ▸ jg_ne (by decide) gL_5 rfl
          have gL25_7 : jGet L25 7 = some (.int (i32 ((s8 + (1))))) := eL25 ▸ jg_eq
          refine jx_go (tg := 233) rfl rfl ?_
          exact ih233 _ (by omega) L25 G8 A9 (fr) ((s8 + (1))) (at4) (fk4) (ln4) (sy4) (na4) (vi2_10) rfl gL25_0 gL25_5 gL25_7 hW12 hF20 hS21 hV22 (((hF13.1 10 rfl).trans (ex_at4))) (((hF13.1 16 rfl).trans (ex_fk4))) (((hF13.1 9 rfl).trans (ex_ln4))) (((hF13.1 19 rfl).trans (ex_sy4))) (((hF13.1 28 rfl).trans (ex_na4))) ((e15)) (by omega) (by omega) (by omega) (by omega) (by omega) (by omega) (by omega) (by omega) (by omega) (by omega) (by omega) (sf23) ((DS_add sf24 (show A9 14 (vi4).toNat = sv2_11 from (e16)) (by omega) (by omega) (by omega) (by omega)))
set_option maxRecDepth 20000 in
set_option maxHeartbeats 4000000 in
theorem c_readDeclaration_at_215 {X : jX} {d : Nat} {c0 c1 : jC} {G : Nat → Int} {A : Nat → Nat → Int} {T : jH} {ln le at0 fk tk0 li sy na vi : Int} (hd : 8 ≤ d + 1) (hW : Wk G A) (e_ln : G 9 = ln) (e_le : A 4 (ln).toNat = le) (e_at0 : G 10 = at0) (e_fk : G 16 = fk) (e_tk0 : G 11 = tk0) (e_li : G 3 = li) (e_sy : G 19 = sy) (e_na : G 28 = na) (e_vi : G 29 = vi) (p_0 : at0 ≤ le) (p_1 : ln < li) (p_2 : fk = 0) (p_3 : sy ≤ na + 2) (p_4 : vi ≤ sy) : ∀ (L : jL) (Gx : Nat → Int) (Ax : Nat → Nat → Int) (fr at1 tk1 fk1 sy1 na1 : Int), jGet L 0 = some (.ref 66) → jGet L 5 = some (.int (i32 fr)) → Wk Gx Ax → Fr [9, 10, 11, 12, 13, 14, 16, 17, 18, 19, 28, 29] [6, 7, 8, 9, 10, 11, 12, 14] G A Gx Ax → Fx sr (sy) A Ax → Fx [14] (vi) A Ax → Gx 10 = at1 → Gx 11 = tk1 → Gx 16 = fk1 → Gx 19 = sy1 → Gx 28 = na1 → Gx 9 = ln → Gx 29 = vi → ((-2147483648 : Int) ≤ fr ∧ fr ≤ 2147483647) → (fk1 = 0) → (at0 ≤ at1) → (at1 ≤ le) → (fr = sy) → (sy ≤ sy1) → (sy1 ≤ na1 + 2) → (wD Ax (sy) (sy1)) → wj X d jm294 (215, L, [], rV c0 c1 Gx Ax T) (fun o V_q => ∃ (G_q : Nat → Int) (A_q : Nat → Nat → Int) (at2 : Int) (fk2 : Int) (ln2 : Int) (sy2 : Int) (na2 : Int) (vi2 : Int), V_q = rV c0 c1 G_q A_q T ∧ o = .inl none ∧ Wk G_q A_q ∧ Fr [9, 10, 11, 12, 13, 14, 16, 17, 18, 19, 28, 29] [6, 7, 8, 9, 10, 11, 12, 14] G A G_q A_q ∧ Fx sr (sy) A A_q ∧ Fx [14] (vi) A A_q ∧ G_q 10 = at2 ∧ G_q 16 = fk2 ∧ G_q 9 = ln2 ∧ G_q 19 = sy2 ∧ G_q 28 = na2 ∧ G_q 29 = vi2 ∧ (at0 ≤ at2) ∧ (at2 ≤ le) ∧ (sy ≤ sy2) ∧ (sy2 ≤ na2 + 2) ∧ (vi ≤ vi2) ∧ (vi2 - vi ≤ sy2 - sy) ∧ (((1 ≤ fk2) ∧ (ln2 = ln ∨ ln2 = ln + 1)) ∨ ((fk2 = 0) ∧ (ln2 = ln + 1) ∧ (wD A_q (sy) (sy2)) ∧ (DS A_q (vi) (vi2) (sy) (sy2))))) := by
  have hF0 : Fr [9, 10, 11, 12, 13, 14, 16, 17, 18, 19, 28, 29] [6, 7, 8, 9, 10, 11, 12, 14] G A G A := Fr_rf
  have hS0 : Fx sr (sy) A A := Fx_rf
  have hV0 : Fx [14] (vi) A A := Fx_rf
  have b_ln : (0 : Int) ≤ ln ∧ ln ≤ 3000 := e_ln ▸ hW.1 9
  have b_le : (0 : Int) ≤ le ∧ le ≤ 3000 := e_le ▸ hW.2 4 _
  have b_at0 : (0 : Int) ≤ at0 ∧ at0 ≤ 3002 := e_at0 ▸ hW.1 10
  have b_fk : (0 : Int) ≤ fk ∧ fk ≤ 6 := e_fk ▸ hW.1 16
  have b_tk0 : (0 : Int) ≤ tk0 ∧ tk0 ≤ 5 := e_tk0 ▸ hW.1 11
  have b_li : (0 : Int) ≤ li ∧ li ≤ 3000 := e_li ▸ hW.1 3
  have b_sy : (0 : Int) ≤ sy ∧ sy ≤ 202 := e_sy ▸ hW.1 19
  have b_na : (0 : Int) ≤ na ∧ na ≤ 200 := e_na ▸ hW.1 28
  have b_vi : (0 : Int) ≤ vi ∧ vi ≤ 202 := e_vi ▸ hW.1 29
  intro L Gx Ax fr at1 tk1 fk1 sy1 na1 gL_0 gL_5 hWx hFx hSx hVx ex_at1 ex_tk1 ex_fk1 ex_sy1 ex_na1 fx_9 fx_29 rx_fr iv_0 iv_1 iv_2 iv_3 iv_4 iv_5 iv_6
  have b_at1 : (0 : Int) ≤ at1 ∧ at1 ≤ 3002 := ex_at1 ▸ hWx.1 10
  have z_tk1 := tz_f tk1
  have b_tk1 : (0 : Int) ≤ tk1 ∧ tk1 ≤ 5 := ex_tk1 ▸ hWx.1 11
  have b_fk1 : (0 : Int) ≤ fk1 ∧ fk1 ≤ 6 := ex_fk1 ▸ hWx.1 16
  have b_sy1 : (0 : Int) ≤ sy1 ∧ sy1 ≤ 202 := ex_sy1 ▸ hWx.1 19
  have b_na1 : (0 : Int) ≤ na1 ∧ na1 ≤ 200 := ex_na1 ▸ hWx.1 28
  refine jx_ld (pc_q := 216) (l_q := L) (st_q := [.ref 66]) rfl (jl_aloadn gL_0) ?_
  refine jx_ld (pc_q := 217) (l_q := L) (st_q := [.ref 66, .ref 66]) rfl (jl_aloadn gL_0) ?_
  refine jx_ar (pc_q := 219) (st_q := [.int (i32 (58)), .ref 66, .ref 66]) rfl rfl rfl rfl ?_
  have b26 : (-2147483648 : Int) ≤ Gx 13 ∧ Gx 13 ≤ 2147483647 := hWx.1 13
  refine jx_vr (pc_q := 222) (as := [.int (i32 (58))]) (st := [.ref 66]) rfl rfl rfl rfl ⟨rfl, rfl, Nat.le_of_ble_eq_true rfl⟩ rfl rfl (c_is (dd := d) (hd := by omega) (hW := hWx) (k := 58) (tk := tk1) (e_tk := show Gx 11 = tk1 from (ex_tk1)) (tn := Gx 13) (e_tn := show Gx 13 = Gx 13 from rfl)  (h_k := ⟨(by decide), (by decide)⟩)  ) (fun o V_q hq => ?_)
  obtain ⟨r27, rfl, rfl, b28, q29⟩ := hq
  refine .inr ⟨_, rfl, ?_⟩
  rcases q29 with ⟨rfl, a30, a31, a32⟩ | rfl
  · have _q : True := trivial
    refine jx_vr (pc_q := 225) (as := [.int (i32 (1))]) (st := []) rfl rfl rfl rfl ⟨rfl, rfl, Nat.le_of_ble_eq_true rfl⟩ rfl rfl (c_need (dd := d) (hd := by omega) (hW := hWx) (g := 1) (ln := ln) (e_ln := show Gx 9 = ln from (fx_9)) (le := le) (e_le := show Ax 4 (ln).toNat = le from (congrFun (hFx.2 4 rfl) _).trans (e_le)) (at0 := at1) (e_at0 := show Gx 10 = at1 from (ex_at1)) (fk := fk1) (e_fk := show Gx 16 = fk1 from (ex_fk1)) (tk0 := tk1) (e_tk0 := show Gx 11 = tk1 from (ex_tk1))  (h_g := ⟨(by decide), (by decide)⟩)  (p_0 := by omega)) (fun o V_q hq => ?_)
    obtain ⟨G33, A34, at2_35, tk2_36, fk2_37, rfl, rfl, hW38, hF39, e40, e41, e42, p43, p44, q45⟩ := hq
    have hF46 := Fr_tr hFx hF39 (Fr_sub (by decide)) (Fr_sub (by decide))
    have hS47 := Fx_f hSx hF39 (by decide)
    have hV48 := Fx_f hVx hF39 (by decide)
    have sf49 : wD A34 (sy) (sy1) := wD_fx (Sg_fr (sb := sy1) hF39 (by decide)) (by omega) iv_6
    have bat2_35 : (0 : Int) ≤ at2_35 ∧ at2_35 ≤ 3002 := e40 ▸ hW38.1 10
    have ztk2_36 := tz_b tk2_36
    have btk2_36 : (0 : Int) ≤ tk2_36 ∧ tk2_36 ≤ 5 := e41 ▸ hW38.1 11
    have bfk2_37 : (0 : Int) ≤ fk2_37 ∧ fk2_37 ≤ 6 := e42 ▸ hW38.1 16
    refine .inl ⟨rfl, ?_⟩
    rcases q45 with ⟨a50, a51, a52, a53⟩ | ⟨a54, a55, a56, a57⟩
    · have _q : True := trivial
      refine jx_ld (pc_q := 226) (l_q := L) (st_q := [.ref 66]) rfl (jl_aloadn gL_0) ?_
      refine jx_vr (pc_q := 229) (as := []) (st := []) rfl rfl rfl rfl ⟨rfl, rfl, Nat.le_of_ble_eq_true rfl⟩ rfl rfl (c_endLine (dd := d) (hd := by omega) (hW := hW38)  (ln := ln) (e_ln := show G33 9 = ln from ((hF39.1 9 rfl).trans (fx_9))) (li := li) (e_li := show G33 3 = li from ((hF39.1 3 rfl).trans ((hFx.1 3 rfl).trans (e_li)))) (fk := fk2_37) (e_fk := show G33 16 = fk2_37 from (e42)) (tk0 := tk2_36) (e_tk0 := show G33 11 = tk2_36 from (e41))    (p_0 := by omega)) (fun o V_q hq => ?_)
      obtain ⟨G58, A59, ln2_60, fk2_61, rfl, rfl, hW62, hF63, e64, e65, q66⟩ := hq
      have hF67 := Fr_tr hF46 hF63 (Fr_sub (by decide)) (Fr_sub (by decide))
      have hS68 := Fx_f hS47 hF63 (by decide)
      have hV69 := Fx_f hV48 hF63 (by decide)
      have sf70 : wD A59 (sy) (sy1) := wD_fx (Sg_fr (sb := sy1) hF63 (by decide)) (by omega) sf49
      have bln2_60 : (0 : Int) ≤ ln2_60 ∧ ln2_60 ≤ 3000 := e64 ▸ hW62.1 9
      have bfk2_61 : (0 : Int) ≤ fk2_61 ∧ fk2_61 ≤ 6 := e65 ▸ hW62.1 16
      refine .inl ⟨rfl, ?_⟩
      rcases q66 with ⟨a71, a72, a73, a74, a75⟩ | ⟨a76, a77⟩
      · have _q : True := trivial
        exfalso
        omega
      · have _q : True := trivial
        refine jx_ld (pc_q := 231) (l_q := L) (st_q := [.int (i32 (fr))]) rfl (jl_iload gL_5) ?_
        refine jx_ld (pc_q := 233) (l_q := jSto1 L 7 (.int (i32 (fr)))) (st_q := []) rfl rfl ?_
        obtain ⟨L78, eL78⟩ : ∃ q, q = jSto1 L 7 (.int (i32 (fr))) := ⟨_, rfl⟩
        rw [← eL78]
        have gL78_0 : jGet L78 0 = some (.ref 66) := eL78 ▸ jg_ne (by decide) gL_0 rfl
        have gL78_5 : jGet L78 5 = some (.int (i32 (fr))) := eL78 ▸ jg_ne (by decide) gL_5 rfl
        have gL78_7 : jGet L78 7 = some (.int (i32 (fr))) := eL78 ▸ jg_eq
        refine jx_ld (pc_q := 235) (l_q := L78) (st_q := [.int (i32 (fr))]) rfl (jl_iload gL78_7) ?_
        refine jx_ld (pc_q := 236) (l_q := L78) (st_q := [.ref 66, .int (i32 (fr))]) rfl (jl_aloadn gL78_0) ?_
        refine jr_get (pc_q := 239) (i := 19) (v := .int (i32 (sy1))) rfl rfl (by decide) (rFv_eq (by decide) (show G58 19 = sy1 from ((hF63.1 19 rfl).trans ((hF39.1 19 rfl).trans (ex_sy1))))) rfl ?_
        refine jx_icmp_ge (pc_q := 242) (tg := 261) rfl rfl rfl (Int.le_trans (by decide : (-2147483648 : Int) ≤ -2147483648) rx_fr.1) (Int.le_trans rx_fr.2 (by decide : (2147483647 : Int) ≤ 2147483647)) (Int.le_trans (by decide : (-2147483648 : Int) ≤ 0) b_sy1.1) (Int.le_trans b_sy1.2 (by decide : (202 : Int) ≤ 2147483647)) (fun h79 => ?_) (fun h79 => ?_)
        · have _q := h79
          refine jx_rt (v := none) rfl rfl rfl rfl rfl rfl ?_
          exact ⟨_, _, at2_35, fk2_61, ln2_60, sy1, na1, vi, rfl, rfl, hW62, hF67, hS68, hV69, ((hF63.1 10 rfl).trans (e40)), (e65), (e64), ((hF63.1 19 rfl).trans ((hF39.1 19 rfl).trans (ex_sy1))), ((hF63.1 28 rfl).trans ((hF39.1 28 rfl).trans (ex_na1))), ((hF63.1 29 rfl).trans ((hF39.1 29 rfl).trans (fx_29))), by omega, by omega, by omega, by omega, by omega, by omega, by first | exact Or.inl (⟨by omega, by omega⟩)⟩
        · have _q := h79
          refine jx_ld (pc_q := 243) (l_q := L78) (st_q := [.ref 66]) rfl (jl_aloadn gL78_0) ?_
          refine jx_vr (pc_q := 246) (as := []) (st := []) rfl rfl rfl rfl ⟨rfl, rfl, Nat.le_of_ble_eq_true rfl⟩ rfl rfl (c_bad (dd := d) (hd := by omega) (hW := hW62)  (fk := fk2_61) (e_fk := show G58 16 = fk2_61 from (e65))    ) (fun o V_q hq => ?_)
          obtain ⟨r80, rfl, rfl, b81, q82⟩ := hq
          refine .inr ⟨_, rfl, ?_⟩
          rcases q82 with ⟨rfl, a83⟩ | ⟨rfl, a84⟩
          · have _q : True := trivial
            refine jx_if_ne (pc_q := 249) (tg := 261) rfl rfl rfl (by decide) (by decide) (fun h85 => ?_) (fun h85 => ?_)
            · have _q := h85
              refine jx_rt (v := none) rfl rfl rfl rfl rfl rfl ?_
              exact ⟨_, _, at2_35, fk2_61, ln2_60, sy1, na1, vi, rfl, rfl, hW62, hF67, hS68, hV69, ((hF63.1 10 rfl).trans (e40)), (e65), (e64), ((hF63.1 19 rfl).trans ((hF39.1 19 rfl).trans (ex_sy1))), ((hF63.1 28 rfl).trans ((hF39.1 28 rfl).trans (ex_na1))), ((hF63.1 29 rfl).trans ((hF39.1 29 rfl).trans (fx_29))), by omega, by omega, by omega, by omega, by omega, by omega, by first | exact Or.inl (⟨by omega, by omega⟩)⟩
            · have _q := h85
              exact absurd h85 (by omega)
          · have _q : True := trivial
            exfalso
            omega
    · have _q : True := trivial
      refine jx_ld (pc_q := 226) (l_q := L) (st_q := [.ref 66]) rfl (jl_aloadn gL_0) ?_
      refine jx_vr (pc_q := 229) (as := []) (st := []) rfl rfl rfl rfl ⟨rfl, rfl, Nat.le_of_ble_eq_true rfl⟩ rfl rfl (c_endLine (dd := d) (hd := by omega) (hW := hW38)  (ln := ln) (e_ln := show G33 9 = ln from ((hF39.1 9 rfl).trans (fx_9))) (li := li) (e_li := show G33 3 = li from ((hF39.1 3 rfl).trans ((hFx.1 3 rfl).trans (e_li)))) (fk := fk2_37) (e_fk := show G33 16 = fk2_37 from (e42)) (tk0 := tk2_36) (e_tk0 := show G33 11 = tk2_36 from (e41))    (p_0 := by omega)) (fun o V_q hq => ?_)
      obtain ⟨G86, A87, ln2_88, fk2_89, rfl, rfl, hW90, hF91, e92, e93, q94⟩ := hq
      have hF95 := Fr_tr hF46 hF91 (Fr_sub (by decide)) (Fr_sub (by decide))
      have hS96 := Fx_f hS47 hF91 (by decide)
      have hV97 := Fx_f hV48 hF91 (by decide)
      have sf98 : wD A87 (sy) (sy1) := wD_fx (Sg_fr (sb := sy1) hF91 (by decide)) (by omega) sf49
      have bln2_88 : (0 : Int) ≤ ln2_88 ∧ ln2_88 ≤ 3000 := e92 ▸ hW90.1 9
      have bfk2_89 : (0 : Int) ≤ fk2_89 ∧ fk2_89 ≤ 6 := e93 ▸ hW90.1 16
      refine .inl ⟨rfl, ?_⟩
      rcases q94 with ⟨a99, a100, a101, a102, a103⟩ | ⟨a104, a105⟩
      · have _q : True := trivial
        refine jx_ld (pc_q := 231) (l_q := L) (st_q := [.int (i32 (fr))]) rfl (jl_iload gL_5) ?_
        refine jx_ld (pc_q := 233) (l_q := jSto1 L 7 (.int (i32 (fr)))) (st_q := []) rfl rfl ?_
        obtain ⟨L106, eL106⟩ : ∃ q, q = jSto1 L 7 (.int (i32 (fr))) := ⟨_, rfl⟩
        rw [← eL106]
        have gL106_0 : jGet L106 0 = some (.ref 66) := eL106 ▸ jg_ne (by decide) gL_0 rfl
        have gL106_5 : jGet L106 5 = some (.int (i32 (fr))) := eL106 ▸ jg_ne (by decide) gL_5 rfl
        have gL106_7 : jGet L106 7 = some (.int (i32 (fr))) := eL106 ▸ jg_eq
        exact c_readDeclaration_at_233 (X := X) (d := d) (c0 := c0) (c1 := c1) (G := G) (A := A) (T := T) (ln := ln) (le := le) (at0 := at0) (fk := fk) (tk0 := tk0) (li := li) (sy := sy) (na := na) (vi := vi) (hd := hd) (hW := hW) (e_ln := e_ln) (e_le := e_le) (e_at0 := e_at0) (e_fk := e_fk) (e_tk0 := e_tk0) (e_li := e_li) (e_sy := e_sy) (e_na := e_na) (e_vi := e_vi) (p_0 := p_0) (p_1 := p_1) (p_2 := p_2) (p_3 := p_3) (p_4 := p_4) _ L106 G86 A87 (fr) (fr) (at2_35) (fk2_89) (ln2_88) (sy1) (na1) (vi) rfl gL106_0 gL106_5 gL106_7 hW90 hF95 hS96 hV97 (((hF91.1 10 rfl).trans (e40))) ((e93)) ((e92)) (((hF91.1 19 rfl).trans ((hF39.1 19 rfl).trans (ex_sy1)))) (((hF91.1 28 rfl).trans ((hF39.1 28 rfl).trans (ex_na1)))) (((hF91.1 29 rfl).trans ((hF39.1 29 rfl).trans (fx_29)))) (by omega) (by omega) (by omega) (by omega) (by omega) (by omega) (by omega) (by omega) (by omega) (by omega) (by omega) (sf98) (DS_nil)
      · have _q : True := trivial
        refine jx_ld (pc_q := 231) (l_q := L) (st_q := [.int (i32 (fr))]) rfl (jl_iload gL_5) ?_
        refine jx_ld (pc_q := 233) (l_q := jSto1 L 7 (.int (i32 (fr)))) (st_q := []) rfl rfl ?_
        obtain ⟨L107, eL107⟩ : ∃ q, q = jSto1 L 7 (.int (i32 (fr))) := ⟨_, rfl⟩
        rw [← eL107]
        have gL107_0 : jGet L107 0 = some (.ref 66) := eL107 ▸ jg_ne (by decide) gL_0 rfl
        have gL107_5 : jGet L107 5 = some (.int (i32 (fr))) := eL107 ▸ jg_ne (by decide) gL_5 rfl
        have gL107_7 : jGet L107 7 = some (.int (i32 (fr))) := eL107 ▸ jg_eq
        refine jx_ld (pc_q := 235) (l_q := L107) (st_q := [.int (i32 (fr))]) rfl (jl_iload gL107_7) ?_
        refine jx_ld (pc_q := 236) (l_q := L107) (st_q := [.ref 66, .int (i32 (fr))]) rfl (jl_aloadn gL107_0) ?_
        refine jr_get (pc_q := 239) (i := 19) (v := .int (i32 (sy1))) rfl rfl (by decide) (rFv_eq (by decide) (show G86 19 = sy1 from ((hF91.1 19 rfl).trans ((hF39.1 19 rfl).trans (ex_sy1))))) rfl ?_
        refine jx_icmp_ge (pc_q := 242) (tg := 261) rfl rfl rfl (Int.le_trans (by decide : (-2147483648 : Int) ≤ -2147483648) rx_fr.1) (Int.le_trans rx_fr.2 (by decide : (2147483647 : Int) ≤ 2147483647)) (Int.le_trans (by decide : (-2147483648 : Int) ≤ 0) b_sy1.1) (Int.le_trans b_sy1.2 (by decide : (202 : Int) ≤ 2147483647)) (fun h108 => ?_) (fun h108 => ?_)
        · have _q := h108
          refine jx_rt (v := none) rfl rfl rfl rfl rfl rfl ?_
          exact ⟨_, _, at2_35, fk2_89, ln2_88, sy1, na1, vi, rfl, rfl, hW90, hF95, hS96, hV97, ((hF91.1 10 rfl).trans (e40)), (e93), (e92), ((hF91.1 19 rfl).trans ((hF39.1 19 rfl).trans (ex_sy1))), ((hF91.1 28 rfl).trans ((hF39.1 28 rfl).trans (ex_na1))), ((hF91.1 29 rfl).trans ((hF39.1 29 rfl).trans (fx_29))), by omega, by omega, by omega, by omega, by omega, by omega, by first | exact Or.inl (⟨by omega, by omega⟩)⟩
        · have _q := h108
          refine jx_ld (pc_q := 243) (l_q := L107) (st_q := [.ref 66]) rfl (jl_aloadn gL107_0) ?_
          refine jx_vr (pc_q := 246) (as := []) (st := []) rfl rfl rfl rfl ⟨rfl, rfl, Nat.le_of_ble_eq_true rfl⟩ rfl rfl (c_bad (dd := d) (hd := by omega) (hW := hW90)  (fk := fk2_89) (e_fk := show G86 16 = fk2_89 from (e93))    ) (fun o V_q hq => ?_)
          obtain ⟨r109, rfl, rfl, b110, q111⟩ := hq
          refine .inr ⟨_, rfl, ?_⟩
          rcases q111 with ⟨rfl, a112⟩ | ⟨rfl, a113⟩
          · have _q : True := trivial
            refine jx_if_ne (pc_q := 249) (tg := 261) rfl rfl rfl (by decide) (by decide) (fun h114 => ?_) (fun h114 => ?_)
            · have _q := h114
              refine jx_rt (v := none) rfl rfl rfl rfl rfl rfl ?_
              exact ⟨_, _, at2_35, fk2_89, ln2_88, sy1, na1, vi, rfl, rfl, hW90, hF95, hS96, hV97, ((hF91.1 10 rfl).trans (e40)), (e93), (e92), ((hF91.1 19 rfl).trans ((hF39.1 19 rfl).trans (ex_sy1))), ((hF91.1 28 rfl).trans ((hF39.1 28 rfl).trans (ex_na1))), ((hF91.1 29 rfl).trans ((hF39.1 29 rfl).trans (fx_29))), by omega, by omega, by omega, by omega, by omega, by omega, by first | exact Or.inl (⟨by omega, by omega⟩)⟩
            · have _q := h114
              exact absurd h114 (by omega)
          · have _q : True := trivial
            exfalso
            omega
  · have _q : True := trivial
    refine jx_vr (pc_q := 225) (as := [.int (i32 (0))]) (st := []) rfl rfl rfl rfl ⟨rfl, rfl, Nat.le_of_ble_eq_true rfl⟩ rfl rfl (c_need (dd := d) (hd := by omega) (hW := hWx) (g := 0) (ln := ln) (e_ln := show Gx 9 = ln from (fx_9)) (le := le) (e_le := show Ax 4 (ln).toNat = le from (congrFun (hFx.2 4 rfl) _).trans (e_le)) (at0 := at1) (e_at0 := show Gx 10 = at1 from (ex_at1)) (fk := fk1) (e_fk := show Gx 16 = fk1 from (ex_fk1)) (tk0 := tk1) (e_tk0 := show Gx 11 = tk1 from (ex_tk1))  (h_g := ⟨(by decide), (by decide)⟩)  (p_0 := by omega)) (fun o V_q hq => ?_)
    obtain ⟨G115, A116, at2_117, tk2_118, fk2_119, rfl, rfl, hW120, hF121, e122, e123, e124, p125, p126, q127⟩ := hq
    have hF128 := Fr_tr hFx hF121 (Fr_sub (by decide)) (Fr_sub (by decide))
    have hS129 := Fx_f hSx hF121 (by decide)
    have hV130 := Fx_f hVx hF121 (by decide)
    have sf131 : wD A116 (sy) (sy1) := wD_fx (Sg_fr (sb := sy1) hF121 (by decide)) (by omega) iv_6
    have bat2_117 : (0 : Int) ≤ at2_117 ∧ at2_117 ≤ 3002 := e122 ▸ hW120.1 10
    have ztk2_118 := tz_b tk2_118
    have btk2_118 : (0 : Int) ≤ tk2_118 ∧ tk2_118 ≤ 5 := e123 ▸ hW120.1 11
    have bfk2_119 : (0 : Int) ≤ fk2_119 ∧ fk2_119 ≤ 6 := e124 ▸ hW120.1 16
    refine .inl ⟨rfl, ?_⟩
    rcases q127 with ⟨a132, a133, a134, a135⟩ | ⟨a136, a137, a138, a139⟩
    · have _q : True := trivial
      refine jx_ld (pc_q := 226) (l_q := L) (st_q := [.ref 66]) rfl (jl_aloadn gL_0) ?_
      refine jx_vr (pc_q := 229) (as := []) (st := []) rfl rfl rfl rfl ⟨rfl, rfl, Nat.le_of_ble_eq_true rfl⟩ rfl rfl (c_endLine (dd := d) (hd := by omega) (hW := hW120)  (ln := ln) (e_ln := show G115 9 = ln from ((hF121.1 9 rfl).trans (fx_9))) (li := li) (e_li := show G115 3 = li from ((hF121.1 3 rfl).trans ((hFx.1 3 rfl).trans (e_li)))) (fk := fk2_119) (e_fk := show G115 16 = fk2_119 from (e124)) (tk0 := tk2_118) (e_tk0 := show G115 11 = tk2_118 from (e123))    (p_0 := by omega)) (fun o V_q hq => ?_)
      obtain ⟨G140, A141, ln2_142, fk2_143, rfl, rfl, hW144, hF145, e146, e147, q148⟩ := hq
      have hF149 := Fr_tr hF128 hF145 (Fr_sub (by decide)) (Fr_sub (by decide))
      have hS150 := Fx_f hS129 hF145 (by decide)
      have hV151 := Fx_f hV130 hF145 (by decide)
      have sf152 : wD A141 (sy) (sy1) := wD_fx (Sg_fr (sb := sy1) hF145 (by decide)) (by omega) sf131
      have bln2_142 : (0 : Int) ≤ ln2_142 ∧ ln2_142 ≤ 3000 := e146 ▸ hW144.1 9
      have bfk2_143 : (0 : Int) ≤ fk2_143 ∧ fk2_143 ≤ 6 := e147 ▸ hW144.1 16
      refine .inl ⟨rfl, ?_⟩
      rcases q148 with ⟨a153, a154, a155, a156, a157⟩ | ⟨a158, a159⟩
      · have _q : True := trivial
        exfalso
        omega
      · have _q : True := trivial
        refine jx_ld (pc_q := 231) (l_q := L) (st_q := [.int (i32 (fr))]) rfl (jl_iload gL_5) ?_
        refine jx_ld (pc_q := 233) (l_q := jSto1 L 7 (.int (i32 (fr)))) (st_q := []) rfl rfl ?_
        obtain ⟨L160, eL160⟩ : ∃ q, q = jSto1 L 7 (.int (i32 (fr))) := ⟨_, rfl⟩
        rw [← eL160]
        have gL160_0 : jGet L160 0 = some (.ref 66) := eL160 ▸ jg_ne (by decide) gL_0 rfl
        have gL160_5 : jGet L160 5 = some (.int (i32 (fr))) := eL160 ▸ jg_ne (by decide) gL_5 rfl
        have gL160_7 : jGet L160 7 = some (.int (i32 (fr))) := eL160 ▸ jg_eq
        refine jx_ld (pc_q := 235) (l_q := L160) (st_q := [.int (i32 (fr))]) rfl (jl_iload gL160_7) ?_
        refine jx_ld (pc_q := 236) (l_q := L160) (st_q := [.ref 66, .int (i32 (fr))]) rfl (jl_aloadn gL160_0) ?_
        refine jr_get (pc_q := 239) (i := 19) (v := .int (i32 (sy1))) rfl rfl (by decide) (rFv_eq (by decide) (show G140 19 = sy1 from ((hF145.1 19 rfl).trans ((hF121.1 19 rfl).trans (ex_sy1))))) rfl ?_
        refine jx_icmp_ge (pc_q := 242) (tg := 261) rfl rfl rfl (Int.le_trans (by decide : (-2147483648 : Int) ≤ -2147483648) rx_fr.1) (Int.le_trans rx_fr.2 (by decide : (2147483647 : Int) ≤ 2147483647)) (Int.le_trans (by decide : (-2147483648 : Int) ≤ 0) b_sy1.1) (Int.le_trans b_sy1.2 (by decide : (202 : Int) ≤ 2147483647)) (fun h161 => ?_) (fun h161 => ?_)
        · have _q := h161
          refine jx_rt (v := none) rfl rfl rfl rfl rfl rfl ?_
          exact ⟨_, _, at2_117, fk2_143, ln2_142, sy1, na1, vi, rfl, rfl, hW144, hF149, hS150, hV151, ((hF145.1 10 rfl).trans (e122)), (e147), (e146), ((hF145.1 19 rfl).trans ((hF121.1 19 rfl).trans (ex_sy1))), ((hF145.1 28 rfl).trans ((hF121.1 28 rfl).trans (ex_na1))), ((hF145.1 29 rfl).trans ((hF121.1 29 rfl).trans (fx_29))), by omega, by omega, by omega, by omega, by omega, by omega, by first | exact Or.inl (⟨by omega, by omega⟩)⟩
        · have _q := h161
          refine jx_ld (pc_q := 243) (l_q := L160) (st_q := [.ref 66]) rfl (jl_aloadn gL160_0) ?_
          refine jx_vr (pc_q := 246) (as := []) (st := []) rfl rfl rfl rfl ⟨rfl, rfl, Nat.le_of_ble_eq_true rfl⟩ rfl rfl (c_bad (dd := d) (hd := by omega) (hW := hW144)  (fk := fk2_143) (e_fk := show G140 16 = fk2_143 from (e147))    ) (fun o V_q hq => ?_)
          obtain ⟨r162, rfl, rfl, b163, q164⟩ := hq
          refine .inr ⟨_, rfl, ?_⟩
          rcases q164 with ⟨rfl, a165⟩ | ⟨rfl, a166⟩
          · have _q : True := trivial
            refine jx_if_ne (pc_q := 249) (tg := 261) rfl rfl rfl (by decide) (by decide) (fun h167 => ?_) (fun h167 => ?_)
            · have _q := h167
              refine jx_rt (v := none) rfl rfl rfl rfl rfl rfl ?_
              exact ⟨_, _, at2_117, fk2_143, ln2_142, sy1, na1, vi, rfl, rfl, hW144, hF149, hS150, hV151, ((hF145.1 10 rfl).trans (e122)), (e147), (e146), ((hF145.1 19 rfl).trans ((hF121.1 19 rfl).trans (ex_sy1))), ((hF145.1 28 rfl).trans ((hF121.1 28 rfl).trans (ex_na1))), ((hF145.1 29 rfl).trans ((hF121.1 29 rfl).trans (fx_29))), by omega, by omega, by omega, by omega, by omega, by omega, by first | exact Or.inl (⟨by omega, by omega⟩)⟩
            · have _q := h167
              exact absurd h167 (by omega)
          · have _q : True := trivial
            exfalso
            omega
    · have _q : True := trivial
      exfalso
      omega
set_option maxRecDepth 20000 in
set_option maxHeartbeats 4000000 in
theorem c_readDeclaration_at_215p {X : jX} {d : Nat} {c0 c1 : jC} {G : Nat → Int} {A : Nat → Nat → Int} {T : jH} {ln le at0 fk tk0 li sy na vi : Int} (hd : 8 ≤ d + 1) (hW : Wk G A) (e_ln : G 9 = ln) (e_le : A 4 (ln).toNat = le) (e_at0 : G 10 = at0) (e_fk : G 16 = fk) (e_tk0 : G 11 = tk0) (e_li : G 3 = li) (e_sy : G 19 = sy) (e_na : G 28 = na) (e_vi : G 29 = vi) (p_0 : at0 ≤ le) (p_1 : ln < li) (p_2 : fk = 0) (p_3 : sy ≤ na + 2) (p_4 : vi ≤ sy) : ∀ (L : jL) (Gx : Nat → Int) (Ax : Nat → Nat → Int) (fr at1 tk1 fk1 sy1 na1 : Int), jGet L 0 = some (.ref 66) → jGet L 5 = some (.int (i32 fr)) → Wk Gx Ax → Fr [9, 10, 11, 12, 13, 14, 16, 17, 18, 19, 28, 29] [6, 7, 8, 9, 10, 11, 12, 14] G A Gx Ax → Fx sr (sy) A Ax → Fx [14] (vi) A Ax → Gx 10 = at1 → Gx 11 = tk1 → Gx 16 = fk1 → Gx 19 = sy1 → Gx 28 = na1 → Gx 9 = ln → Gx 29 = vi → ((-2147483648 : Int) ≤ fr ∧ fr ≤ 2147483647) → (1 ≤ fk1) → (at0 ≤ at1) → (at1 ≤ le) → (fr = sy) → (sy ≤ sy1) → (sy1 ≤ na1 + 2) → wj X d jm294 (215, L, [], rV c0 c1 Gx Ax T) (fun o V_q => ∃ (G_q : Nat → Int) (A_q : Nat → Nat → Int) (at2 : Int) (fk2 : Int) (ln2 : Int) (sy2 : Int) (na2 : Int) (vi2 : Int), V_q = rV c0 c1 G_q A_q T ∧ o = .inl none ∧ Wk G_q A_q ∧ Fr [9, 10, 11, 12, 13, 14, 16, 17, 18, 19, 28, 29] [6, 7, 8, 9, 10, 11, 12, 14] G A G_q A_q ∧ Fx sr (sy) A A_q ∧ Fx [14] (vi) A A_q ∧ G_q 10 = at2 ∧ G_q 16 = fk2 ∧ G_q 9 = ln2 ∧ G_q 19 = sy2 ∧ G_q 28 = na2 ∧ G_q 29 = vi2 ∧ (at0 ≤ at2) ∧ (at2 ≤ le) ∧ (sy ≤ sy2) ∧ (sy2 ≤ na2 + 2) ∧ (vi ≤ vi2) ∧ (vi2 - vi ≤ sy2 - sy) ∧ (((1 ≤ fk2) ∧ (ln2 = ln ∨ ln2 = ln + 1)) ∨ ((fk2 = 0) ∧ (ln2 = ln + 1) ∧ (wD A_q (sy) (sy2)) ∧ (DS A_q (vi) (vi2) (sy) (sy2))))) := by
  have hF0 : Fr [9, 10, 11, 12, 13, 14, 16, 17, 18, 19, 28, 29] [6, 7, 8, 9, 10, 11, 12, 14] G A G A := Fr_rf
  have hS0 : Fx sr (sy) A A := Fx_rf
  have hV0 : Fx [14] (vi) A A := Fx_rf
  have b_ln : (0 : Int) ≤ ln ∧ ln ≤ 3000 := e_ln ▸ hW.1 9
  have b_le : (0 : Int) ≤ le ∧ le ≤ 3000 := e_le ▸ hW.2 4 _
  have b_at0 : (0 : Int) ≤ at0 ∧ at0 ≤ 3002 := e_at0 ▸ hW.1 10
  have b_fk : (0 : Int) ≤ fk ∧ fk ≤ 6 := e_fk ▸ hW.1 16
  have b_tk0 : (0 : Int) ≤ tk0 ∧ tk0 ≤ 5 := e_tk0 ▸ hW.1 11
  have b_li : (0 : Int) ≤ li ∧ li ≤ 3000 := e_li ▸ hW.1 3
  have b_sy : (0 : Int) ≤ sy ∧ sy ≤ 202 := e_sy ▸ hW.1 19
  have b_na : (0 : Int) ≤ na ∧ na ≤ 200 := e_na ▸ hW.1 28
  have b_vi : (0 : Int) ≤ vi ∧ vi ≤ 202 := e_vi ▸ hW.1 29
  intro L Gx Ax fr at1 tk1 fk1 sy1 na1 gL_0 gL_5 hWx hFx hSx hVx ex_at1 ex_tk1 ex_fk1 ex_sy1 ex_na1 fx_9 fx_29 rx_fr iv_0 iv_1 iv_2 iv_3 iv_4 iv_5
  have b_at1 : (0 : Int) ≤ at1 ∧ at1 ≤ 3002 := ex_at1 ▸ hWx.1 10
  have z_tk1 := tz_f tk1
  have b_tk1 : (0 : Int) ≤ tk1 ∧ tk1 ≤ 5 := ex_tk1 ▸ hWx.1 11
  have b_fk1 : (0 : Int) ≤ fk1 ∧ fk1 ≤ 6 := ex_fk1 ▸ hWx.1 16
  have b_sy1 : (0 : Int) ≤ sy1 ∧ sy1 ≤ 202 := ex_sy1 ▸ hWx.1 19
  have b_na1 : (0 : Int) ≤ na1 ∧ na1 ≤ 200 := ex_na1 ▸ hWx.1 28
  refine jx_ld (pc_q := 216) (l_q := L) (st_q := [.ref 66]) rfl (jl_aloadn gL_0) ?_
  refine jx_ld (pc_q := 217) (l_q := L) (st_q := [.ref 66, .ref 66]) rfl (jl_aloadn gL_0) ?_
  refine jx_ar (pc_q := 219) (st_q := [.int (i32 (58)), .ref 66, .ref 66]) rfl rfl rfl rfl ?_
  have b168 : (-2147483648 : Int) ≤ Gx 13 ∧ Gx 13 ≤ 2147483647 := hWx.1 13
  refine jx_vr (pc_q := 222) (as := [.int (i32 (58))]) (st := [.ref 66]) rfl rfl rfl rfl ⟨rfl, rfl, Nat.le_of_ble_eq_true rfl⟩ rfl rfl (c_is (dd := d) (hd := by omega) (hW := hWx) (k := 58) (tk := tk1) (e_tk := show Gx 11 = tk1 from (ex_tk1)) (tn := Gx 13) (e_tn := show Gx 13 = Gx 13 from rfl)  (h_k := ⟨(by decide), (by decide)⟩)  ) (fun o V_q hq => ?_)
  obtain ⟨r169, rfl, rfl, b170, q171⟩ := hq
  refine .inr ⟨_, rfl, ?_⟩
  rcases q171 with ⟨rfl, a172, a173, a174⟩ | rfl
  · have _q : True := trivial
    refine jx_vr (pc_q := 225) (as := [.int (i32 (1))]) (st := []) rfl rfl rfl rfl ⟨rfl, rfl, Nat.le_of_ble_eq_true rfl⟩ rfl rfl (c_need (dd := d) (hd := by omega) (hW := hWx) (g := 1) (ln := ln) (e_ln := show Gx 9 = ln from (fx_9)) (le := le) (e_le := show Ax 4 (ln).toNat = le from (congrFun (hFx.2 4 rfl) _).trans (e_le)) (at0 := at1) (e_at0 := show Gx 10 = at1 from (ex_at1)) (fk := fk1) (e_fk := show Gx 16 = fk1 from (ex_fk1)) (tk0 := tk1) (e_tk0 := show Gx 11 = tk1 from (ex_tk1))  (h_g := ⟨(by decide), (by decide)⟩)  (p_0 := by omega)) (fun o V_q hq => ?_)
    obtain ⟨G175, A176, at2_177, tk2_178, fk2_179, rfl, rfl, hW180, hF181, e182, e183, e184, p185, p186, q187⟩ := hq
    have hF188 := Fr_tr hFx hF181 (Fr_sub (by decide)) (Fr_sub (by decide))
    have hS189 := Fx_f hSx hF181 (by decide)
    have hV190 := Fx_f hVx hF181 (by decide)
    have bat2_177 : (0 : Int) ≤ at2_177 ∧ at2_177 ≤ 3002 := e182 ▸ hW180.1 10
    have ztk2_178 := tz_b tk2_178
    have btk2_178 : (0 : Int) ≤ tk2_178 ∧ tk2_178 ≤ 5 := e183 ▸ hW180.1 11
    have bfk2_179 : (0 : Int) ≤ fk2_179 ∧ fk2_179 ≤ 6 := e184 ▸ hW180.1 16
    refine .inl ⟨rfl, ?_⟩
    rcases q187 with ⟨a191, a192, a193, a194⟩ | ⟨a195, a196, a197, a198⟩
    · have _q : True := trivial
      refine jx_ld (pc_q := 226) (l_q := L) (st_q := [.ref 66]) rfl (jl_aloadn gL_0) ?_
      refine jx_vr (pc_q := 229) (as := []) (st := []) rfl rfl rfl rfl ⟨rfl, rfl, Nat.le_of_ble_eq_true rfl⟩ rfl rfl (c_endLine (dd := d) (hd := by omega) (hW := hW180)  (ln := ln) (e_ln := show G175 9 = ln from ((hF181.1 9 rfl).trans (fx_9))) (li := li) (e_li := show G175 3 = li from ((hF181.1 3 rfl).trans ((hFx.1 3 rfl).trans (e_li)))) (fk := fk2_179) (e_fk := show G175 16 = fk2_179 from (e184)) (tk0 := tk2_178) (e_tk0 := show G175 11 = tk2_178 from (e183))    (p_0 := by omega)) (fun o V_q hq => ?_)
      obtain ⟨G199, A200, ln2_201, fk2_202, rfl, rfl, hW203, hF204, e205, e206, q207⟩ := hq
      have hF208 := Fr_tr hF188 hF204 (Fr_sub (by decide)) (Fr_sub (by decide))
      have hS209 := Fx_f hS189 hF204 (by decide)
      have hV210 := Fx_f hV190 hF204 (by decide)
      have bln2_201 : (0 : Int) ≤ ln2_201 ∧ ln2_201 ≤ 3000 := e205 ▸ hW203.1 9
      have bfk2_202 : (0 : Int) ≤ fk2_202 ∧ fk2_202 ≤ 6 := e206 ▸ hW203.1 16
      refine .inl ⟨rfl, ?_⟩
      rcases q207 with ⟨a211, a212, a213, a214, a215⟩ | ⟨a216, a217⟩
      · have _q : True := trivial
        exfalso
        omega
      · have _q : True := trivial
        refine jx_ld (pc_q := 231) (l_q := L) (st_q := [.int (i32 (fr))]) rfl (jl_iload gL_5) ?_
        refine jx_ld (pc_q := 233) (l_q := jSto1 L 7 (.int (i32 (fr)))) (st_q := []) rfl rfl ?_
        obtain ⟨L218, eL218⟩ : ∃ q, q = jSto1 L 7 (.int (i32 (fr))) := ⟨_, rfl⟩
        rw [← eL218]
        have gL218_0 : jGet L218 0 = some (.ref 66) := eL218 ▸ jg_ne (by decide) gL_0 rfl
        have gL218_5 : jGet L218 5 = some (.int (i32 (fr))) := eL218 ▸ jg_ne (by decide) gL_5 rfl
        have gL218_7 : jGet L218 7 = some (.int (i32 (fr))) := eL218 ▸ jg_eq
        refine jx_ld (pc_q := 235) (l_q := L218) (st_q := [.int (i32 (fr))]) rfl (jl_iload gL218_7) ?_
        refine jx_ld (pc_q := 236) (l_q := L218) (st_q := [.ref 66, .int (i32 (fr))]) rfl (jl_aloadn gL218_0) ?_
        refine jr_get (pc_q := 239) (i := 19) (v := .int (i32 (sy1))) rfl rfl (by decide) (rFv_eq (by decide) (show G199 19 = sy1 from ((hF204.1 19 rfl).trans ((hF181.1 19 rfl).trans (ex_sy1))))) rfl ?_
        refine jx_icmp_ge (pc_q := 242) (tg := 261) rfl rfl rfl (Int.le_trans (by decide : (-2147483648 : Int) ≤ -2147483648) rx_fr.1) (Int.le_trans rx_fr.2 (by decide : (2147483647 : Int) ≤ 2147483647)) (Int.le_trans (by decide : (-2147483648 : Int) ≤ 0) b_sy1.1) (Int.le_trans b_sy1.2 (by decide : (202 : Int) ≤ 2147483647)) (fun h219 => ?_) (fun h219 => ?_)
        · have _q := h219
          refine jx_rt (v := none) rfl rfl rfl rfl rfl rfl ?_
          exact ⟨_, _, at2_177, fk2_202, ln2_201, sy1, na1, vi, rfl, rfl, hW203, hF208, hS209, hV210, ((hF204.1 10 rfl).trans (e182)), (e206), (e205), ((hF204.1 19 rfl).trans ((hF181.1 19 rfl).trans (ex_sy1))), ((hF204.1 28 rfl).trans ((hF181.1 28 rfl).trans (ex_na1))), ((hF204.1 29 rfl).trans ((hF181.1 29 rfl).trans (fx_29))), by omega, by omega, by omega, by omega, by omega, by omega, by first | exact Or.inl (⟨by omega, by omega⟩)⟩
        · have _q := h219
          refine jx_ld (pc_q := 243) (l_q := L218) (st_q := [.ref 66]) rfl (jl_aloadn gL218_0) ?_
          refine jx_vr (pc_q := 246) (as := []) (st := []) rfl rfl rfl rfl ⟨rfl, rfl, Nat.le_of_ble_eq_true rfl⟩ rfl rfl (c_bad (dd := d) (hd := by omega) (hW := hW203)  (fk := fk2_202) (e_fk := show G199 16 = fk2_202 from (e206))    ) (fun o V_q hq => ?_)
          obtain ⟨r220, rfl, rfl, b221, q222⟩ := hq
          refine .inr ⟨_, rfl, ?_⟩
          rcases q222 with ⟨rfl, a223⟩ | ⟨rfl, a224⟩
          · have _q : True := trivial
            refine jx_if_ne (pc_q := 249) (tg := 261) rfl rfl rfl (by decide) (by decide) (fun h225 => ?_) (fun h225 => ?_)
            · have _q := h225
              refine jx_rt (v := none) rfl rfl rfl rfl rfl rfl ?_
              exact ⟨_, _, at2_177, fk2_202, ln2_201, sy1, na1, vi, rfl, rfl, hW203, hF208, hS209, hV210, ((hF204.1 10 rfl).trans (e182)), (e206), (e205), ((hF204.1 19 rfl).trans ((hF181.1 19 rfl).trans (ex_sy1))), ((hF204.1 28 rfl).trans ((hF181.1 28 rfl).trans (ex_na1))), ((hF204.1 29 rfl).trans ((hF181.1 29 rfl).trans (fx_29))), by omega, by omega, by omega, by omega, by omega, by omega, by first | exact Or.inl (⟨by omega, by omega⟩)⟩
            · have _q := h225
              exact absurd h225 (by omega)
          · have _q : True := trivial
            exfalso
            omega
    · have _q : True := trivial
      exfalso
      omega
  · have _q : True := trivial
    refine jx_vr (pc_q := 225) (as := [.int (i32 (0))]) (st := []) rfl rfl rfl rfl ⟨rfl, rfl, Nat.le_of_ble_eq_true rfl⟩ rfl rfl (c_need (dd := d) (hd := by omega) (hW := hWx) (g := 0) (ln := ln) (e_ln := show Gx 9 = ln from (fx_9)) (le := le) (e_le := show Ax 4 (ln).toNat = le from (congrFun (hFx.2 4 rfl) _).trans (e_le)) (at0 := at1) (e_at0 := show Gx 10 = at1 from (ex_at1)) (fk := fk1) (e_fk := show Gx 16 = fk1 from (ex_fk1)) (tk0 := tk1) (e_tk0 := show Gx 11 = tk1 from (ex_tk1))  (h_g := ⟨(by decide), (by decide)⟩)  (p_0 := by omega)) (fun o V_q hq => ?_)
    obtain ⟨G226, A227, at2_228, tk2_229, fk2_230, rfl, rfl, hW231, hF232, e233, e234, e235, p236, p237, q238⟩ := hq
    have hF239 := Fr_tr hFx hF232 (Fr_sub (by decide)) (Fr_sub (by decide))
    have hS240 := Fx_f hSx hF232 (by decide)
    have hV241 := Fx_f hVx hF232 (by decide)
    have bat2_228 : (0 : Int) ≤ at2_228 ∧ at2_228 ≤ 3002 := e233 ▸ hW231.1 10
    have ztk2_229 := tz_b tk2_229
    have btk2_229 : (0 : Int) ≤ tk2_229 ∧ tk2_229 ≤ 5 := e234 ▸ hW231.1 11
    have bfk2_230 : (0 : Int) ≤ fk2_230 ∧ fk2_230 ≤ 6 := e235 ▸ hW231.1 16
    refine .inl ⟨rfl, ?_⟩
    rcases q238 with ⟨a242, a243, a244, a245⟩ | ⟨a246, a247, a248, a249⟩
    · have _q : True := trivial
      refine jx_ld (pc_q := 226) (l_q := L) (st_q := [.ref 66]) rfl (jl_aloadn gL_0) ?_
      refine jx_vr (pc_q := 229) (as := []) (st := []) rfl rfl rfl rfl ⟨rfl, rfl, Nat.le_of_ble_eq_true rfl⟩ rfl rfl (c_endLine (dd := d) (hd := by omega) (hW := hW231)  (ln := ln) (e_ln := show G226 9 = ln from ((hF232.1 9 rfl).trans (fx_9))) (li := li) (e_li := show G226 3 = li from ((hF232.1 3 rfl).trans ((hFx.1 3 rfl).trans (e_li)))) (fk := fk2_230) (e_fk := show G226 16 = fk2_230 from (e235)) (tk0 := tk2_229) (e_tk0 := show G226 11 = tk2_229 from (e234))    (p_0 := by omega)) (fun o V_q hq => ?_)
      obtain ⟨G250, A251, ln2_252, fk2_253, rfl, rfl, hW254, hF255, e256, e257, q258⟩ := hq
      have hF259 := Fr_tr hF239 hF255 (Fr_sub (by decide)) (Fr_sub (by decide))
      have hS260 := Fx_f hS240 hF255 (by decide)
      have hV261 := Fx_f hV241 hF255 (by decide)
      have bln2_252 : (0 : Int) ≤ ln2_252 ∧ ln2_252 ≤ 3000 := e256 ▸ hW254.1 9
      have bfk2_253 : (0 : Int) ≤ fk2_253 ∧ fk2_253 ≤ 6 := e257 ▸ hW254.1 16
      refine .inl ⟨rfl, ?_⟩
      rcases q258 with ⟨a262, a263, a264, a265, a266⟩ | ⟨a267, a268⟩
      · have _q : True := trivial
        exfalso
        omega
      · have _q : True := trivial
        refine jx_ld (pc_q := 231) (l_q := L) (st_q := [.int (i32 (fr))]) rfl (jl_iload gL_5) ?_
        refine jx_ld (pc_q := 233) (l_q := jSto1 L 7 (.int (i32 (fr)))) (st_q := []) rfl rfl ?_
        obtain ⟨L269, eL269⟩ : ∃ q, q = jSto1 L 7 (.int (i32 (fr))) := ⟨_, rfl⟩
        rw [← eL269]
        have gL269_0 : jGet L269 0 = some (.ref 66) := eL269 ▸ jg_ne (by decide) gL_0 rfl
        have gL269_5 : jGet L269 5 = some (.int (i32 (fr))) := eL269 ▸ jg_ne (by decide) gL_5 rfl
        have gL269_7 : jGet L269 7 = some (.int (i32 (fr))) := eL269 ▸ jg_eq
        refine jx_ld (pc_q := 235) (l_q := L269) (st_q := [.int (i32 (fr))]) rfl (jl_iload gL269_7) ?_
        refine jx_ld (pc_q := 236) (l_q := L269) (st_q := [.ref 66, .int (i32 (fr))]) rfl (jl_aloadn gL269_0) ?_
        refine jr_get (pc_q := 239) (i := 19) (v := .int (i32 (sy1))) rfl rfl (by decide) (rFv_eq (by decide) (show G250 19 = sy1 from ((hF255.1 19 rfl).trans ((hF232.1 19 rfl).trans (ex_sy1))))) rfl ?_
        refine jx_icmp_ge (pc_q := 242) (tg := 261) rfl rfl rfl (Int.le_trans (by decide : (-2147483648 : Int) ≤ -2147483648) rx_fr.1) (Int.le_trans rx_fr.2 (by decide : (2147483647 : Int) ≤ 2147483647)) (Int.le_trans (by decide : (-2147483648 : Int) ≤ 0) b_sy1.1) (Int.le_trans b_sy1.2 (by decide : (202 : Int) ≤ 2147483647)) (fun h270 => ?_) (fun h270 => ?_)
        · have _q := h270
          refine jx_rt (v := none) rfl rfl rfl rfl rfl rfl ?_
          exact ⟨_, _, at2_228, fk2_253, ln2_252, sy1, na1, vi, rfl, rfl, hW254, hF259, hS260, hV261, ((hF255.1 10 rfl).trans (e233)), (e257), (e256), ((hF255.1 19 rfl).trans ((hF232.1 19 rfl).trans (ex_sy1))), ((hF255.1 28 rfl).trans ((hF232.1 28 rfl).trans (ex_na1))), ((hF255.1 29 rfl).trans ((hF232.1 29 rfl).trans (fx_29))), by omega, by omega, by omega, by omega, by omega, by omega, by first | exact Or.inl (⟨by omega, by omega⟩)⟩
        · have _q := h270
          refine jx_ld (pc_q := 243) (l_q := L269) (st_q := [.ref 66]) rfl (jl_aloadn gL269_0) ?_
          refine jx_vr (pc_q := 246) (as := []) (st := []) rfl rfl rfl rfl ⟨rfl, rfl, Nat.le_of_ble_eq_true rfl⟩ rfl rfl (c_bad (dd := d) (hd := by omega) (hW := hW254)  (fk := fk2_253) (e_fk := show G250 16 = fk2_253 from (e257))    ) (fun o V_q hq => ?_)
          obtain ⟨r271, rfl, rfl, b272, q273⟩ := hq
          refine .inr ⟨_, rfl, ?_⟩
          rcases q273 with ⟨rfl, a274⟩ | ⟨rfl, a275⟩
          · have _q : True := trivial
            refine jx_if_ne (pc_q := 249) (tg := 261) rfl rfl rfl (by decide) (by decide) (fun h276 => ?_) (fun h276 => ?_)
            · have _q := h276
              refine jx_rt (v := none) rfl rfl rfl rfl rfl rfl ?_
              exact ⟨_, _, at2_228, fk2_253, ln2_252, sy1, na1, vi, rfl, rfl, hW254, hF259, hS260, hV261, ((hF255.1 10 rfl).trans (e233)), (e257), (e256), ((hF255.1 19 rfl).trans ((hF232.1 19 rfl).trans (ex_sy1))), ((hF255.1 28 rfl).trans ((hF232.1 28 rfl).trans (ex_na1))), ((hF255.1 29 rfl).trans ((hF232.1 29 rfl).trans (fx_29))), by omega, by omega, by omega, by omega, by omega, by omega, by first | exact Or.inl (⟨by omega, by omega⟩)⟩
            · have _q := h276
              exact absurd h276 (by omega)
          · have _q : True := trivial
            exfalso
            omega
    · have _q : True := trivial
      exfalso
      omega
set_option maxRecDepth 20000 in
set_option maxHeartbeats 4000000 in
theorem c_readDeclaration_at_100 {X : jX} {d : Nat} {c0 c1 : jC} {G : Nat → Int} {A : Nat → Nat → Int} {T : jH} {ln le at0 fk tk0 li sy na vi : Int} (hd : 8 ≤ d + 1) (hW : Wk G A) (e_ln : G 9 = ln) (e_le : A 4 (ln).toNat = le) (e_at0 : G 10 = at0) (e_fk : G 16 = fk) (e_tk0 : G 11 = tk0) (e_li : G 3 = li) (e_sy : G 19 = sy) (e_na : G 28 = na) (e_vi : G 29 = vi) (p_0 : at0 ≤ le) (p_1 : ln < li) (p_2 : fk = 0) (p_3 : sy ≤ na + 2) (p_4 : vi ≤ sy) : ∀ (m : Nat) (L : jL) (Gx : Nat → Int) (Ax : Nat → Nat → Int) (many row kd fr more at1 tk1 fk1 sy1 na1 : Int), (6010 - (2 * at1 - tz tk1)).toNat = m → jGet L 0 = some (.ref 66) → jGet L 1 = some (.int (i32 many)) → jGet L 2 = some (.int (i32 row)) → jGet L 4 = some (.int (i32 kd)) → jGet L 5 = some (.int (i32 fr)) → jGet L 6 = some (.int (i32 more)) → Wk Gx Ax → Fr [9, 10, 11, 12, 13, 14, 16, 17, 18, 19, 28, 29] [6, 7, 8, 9, 10, 11, 12, 14] G A Gx Ax → Fx sr (sy) A Ax → Fx [14] (vi) A Ax → Gx 10 = at1 → Gx 11 = tk1 → Gx 16 = fk1 → Gx 19 = sy1 → Gx 28 = na1 → Gx 9 = ln → Gx 29 = vi → ((-2147483648 : Int) ≤ many ∧ many ≤ 2147483647) → ((-2147483648 : Int) ≤ row ∧ row ≤ 2147483647) → ((-2147483648 : Int) ≤ kd ∧ kd ≤ 2147483647) → ((-2147483648 : Int) ≤ fr ∧ fr ≤ 2147483647) → ((-2147483648 : Int) ≤ more ∧ more ≤ 2147483647) → (fk1 = 0) → (at0 ≤ at1) → (at1 ≤ le) → (fr = sy) → (sy ≤ sy1) → (sy1 ≤ na1 + 2) → (0 ≤ more ∧ more ≤ 1) → ((row = 1 ∧ 1 ≤ many ∧ many ≤ 64 ∧ (kd = 2 ∨ kd = 4)) ∨ (row = 0 ∧ (kd = 1 ∨ kd = 3))) → (wD Ax (sy) (sy1)) → wj X d jm294 (100, L, [], rV c0 c1 Gx Ax T) (fun o V_q => ∃ (G_q : Nat → Int) (A_q : Nat → Nat → Int) (at2 : Int) (fk2 : Int) (ln2 : Int) (sy2 : Int) (na2 : Int) (vi2 : Int), V_q = rV c0 c1 G_q A_q T ∧ o = .inl none ∧ Wk G_q A_q ∧ Fr [9, 10, 11, 12, 13, 14, 16, 17, 18, 19, 28, 29] [6, 7, 8, 9, 10, 11, 12, 14] G A G_q A_q ∧ Fx sr (sy) A A_q ∧ Fx [14] (vi) A A_q ∧ G_q 10 = at2 ∧ G_q 16 = fk2 ∧ G_q 9 = ln2 ∧ G_q 19 = sy2 ∧ G_q 28 = na2 ∧ G_q 29 = vi2 ∧ (at0 ≤ at2) ∧ (at2 ≤ le) ∧ (sy ≤ sy2) ∧ (sy2 ≤ na2 + 2) ∧ (vi ≤ vi2) ∧ (vi2 - vi ≤ sy2 - sy) ∧ (((1 ≤ fk2) ∧ (ln2 = ln ∨ ln2 = ln + 1)) ∨ ((fk2 = 0) ∧ (ln2 = ln + 1) ∧ (wD A_q (sy) (sy2)) ∧ (DS A_q (vi) (vi2) (sy) (sy2))))) := by
  have hF0 : Fr [9, 10, 11, 12, 13, 14, 16, 17, 18, 19, 28, 29] [6, 7, 8, 9, 10, 11, 12, 14] G A G A := Fr_rf
  have hS0 : Fx sr (sy) A A := Fx_rf
  have hV0 : Fx [14] (vi) A A := Fx_rf
  have b_ln : (0 : Int) ≤ ln ∧ ln ≤ 3000 := e_ln ▸ hW.1 9
  have b_le : (0 : Int) ≤ le ∧ le ≤ 3000 := e_le ▸ hW.2 4 _
  have b_at0 : (0 : Int) ≤ at0 ∧ at0 ≤ 3002 := e_at0 ▸ hW.1 10
  have b_fk : (0 : Int) ≤ fk ∧ fk ≤ 6 := e_fk ▸ hW.1 16
  have b_tk0 : (0 : Int) ≤ tk0 ∧ tk0 ≤ 5 := e_tk0 ▸ hW.1 11
  have b_li : (0 : Int) ≤ li ∧ li ≤ 3000 := e_li ▸ hW.1 3
  have b_sy : (0 : Int) ≤ sy ∧ sy ≤ 202 := e_sy ▸ hW.1 19
  have b_na : (0 : Int) ≤ na ∧ na ≤ 200 := e_na ▸ hW.1 28
  have b_vi : (0 : Int) ≤ vi ∧ vi ≤ 202 := e_vi ▸ hW.1 29
  intro m
  induction m using Nat.strongRecOn with
  | ind m ih100 =>
    intro L Gx Ax many row kd fr more at1 tk1 fk1 sy1 na1 hm gL_0 gL_1 gL_2 gL_4 gL_5 gL_6 hWx hFx hSx hVx ex_at1 ex_tk1 ex_fk1 ex_sy1 ex_na1 fx_9 fx_29 rx_many rx_row rx_kd rx_fr rx_more iv_0 iv_1 iv_2 iv_3 iv_4 iv_5 iv_6 iv_7 iv_8
    have b_at1 : (0 : Int) ≤ at1 ∧ at1 ≤ 3002 := ex_at1 ▸ hWx.1 10
    have z_tk1 := tz_f tk1
    have b_tk1 : (0 : Int) ≤ tk1 ∧ tk1 ≤ 5 := ex_tk1 ▸ hWx.1 11
    have b_fk1 : (0 : Int) ≤ fk1 ∧ fk1 ≤ 6 := ex_fk1 ▸ hWx.1 16
    have b_sy1 : (0 : Int) ≤ sy1 ∧ sy1 ≤ 202 := ex_sy1 ▸ hWx.1 19
    have b_na1 : (0 : Int) ≤ na1 ∧ na1 ≤ 200 := ex_na1 ▸ hWx.1 28
    have at_134 : ∀ (m : Nat) (L : jL) (Gx : Nat → Int) (Ax : Nat → Nat → Int) (many row kd fr s7 at3 tk3 fk3 : Int), (sy1 - s7).toNat = m → jGet L 0 = some (.ref 66) → jGet L 1 = some (.int (i32 many)) → jGet L 2 = some (.int (i32 row)) → jGet L 4 = some (.int (i32 kd)) → jGet L 5 = some (.int (i32 fr)) → jGet L 7 = some (.int (i32 s7)) → Wk Gx Ax → Fr [9, 10, 11, 12, 13, 14, 16, 17, 18, 19, 28, 29] [6, 7, 8, 9, 10, 11, 12, 14] G A Gx Ax → Fx sr (sy) A Ax → Fx [14] (vi) A Ax → Gx 10 = at3 → Gx 11 = tk3 → Gx 16 = fk3 → Gx 9 = ln → Gx 29 = vi → Gx 19 = sy1 → Gx 28 = na1 → ((-2147483648 : Int) ≤ many ∧ many ≤ 2147483647) → ((-2147483648 : Int) ≤ row ∧ row ≤ 2147483647) → ((-2147483648 : Int) ≤ kd ∧ kd ≤ 2147483647) → ((-2147483648 : Int) ≤ fr ∧ fr ≤ 2147483647) → ((-2147483648 : Int) ≤ s7 ∧ s7 ≤ 2147483647) → (tk1 = 1) → (fk1 = 0) → (at3 = at1) → (tk3 = tk1) → (tz tk3 = tz tk1) → (fr = sy) → (sy ≤ s7 ∧ s7 ≤ sy1) → ((row = 1 ∧ 1 ≤ many ∧ many ≤ 64 ∧ (kd = 2 ∨ kd = 4)) ∨ (row = 0 ∧ (kd = 1 ∨ kd = 3))) → (wD Ax (sy) (sy1)) → wj X d jm294 (134, L, [], rV c0 c1 Gx Ax T) (fun o V_q => ∃ (G_q : Nat → Int) (A_q : Nat → Nat → Int) (at2 : Int) (fk2 : Int) (ln2 : Int) (sy2 : Int) (na2 : Int) (vi2 : Int), V_q = rV c0 c1 G_q A_q T ∧ o = .inl none ∧ Wk G_q A_q ∧ Fr [9, 10, 11, 12, 13, 14, 16, 17, 18, 19, 28, 29] [6, 7, 8, 9, 10, 11, 12, 14] G A G_q A_q ∧ Fx sr (sy) A A_q ∧ Fx [14] (vi) A A_q ∧ G_q 10 = at2 ∧ G_q 16 = fk2 ∧ G_q 9 = ln2 ∧ G_q 19 = sy2 ∧ G_q 28 = na2 ∧ G_q 29 = vi2 ∧ (at0 ≤ at2) ∧ (at2 ≤ le) ∧ (sy ≤ sy2) ∧ (sy2 ≤ na2 + 2) ∧ (vi ≤ vi2) ∧ (vi2 - vi ≤ sy2 - sy) ∧ (((1 ≤ fk2) ∧ (ln2 = ln ∨ ln2 = ln + 1)) ∨ ((fk2 = 0) ∧ (ln2 = ln + 1) ∧ (wD A_q (sy) (sy2)) ∧ (DS A_q (vi) (vi2) (sy) (sy2))))) := by
      intro m
      induction m using Nat.strongRecOn with
      | ind m ih134 =>
        intro L Gx Ax many row kd fr s7 at3 tk3 fk3 hm gL_0 gL_1 gL_2 gL_4 gL_5 gL_7 hWx hFx hSx hVx ex_at3 ex_tk3 ex_fk3 fx_9 fx_29 fx_19 fx_28 rx_many rx_row rx_kd rx_fr rx_s7 iv_0 iv_1 iv_2 iv_3 iv_4 iv_5 iv_6 iv_7 iv_8
        have b_at3 : (0 : Int) ≤ at3 ∧ at3 ≤ 3002 := ex_at3 ▸ hWx.1 10
        have z_tk3 := tz_f tk3
        have b_tk3 : (0 : Int) ≤ tk3 ∧ tk3 ≤ 5 := ex_tk3 ▸ hWx.1 11
        have b_fk3 : (0 : Int) ≤ fk3 ∧ fk3 ≤ 6 := ex_fk3 ▸ hWx.1 16
        refine jx_ld (pc_q := 136) (l_q := L) (st_q := [.int (i32 (s7))]) rfl (jl_iload gL_7) ?_
        refine jx_ld (pc_q := 137) (l_q := L) (st_q := [.ref 66, .int (i32 (s7))]) rfl (jl_aloadn gL_0) ?_
        refine jr_get (pc_q := 140) (i := 19) (v := .int (i32 (sy1))) rfl rfl (by decide) (rFv_eq (by decide) (show Gx 19 = sy1 from (fx_19))) rfl ?_
        refine jx_icmp_ge (pc_q := 143) (tg := 173) rfl rfl rfl (Int.le_trans (by decide : (-2147483648 : Int) ≤ -2147483648) rx_s7.1) (Int.le_trans rx_s7.2 (by decide : (2147483647 : Int) ≤ 2147483647)) (by omega) (by omega) (fun h277 => ?_) (fun h277 => ?_)
        · have _q := h277
          refine jx_ld (pc_q := 174) (l_q := L) (st_q := [.ref 66]) rfl (jl_aloadn gL_0) ?_
          refine jx_ld (pc_q := 176) (l_q := L) (st_q := [.int (i32 (kd)), .ref 66]) rfl (jl_iload gL_4) ?_
          refine jx_ld (pc_q := 177) (l_q := L) (st_q := [.int (i32 (row)), .int (i32 (kd)), .ref 66]) rfl (jl_iloadn gL_2) ?_
          refine jx_if_eq (pc_q := 180) (tg := 184) rfl rfl rfl (Int.le_trans (by decide : (-2147483648 : Int) ≤ -2147483648) rx_row.1) (Int.le_trans rx_row.2 (by decide : (2147483647 : Int) ≤ 2147483647)) (fun h278 => ?_) (fun h278 => ?_)
          · have _q := h278
            refine jx_ar (pc_q := 185) (st_q := [.int (i32 (1)), .int (i32 (kd)), .ref 66]) rfl rfl rfl rfl ?_
            refine jx_vr (pc_q := 188) (as := [.int (i32 (kd)), .int (i32 (1))]) (st := []) rfl rfl rfl rfl ⟨rfl, rfl, Nat.le_of_ble_eq_true rfl⟩ rfl rfl (c_newName (dd := d) (hd := by omega) (hW := hWx) (kind := kd) (many := 1) (sy := sy1) (e_sy := show Gx 19 = sy1 from (fx_19)) (na := na1) (e_na := show Gx 28 = na1 from (fx_28)) (fk := fk3) (e_fk := show Gx 16 = fk3 from (ex_fk3))  (h_kind := ⟨(Int.le_trans (by decide : (-2147483648 : Int) ≤ -2147483648) rx_kd.1), (Int.le_trans rx_kd.2 (by decide : (2147483647 : Int) ≤ 2147483647))⟩) (h_many := ⟨(by decide), (by decide)⟩)  (p_0 := by omega) (p_1 := by omega)) (fun o V_q hq => ?_)
            obtain ⟨G279, A280, r281, sy2_282, na2_283, fk2_284, yk2_285, rfl, rfl, hW286, hF287, hQ288, b289, e290, e291, e292, e293, q294⟩ := hq
            have hF295 := Fr_tr hFx hF287 (Fr_sub (by decide)) (Fr_sub (by decide))
            have hS296 := Fx_tr hSx hQ288 (by omega)
            have hV297 := Fx_f hVx hF287 (by decide)
            have sf298 : wD A280 (sy) (sy1) := wD_fx hQ288 (by omega) iv_8
            have bsy2_282 : (0 : Int) ≤ sy2_282 ∧ sy2_282 ≤ 202 := e290 ▸ hW286.1 19
            have bna2_283 : (0 : Int) ≤ na2_283 ∧ na2_283 ≤ 200 := e291 ▸ hW286.1 28
            have bfk2_284 : (0 : Int) ≤ fk2_284 ∧ fk2_284 ≤ 6 := e292 ▸ hW286.1 16
            have byk2_285 : (0 : Int) ≤ yk2_285 ∧ yk2_285 ≤ 14 := e293 ▸ hW286.2 7 _
            refine .inr ⟨_, rfl, ?_⟩
            rcases q294 with ⟨a305, a299, a300, a301, a302, a303, a304⟩ | ⟨rfl, a306, a307, a308⟩
            · have _q : True := trivial
              rw [a305]
              refine jx_ld (pc_q := 190) (l_q := jSto1 L 7 (.int (i32 (sy1)))) (st_q := []) rfl rfl ?_
              obtain ⟨L309, eL309⟩ : ∃ q, q = jSto1 L 7 (.int (i32 (sy1))) := ⟨_, rfl⟩
              rw [← eL309]
              have gL309_0 : jGet L309 0 = some (.ref 66) := eL309 ▸ jg_ne (by decide) gL_0 rfl
              have gL309_1 : jGet L309 1 = some (.int (i32 (many))) := eL309 ▸ jg_ne (by decide) gL_1 rfl
              have gL309_2 : jGet L309 2 = some (.int (i32 (row))) := eL309 ▸ jg_ne (by decide) gL_2 rfl
              have gL309_4 : jGet L309 4 = some (.int (i32 (kd))) := eL309 ▸ jg_ne (by decide) gL_4 rfl
              have gL309_5 : jGet L309 5 = some (.int (i32 (fr))) := eL309 ▸ jg_ne (by decide) gL_5 rfl
              have gL309_7 : jGet L309 7 = some (.int (i32 (sy1))) := eL309 ▸ jg_eq
              refine jx_ld (pc_q := 191) (l_q := L309) (st_q := [.ref 66]) rfl (jl_aloadn gL309_0) ?_
              refine jx_ar (pc_q := 192) (st_q := [.int (i32 (1)), .ref 66]) rfl rfl rfl rfl ?_
              refine jx_vr (pc_q := 195) (as := [.int (i32 (1))]) (st := []) rfl rfl rfl rfl ⟨rfl, rfl, Nat.le_of_ble_eq_true rfl⟩ rfl rfl (c_need (dd := d) (hd := by omega) (hW := hW286) (g := 1) (ln := ln) (e_ln := show G279 9 = ln from ((hF287.1 9 rfl).trans (fx_9))) (le := le) (e_le := show A280 4 (ln).toNat = le from (congrFun ((hF287.2 4 rfl).trans (hFx.2 4 rfl)) _).trans (e_le)) (at0 := at3) (e_at0 := show G279 10 = at3 from ((hF287.1 10 rfl).trans (ex_at3))) (fk := fk2_284) (e_fk := show G279 16 = fk2_284 from (e292)) (tk0 := tk3) (e_tk0 := show G279 11 = tk3 from ((hF287.1 11 rfl).trans (ex_tk3)))  (h_g := ⟨(by decide), (by decide)⟩)  (p_0 := by omega)) (fun o V_q hq => ?_)
              obtain ⟨G310, A311, at2_312, tk2_313, fk2_314, rfl, rfl, hW315, hF316, e317, e318, e319, p320, p321, q322⟩ := hq
              have hF323 := Fr_tr hF295 hF316 (Fr_sub (by decide)) (Fr_sub (by decide))
              have hS324 := Fx_f hS296 hF316 (by decide)
              have hV325 := Fx_f hV297 hF316 (by decide)
              have sf326 : wD A311 (sy) (sy1) := wD_fx (Sg_fr (sb := sy1) hF316 (by decide)) (by omega) sf298
              have sf327 : YD A311 (sy1) (kd) (1) := YD_fx (by omega) (by omega) (Sg_fr (sb := sy1 + 1) hF316 (by decide)) a304
              have bat2_312 : (0 : Int) ≤ at2_312 ∧ at2_312 ≤ 3002 := e317 ▸ hW315.1 10
              have ztk2_313 := tz_b tk2_313
              have btk2_313 : (0 : Int) ≤ tk2_313 ∧ tk2_313 ≤ 5 := e318 ▸ hW315.1 11
              have bfk2_314 : (0 : Int) ≤ fk2_314 ∧ fk2_314 ≤ 6 := e319 ▸ hW315.1 16
              refine .inl ⟨rfl, ?_⟩
              rcases q322 with ⟨a328, a329, a330, a331⟩ | ⟨a332, a333, a334, a335⟩
              · have _q : True := trivial
                refine jx_ld (pc_q := 196) (l_q := L309) (st_q := [.ref 66]) rfl (jl_aloadn gL309_0) ?_
                refine jx_ar (pc_q := 198) (st_q := [.int (i32 (44)), .ref 66]) rfl rfl rfl rfl ?_
                have b336 : (-2147483648 : Int) ≤ G310 13 ∧ G310 13 ≤ 2147483647 := hW315.1 13
                refine jx_vr (pc_q := 201) (as := [.int (i32 (44))]) (st := []) rfl rfl rfl rfl ⟨rfl, rfl, Nat.le_of_ble_eq_true rfl⟩ rfl rfl (c_is (dd := d) (hd := by omega) (hW := hW315) (k := 44) (tk := tk2_313) (e_tk := show G310 11 = tk2_313 from (e318)) (tn := G310 13) (e_tn := show G310 13 = G310 13 from rfl)  (h_k := ⟨(by decide), (by decide)⟩)  ) (fun o V_q hq => ?_)
                obtain ⟨r337, rfl, rfl, b338, q339⟩ := hq
                refine .inr ⟨_, rfl, ?_⟩
                rcases q339 with ⟨rfl, a340, a341, a342⟩ | rfl
                · have _q : True := trivial
                  refine jx_ld (pc_q := 203) (l_q := jSto1 L309 6 (.int (i32 (1)))) (st_q := []) rfl rfl ?_
                  obtain ⟨L343, eL343⟩ : ∃ q, q = jSto1 L309 6 (.int (i32 (1))) := ⟨_, rfl⟩
                  rw [← eL343]
                  have gL343_0 : jGet L343 0 = some (.ref 66) := eL343 ▸ jg_ne (by decide) gL309_0 rfl
                  have gL343_1 : jGet L343 1 = some (.int (i32 (many))) := eL343 ▸ jg_ne (by decide) gL309_1 rfl
                  have gL343_2 : jGet L343 2 = some (.int (i32 (row))) := eL343 ▸ jg_ne (by decide) gL309_2 rfl
                  have gL343_4 : jGet L343 4 = some (.int (i32 (kd))) := eL343 ▸ jg_ne (by decide) gL309_4 rfl
                  have gL343_5 : jGet L343 5 = some (.int (i32 (fr))) := eL343 ▸ jg_ne (by decide) gL309_5 rfl
                  have gL343_7 : jGet L343 7 = some (.int (i32 (sy1))) := eL343 ▸ jg_ne (by decide) gL309_7 rfl
                  have gL343_6 : jGet L343 6 = some (.int (i32 (1))) := eL343 ▸ jg_eq
                  refine jx_ld (pc_q := 205) (l_q := L343) (st_q := [.int (i32 (1))]) rfl (jl_iload gL343_6) ?_
                  refine jx_if_eq (pc_q := 208) (tg := 212) rfl rfl rfl (by decide) (by decide) (fun h344 => ?_) (fun h344 => ?_)
                  · have _q := h344
                    exact absurd h344 (by omega)
                  · have _q := h344
                    refine jx_ld (pc_q := 209) (l_q := L343) (st_q := [.ref 66]) rfl (jl_aloadn gL343_0) ?_
                    refine jx_vr (pc_q := 212) (as := []) (st := []) rfl rfl rfl rfl ⟨rfl, rfl, Nat.le_of_ble_eq_true rfl⟩ rfl rfl (c_next (dd := d) (hd := by omega) (hW := hW315)  (ln := ln) (e_ln := show G310 9 = ln from ((hF316.1 9 rfl).trans ((hF287.1 9 rfl).trans (fx_9)))) (le := le) (e_le := show A311 4 (ln).toNat = le from (congrFun ((hF316.2 4 rfl).trans ((hF287.2 4 rfl).trans (hFx.2 4 rfl))) _).trans (e_le)) (at0 := at2_312) (e_at0 := show G310 10 = at2_312 from (e317))    (p_0 := by omega)) (fun o V_q hq => ?_)
                    obtain ⟨G345, A346, at2_347, tk2_348, rfl, rfl, hW349, hF350, e351, e352, p353, p354, p355, -⟩ := hq
                    have hF357 := Fr_tr hF323 hF350 (Fr_sub (by decide)) (Fr_sub (by decide))
                    have hS358 := Fx_f hS324 hF350 (by decide)
                    have hV359 := Fx_f hV325 hF350 (by decide)
                    have sf360 : wD A346 (sy) (sy1) := wD_fx (Sg_fr (sb := sy1) hF350 (by decide)) (by omega) sf326
                    have sf361 : YD A346 (sy1) (kd) (1) := YD_fx (by omega) (by omega) (Sg_fr (sb := sy1 + 1) hF350 (by decide)) sf327
                    have bat2_347 : (0 : Int) ≤ at2_347 ∧ at2_347 ≤ 3002 := e351 ▸ hW349.1 10
                    have ztk2_348 := tz_b tk2_348
                    have btk2_348 : (0 : Int) ≤ tk2_348 ∧ tk2_348 ≤ 5 := e352 ▸ hW349.1 11
                    refine .inl ⟨rfl, ?_⟩
                    refine jx_go (tg := 100) rfl rfl ?_
                    refine jx_ld (pc_q := 101) (l_q := L343) (st_q := [.ref 66]) rfl (jl_aloadn gL343_0) ?_
                    refine jx_vr (pc_q := 104) (as := []) (st := []) rfl rfl rfl rfl ⟨rfl, rfl, Nat.le_of_ble_eq_true rfl⟩ rfl rfl (c_bad (dd := d) (hd := by omega) (hW := hW349)  (fk := fk2_314) (e_fk := show G345 16 = fk2_314 from ((hF350.1 16 rfl).trans (e319)))    ) (fun o V_q hq => ?_)
                    obtain ⟨r362, rfl, rfl, b363, q364⟩ := hq
                    refine .inr ⟨_, rfl, ?_⟩
                    rcases q364 with ⟨rfl, a365⟩ | ⟨rfl, a366⟩
                    · have _q : True := trivial
                      refine jx_if_ne (pc_q := 107) (tg := 215) rfl rfl rfl (by decide) (by decide) (fun h367 => ?_) (fun h367 => ?_)
                      · have _q := h367
                        have z368 := tz_f (tk2_348)
                        exact c_readDeclaration_at_215p (X := X) (d := d) (c0 := c0) (c1 := c1) (G := G) (A := A) (T := T) (ln := ln) (le := le) (at0 := at0) (fk := fk) (tk0 := tk0) (li := li) (sy := sy) (na := na) (vi := vi) (hd := hd) (hW := hW) (e_ln := e_ln) (e_le := e_le) (e_at0 := e_at0) (e_fk := e_fk) (e_tk0 := e_tk0) (e_li := e_li) (e_sy := e_sy) (e_na := e_na) (e_vi := e_vi) (p_0 := p_0) (p_1 := p_1) (p_2 := p_2) (p_3 := p_3) (p_4 := p_4) L343 G345 A346 (fr) (at2_347) (tk2_348) (fk2_314) (sy2_282) (na2_283) gL343_0 gL343_5 hW349 hF357 hS358 hV359 ((e351)) ((e352)) (((hF350.1 16 rfl).trans (e319))) (((hF350.1 19 rfl).trans ((hF316.1 19 rfl).trans (e290)))) (((hF350.1 28 rfl).trans ((hF316.1 28 rfl).trans (e291)))) (((hF350.1 9 rfl).trans ((hF316.1 9 rfl).trans ((hF287.1 9 rfl).trans (fx_9))))) (((hF350.1 29 rfl).trans ((hF316.1 29 rfl).trans ((hF287.1 29 rfl).trans (fx_29))))) (by omega) (by omega) (by omega) (by omega) (by omega) (by omega) (by omega)
                      · have _q := h367
                        exact absurd h367 (by omega)
                    · have _q : True := trivial
                      exfalso
                      omega
                · have _q : True := trivial
                  refine jx_ld (pc_q := 203) (l_q := jSto1 L309 6 (.int (i32 (0)))) (st_q := []) rfl rfl ?_
                  obtain ⟨L369, eL369⟩ : ∃ q, q = jSto1 L309 6 (.int (i32 (0))) := ⟨_, rfl⟩
                  rw [← eL369]
                  have gL369_0 : jGet L369 0 = some (.ref 66) := eL369 ▸ jg_ne (by decide) gL309_0 rfl
                  have gL369_1 : jGet L369 1 = some (.int (i32 (many))) := eL369 ▸ jg_ne (by decide) gL309_1 rfl
                  have gL369_2 : jGet L369 2 = some (.int (i32 (row))) := eL369 ▸ jg_ne (by decide) gL309_2 rfl
                  have gL369_4 : jGet L369 4 = some (.int (i32 (kd))) := eL369 ▸ jg_ne (by decide) gL309_4 rfl
                  have gL369_5 : jGet L369 5 = some (.int (i32 (fr))) := eL369 ▸ jg_ne (by decide) gL309_5 rfl
                  have gL369_7 : jGet L369 7 = some (.int (i32 (sy1))) := eL369 ▸ jg_ne (by decide) gL309_7 rfl
                  have gL369_6 : jGet L369 6 = some (.int (i32 (0))) := eL369 ▸ jg_eq
                  refine jx_ld (pc_q := 205) (l_q := L369) (st_q := [.int (i32 (0))]) rfl (jl_iload gL369_6) ?_
                  refine jx_if_eq (pc_q := 208) (tg := 212) rfl rfl rfl (by decide) (by decide) (fun h370 => ?_) (fun h370 => ?_)
                  · have _q := h370
                    refine jx_go (tg := 100) rfl rfl ?_
                    refine jx_ld (pc_q := 101) (l_q := L369) (st_q := [.ref 66]) rfl (jl_aloadn gL369_0) ?_
                    refine jx_vr (pc_q := 104) (as := []) (st := []) rfl rfl rfl rfl ⟨rfl, rfl, Nat.le_of_ble_eq_true rfl⟩ rfl rfl (c_bad (dd := d) (hd := by omega) (hW := hW315)  (fk := fk2_314) (e_fk := show G310 16 = fk2_314 from (e319))    ) (fun o V_q hq => ?_)
                    obtain ⟨r371, rfl, rfl, b372, q373⟩ := hq
                    refine .inr ⟨_, rfl, ?_⟩
                    rcases q373 with ⟨rfl, a374⟩ | ⟨rfl, a375⟩
                    · have _q : True := trivial
                      refine jx_if_ne (pc_q := 107) (tg := 215) rfl rfl rfl (by decide) (by decide) (fun h376 => ?_) (fun h376 => ?_)
                      · have _q := h376
                        have z377 := tz_f (tk2_313)
                        exact c_readDeclaration_at_215p (X := X) (d := d) (c0 := c0) (c1 := c1) (G := G) (A := A) (T := T) (ln := ln) (le := le) (at0 := at0) (fk := fk) (tk0 := tk0) (li := li) (sy := sy) (na := na) (vi := vi) (hd := hd) (hW := hW) (e_ln := e_ln) (e_le := e_le) (e_at0 := e_at0) (e_fk := e_fk) (e_tk0 := e_tk0) (e_li := e_li) (e_sy := e_sy) (e_na := e_na) (e_vi := e_vi) (p_0 := p_0) (p_1 := p_1) (p_2 := p_2) (p_3 := p_3) (p_4 := p_4) L369 G310 A311 (fr) (at2_312) (tk2_313) (fk2_314) (sy2_282) (na2_283) gL369_0 gL369_5 hW315 hF323 hS324 hV325 ((e317)) ((e318)) ((e319)) (((hF316.1 19 rfl).trans (e290))) (((hF316.1 28 rfl).trans (e291))) (((hF316.1 9 rfl).trans ((hF287.1 9 rfl).trans (fx_9)))) (((hF316.1 29 rfl).trans ((hF287.1 29 rfl).trans (fx_29)))) (by omega) (by omega) (by omega) (by omega) (by omega) (by omega) (by omega)
                      · have _q := h376
                        exact absurd h376 (by omega)
                    · have _q : True := trivial
                      exfalso
                      omega
                  · have _q := h370
                    exact absurd h370 (by omega)
              · have _q : True := trivial
                refine jx_ld (pc_q := 196) (l_q := L309) (st_q := [.ref 66]) rfl (jl_aloadn gL309_0) ?_
                refine jx_ar (pc_q := 198) (st_q := [.int (i32 (44)), .ref 66]) rfl rfl rfl rfl ?_
                have b378 : (-2147483648 : Int) ≤ G310 13 ∧ G310 13 ≤ 2147483647 := hW315.1 13
                refine jx_vr (pc_q := 201) (as := [.int (i32 (44))]) (st := []) rfl rfl rfl rfl ⟨rfl, rfl, Nat.le_of_ble_eq_true rfl⟩ rfl rfl (c_is (dd := d) (hd := by omega) (hW := hW315) (k := 44) (tk := tk2_313) (e_tk := show G310 11 = tk2_313 from (e318)) (tn := G310 13) (e_tn := show G310 13 = G310 13 from rfl)  (h_k := ⟨(by decide), (by decide)⟩)  ) (fun o V_q hq => ?_)
                obtain ⟨r379, rfl, rfl, b380, q381⟩ := hq
                refine .inr ⟨_, rfl, ?_⟩
                rcases q381 with ⟨rfl, a382, a383, a384⟩ | rfl
                · have _q : True := trivial
                  refine jx_ld (pc_q := 203) (l_q := jSto1 L309 6 (.int (i32 (1)))) (st_q := []) rfl rfl ?_
                  obtain ⟨L385, eL385⟩ : ∃ q, q = jSto1 L309 6 (.int (i32 (1))) := ⟨_, rfl⟩
                  rw [← eL385]
                  have gL385_0 : jGet L385 0 = some (.ref 66) := eL385 ▸ jg_ne (by decide) gL309_0 rfl
                  have gL385_1 : jGet L385 1 = some (.int (i32 (many))) := eL385 ▸ jg_ne (by decide) gL309_1 rfl
                  have gL385_2 : jGet L385 2 = some (.int (i32 (row))) := eL385 ▸ jg_ne (by decide) gL309_2 rfl
                  have gL385_4 : jGet L385 4 = some (.int (i32 (kd))) := eL385 ▸ jg_ne (by decide) gL309_4 rfl
                  have gL385_5 : jGet L385 5 = some (.int (i32 (fr))) := eL385 ▸ jg_ne (by decide) gL309_5 rfl
                  have gL385_7 : jGet L385 7 = some (.int (i32 (sy1))) := eL385 ▸ jg_ne (by decide) gL309_7 rfl
                  have gL385_6 : jGet L385 6 = some (.int (i32 (1))) := eL385 ▸ jg_eq
                  refine jx_ld (pc_q := 205) (l_q := L385) (st_q := [.int (i32 (1))]) rfl (jl_iload gL385_6) ?_
                  refine jx_if_eq (pc_q := 208) (tg := 212) rfl rfl rfl (by decide) (by decide) (fun h386 => ?_) (fun h386 => ?_)
                  · have _q := h386
                    exact absurd h386 (by omega)
                  · have _q := h386
                    refine jx_ld (pc_q := 209) (l_q := L385) (st_q := [.ref 66]) rfl (jl_aloadn gL385_0) ?_
                    refine jx_vr (pc_q := 212) (as := []) (st := []) rfl rfl rfl rfl ⟨rfl, rfl, Nat.le_of_ble_eq_true rfl⟩ rfl rfl (c_next (dd := d) (hd := by omega) (hW := hW315)  (ln := ln) (e_ln := show G310 9 = ln from ((hF316.1 9 rfl).trans ((hF287.1 9 rfl).trans (fx_9)))) (le := le) (e_le := show A311 4 (ln).toNat = le from (congrFun ((hF316.2 4 rfl).trans ((hF287.2 4 rfl).trans (hFx.2 4 rfl))) _).trans (e_le)) (at0 := at2_312) (e_at0 := show G310 10 = at2_312 from (e317))    (p_0 := by omega)) (fun o V_q hq => ?_)
                    obtain ⟨G387, A388, at2_389, tk2_390, rfl, rfl, hW391, hF392, e393, e394, p395, p396, p397, -⟩ := hq
                    have hF399 := Fr_tr hF323 hF392 (Fr_sub (by decide)) (Fr_sub (by decide))
                    have hS400 := Fx_f hS324 hF392 (by decide)
                    have hV401 := Fx_f hV325 hF392 (by decide)
                    have sf402 : wD A388 (sy) (sy1) := wD_fx (Sg_fr (sb := sy1) hF392 (by decide)) (by omega) sf326
                    have sf403 : YD A388 (sy1) (kd) (1) := YD_fx (by omega) (by omega) (Sg_fr (sb := sy1 + 1) hF392 (by decide)) sf327
                    have bat2_389 : (0 : Int) ≤ at2_389 ∧ at2_389 ≤ 3002 := e393 ▸ hW391.1 10
                    have ztk2_390 := tz_b tk2_390
                    have btk2_390 : (0 : Int) ≤ tk2_390 ∧ tk2_390 ≤ 5 := e394 ▸ hW391.1 11
                    refine .inl ⟨rfl, ?_⟩
                    refine jx_go (tg := 100) rfl rfl ?_
                    have z404 := tz_f (tk2_390)
                    exact ih100 _ (by omega) L385 G387 A388 (many) (row) (kd) (fr) (1) (at2_389) (tk2_390) (fk2_314) (sy2_282) (na2_283) rfl gL385_0 gL385_1 gL385_2 gL385_4 gL385_5 gL385_6 hW391 hF399 hS400 hV401 ((e393)) ((e394)) (((hF392.1 16 rfl).trans (e319))) (((hF392.1 19 rfl).trans ((hF316.1 19 rfl).trans (e290)))) (((hF392.1 28 rfl).trans ((hF316.1 28 rfl).trans (e291)))) (((hF392.1 9 rfl).trans ((hF316.1 9 rfl).trans ((hF287.1 9 rfl).trans (fx_9))))) (((hF392.1 29 rfl).trans ((hF316.1 29 rfl).trans ((hF287.1 29 rfl).trans (fx_29))))) (by omega) (by omega) (by omega) (by omega) (by omega) (by omega) (by omega) (by omega) (by omega) (by omega) (by omega) (by omega) (by omega) ((wD_add sf402 sf403 (by omega) (by omega) (by omega) (by omega) (fun q => by omega)))
                · have _q : True := trivial
                  refine jx_ld (pc_q := 203) (l_q := jSto1 L309 6 (.int (i32 (0)))) (st_q := []) rfl rfl ?_
                  obtain ⟨L405, eL405⟩ : ∃ q, q = jSto1 L309 6 (.int (i32 (0))) := ⟨_, rfl⟩
                  rw [← eL405]
                  have gL405_0 : jGet L405 0 = some (.ref 66) := eL405 ▸ jg_ne (by decide) gL309_0 rfl
                  have gL405_1 : jGet L405 1 = some (.int (i32 (many))) := eL405 ▸ jg_ne (by decide) gL309_1 rfl
                  have gL405_2 : jGet L405 2 = some (.int (i32 (row))) := eL405 ▸ jg_ne (by decide) gL309_2 rfl
                  have gL405_4 : jGet L405 4 = some (.int (i32 (kd))) := eL405 ▸ jg_ne (by decide) gL309_4 rfl
                  have gL405_5 : jGet L405 5 = some (.int (i32 (fr))) := eL405 ▸ jg_ne (by decide) gL309_5 rfl
                  have gL405_7 : jGet L405 7 = some (.int (i32 (sy1))) := eL405 ▸ jg_ne (by decide) gL309_7 rfl
                  have gL405_6 : jGet L405 6 = some (.int (i32 (0))) := eL405 ▸ jg_eq
                  refine jx_ld (pc_q := 205) (l_q := L405) (st_q := [.int (i32 (0))]) rfl (jl_iload gL405_6) ?_
                  refine jx_if_eq (pc_q := 208) (tg := 212) rfl rfl rfl (by decide) (by decide) (fun h406 => ?_) (fun h406 => ?_)
                  · have _q := h406
                    refine jx_go (tg := 100) rfl rfl ?_
                    have z407 := tz_f (tk2_313)
                    exact ih100 _ (by omega) L405 G310 A311 (many) (row) (kd) (fr) (0) (at2_312) (tk2_313) (fk2_314) (sy2_282) (na2_283) rfl gL405_0 gL405_1 gL405_2 gL405_4 gL405_5 gL405_6 hW315 hF323 hS324 hV325 ((e317)) ((e318)) ((e319)) (((hF316.1 19 rfl).trans (e290))) (((hF316.1 28 rfl).trans (e291))) (((hF316.1 9 rfl).trans ((hF287.1 9 rfl).trans (fx_9)))) (((hF316.1 29 rfl).trans ((hF287.1 29 rfl).trans (fx_29)))) (by omega) (by omega) (by omega) (by omega) (by omega) (by omega) (by omega) (by omega) (by omega) (by omega) (by omega) (by omega) (by omega) ((wD_add sf326 sf327 (by omega) (by omega) (by omega) (by omega) (fun q => by omega)))
                  · have _q := h406
                    exact absurd h406 (by omega)
            · have _q : True := trivial
              refine jx_ld (pc_q := 190) (l_q := jSto1 L 7 (.int (i32 (0)))) (st_q := []) rfl rfl ?_
              obtain ⟨L408, eL408⟩ : ∃ q, q = jSto1 L 7 (.int (i32 (0))) := ⟨_, rfl⟩
              rw [← eL408]
              have gL408_0 : jGet L408 0 = some (.ref 66) := eL408 ▸ jg_ne (by decide) gL_0 rfl
              have gL408_1 : jGet L408 1 = some (.int (i32 (many))) := eL408 ▸ jg_ne (by decide) gL_1 rfl
              have gL408_2 : jGet L408 2 = some (.int (i32 (row))) := eL408 ▸ jg_ne (by decide) gL_2 rfl
              have gL408_4 : jGet L408 4 = some (.int (i32 (kd))) := eL408 ▸ jg_ne (by decide) gL_4 rfl
              have gL408_5 : jGet L408 5 = some (.int (i32 (fr))) := eL408 ▸ jg_ne (by decide) gL_5 rfl
              have gL408_7 : jGet L408 7 = some (.int (i32 (0))) := eL408 ▸ jg_eq
              refine jx_ld (pc_q := 191) (l_q := L408) (st_q := [.ref 66]) rfl (jl_aloadn gL408_0) ?_
              refine jx_ar (pc_q := 192) (st_q := [.int (i32 (1)), .ref 66]) rfl rfl rfl rfl ?_
              refine jx_vr (pc_q := 195) (as := [.int (i32 (1))]) (st := []) rfl rfl rfl rfl ⟨rfl, rfl, Nat.le_of_ble_eq_true rfl⟩ rfl rfl (c_need (dd := d) (hd := by omega) (hW := hW286) (g := 1) (ln := ln) (e_ln := show G279 9 = ln from ((hF287.1 9 rfl).trans (fx_9))) (le := le) (e_le := show A280 4 (ln).toNat = le from (congrFun ((hF287.2 4 rfl).trans (hFx.2 4 rfl)) _).trans (e_le)) (at0 := at3) (e_at0 := show G279 10 = at3 from ((hF287.1 10 rfl).trans (ex_at3))) (fk := fk2_284) (e_fk := show G279 16 = fk2_284 from (e292)) (tk0 := tk3) (e_tk0 := show G279 11 = tk3 from ((hF287.1 11 rfl).trans (ex_tk3)))  (h_g := ⟨(by decide), (by decide)⟩)  (p_0 := by omega)) (fun o V_q hq => ?_)
              obtain ⟨G409, A410, at2_411, tk2_412, fk2_413, rfl, rfl, hW414, hF415, e416, e417, e418, p419, p420, q421⟩ := hq
              have hF422 := Fr_tr hF295 hF415 (Fr_sub (by decide)) (Fr_sub (by decide))
              have hS423 := Fx_f hS296 hF415 (by decide)
              have hV424 := Fx_f hV297 hF415 (by decide)
              have sf425 : wD A410 (sy) (sy1) := wD_fx (Sg_fr (sb := sy1) hF415 (by decide)) (by omega) sf298
              have bat2_411 : (0 : Int) ≤ at2_411 ∧ at2_411 ≤ 3002 := e416 ▸ hW414.1 10
              have ztk2_412 := tz_b tk2_412
              have btk2_412 : (0 : Int) ≤ tk2_412 ∧ tk2_412 ≤ 5 := e417 ▸ hW414.1 11
              have bfk2_413 : (0 : Int) ≤ fk2_413 ∧ fk2_413 ≤ 6 := e418 ▸ hW414.1 16
              refine .inl ⟨rfl, ?_⟩
              rcases q421 with ⟨a426, a427, a428, a429⟩ | ⟨a430, a431, a432, a433⟩
              · have _q : True := trivial
                refine jx_ld (pc_q := 196) (l_q := L408) (st_q := [.ref 66]) rfl (jl_aloadn gL408_0) ?_
                refine jx_ar (pc_q := 198) (st_q := [.int (i32 (44)), .ref 66]) rfl rfl rfl rfl ?_
                have b434 : (-2147483648 : Int) ≤ G409 13 ∧ G409 13 ≤ 2147483647 := hW414.1 13
                refine jx_vr (pc_q := 201) (as := [.int (i32 (44))]) (st := []) rfl rfl rfl rfl ⟨rfl, rfl, Nat.le_of_ble_eq_true rfl⟩ rfl rfl (c_is (dd := d) (hd := by omega) (hW := hW414) (k := 44) (tk := tk2_412) (e_tk := show G409 11 = tk2_412 from (e417)) (tn := G409 13) (e_tn := show G409 13 = G409 13 from rfl)  (h_k := ⟨(by decide), (by decide)⟩)  ) (fun o V_q hq => ?_)
                obtain ⟨r435, rfl, rfl, b436, q437⟩ := hq
                refine .inr ⟨_, rfl, ?_⟩
                rcases q437 with ⟨rfl, a438, a439, a440⟩ | rfl
                · have _q : True := trivial
                  refine jx_ld (pc_q := 203) (l_q := jSto1 L408 6 (.int (i32 (1)))) (st_q := []) rfl rfl ?_
                  obtain ⟨L441, eL441⟩ : ∃ q, q = jSto1 L408 6 (.int (i32 (1))) := ⟨_, rfl⟩
                  rw [← eL441]
                  have gL441_0 : jGet L441 0 = some (.ref 66) := eL441 ▸ jg_ne (by decide) gL408_0 rfl
                  have gL441_1 : jGet L441 1 = some (.int (i32 (many))) := eL441 ▸ jg_ne (by decide) gL408_1 rfl
                  have gL441_2 : jGet L441 2 = some (.int (i32 (row))) := eL441 ▸ jg_ne (by decide) gL408_2 rfl
                  have gL441_4 : jGet L441 4 = some (.int (i32 (kd))) := eL441 ▸ jg_ne (by decide) gL408_4 rfl
                  have gL441_5 : jGet L441 5 = some (.int (i32 (fr))) := eL441 ▸ jg_ne (by decide) gL408_5 rfl
                  have gL441_7 : jGet L441 7 = some (.int (i32 (0))) := eL441 ▸ jg_ne (by decide) gL408_7 rfl
                  have gL441_6 : jGet L441 6 = some (.int (i32 (1))) := eL441 ▸ jg_eq
                  refine jx_ld (pc_q := 205) (l_q := L441) (st_q := [.int (i32 (1))]) rfl (jl_iload gL441_6) ?_
                  refine jx_if_eq (pc_q := 208) (tg := 212) rfl rfl rfl (by decide) (by decide) (fun h442 => ?_) (fun h442 => ?_)
                  · have _q := h442
                    exact absurd h442 (by omega)
                  · have _q := h442
                    refine jx_ld (pc_q := 209) (l_q := L441) (st_q := [.ref 66]) rfl (jl_aloadn gL441_0) ?_
                    refine jx_vr (pc_q := 212) (as := []) (st := []) rfl rfl rfl rfl ⟨rfl, rfl, Nat.le_of_ble_eq_true rfl⟩ rfl rfl (c_next (dd := d) (hd := by omega) (hW := hW414)  (ln := ln) (e_ln := show G409 9 = ln from ((hF415.1 9 rfl).trans ((hF287.1 9 rfl).trans (fx_9)))) (le := le) (e_le := show A410 4 (ln).toNat = le from (congrFun ((hF415.2 4 rfl).trans ((hF287.2 4 rfl).trans (hFx.2 4 rfl))) _).trans (e_le)) (at0 := at2_411) (e_at0 := show G409 10 = at2_411 from (e416))    (p_0 := by omega)) (fun o V_q hq => ?_)
                    obtain ⟨G443, A444, at2_445, tk2_446, rfl, rfl, hW447, hF448, e449, e450, p451, p452, p453, -⟩ := hq
                    have hF455 := Fr_tr hF422 hF448 (Fr_sub (by decide)) (Fr_sub (by decide))
                    have hS456 := Fx_f hS423 hF448 (by decide)
                    have hV457 := Fx_f hV424 hF448 (by decide)
                    have sf458 : wD A444 (sy) (sy1) := wD_fx (Sg_fr (sb := sy1) hF448 (by decide)) (by omega) sf425
                    have bat2_445 : (0 : Int) ≤ at2_445 ∧ at2_445 ≤ 3002 := e449 ▸ hW447.1 10
                    have ztk2_446 := tz_b tk2_446
                    have btk2_446 : (0 : Int) ≤ tk2_446 ∧ tk2_446 ≤ 5 := e450 ▸ hW447.1 11
                    refine .inl ⟨rfl, ?_⟩
                    refine jx_go (tg := 100) rfl rfl ?_
                    refine jx_ld (pc_q := 101) (l_q := L441) (st_q := [.ref 66]) rfl (jl_aloadn gL441_0) ?_
                    refine jx_vr (pc_q := 104) (as := []) (st := []) rfl rfl rfl rfl ⟨rfl, rfl, Nat.le_of_ble_eq_true rfl⟩ rfl rfl (c_bad (dd := d) (hd := by omega) (hW := hW447)  (fk := fk2_413) (e_fk := show G443 16 = fk2_413 from ((hF448.1 16 rfl).trans (e418)))    ) (fun o V_q hq => ?_)
                    obtain ⟨r459, rfl, rfl, b460, q461⟩ := hq
                    refine .inr ⟨_, rfl, ?_⟩
                    rcases q461 with ⟨rfl, a462⟩ | ⟨rfl, a463⟩
                    · have _q : True := trivial
                      refine jx_if_ne (pc_q := 107) (tg := 215) rfl rfl rfl (by decide) (by decide) (fun h464 => ?_) (fun h464 => ?_)
                      · have _q := h464
                        have z465 := tz_f (tk2_446)
                        exact c_readDeclaration_at_215p (X := X) (d := d) (c0 := c0) (c1 := c1) (G := G) (A := A) (T := T) (ln := ln) (le := le) (at0 := at0) (fk := fk) (tk0 := tk0) (li := li) (sy := sy) (na := na) (vi := vi) (hd := hd) (hW := hW) (e_ln := e_ln) (e_le := e_le) (e_at0 := e_at0) (e_fk := e_fk) (e_tk0 := e_tk0) (e_li := e_li) (e_sy := e_sy) (e_na := e_na) (e_vi := e_vi) (p_0 := p_0) (p_1 := p_1) (p_2 := p_2) (p_3 := p_3) (p_4 := p_4) L441 G443 A444 (fr) (at2_445) (tk2_446) (fk2_413) (sy2_282) (na2_283) gL441_0 gL441_5 hW447 hF455 hS456 hV457 ((e449)) ((e450)) (((hF448.1 16 rfl).trans (e418))) (((hF448.1 19 rfl).trans ((hF415.1 19 rfl).trans (e290)))) (((hF448.1 28 rfl).trans ((hF415.1 28 rfl).trans (e291)))) (((hF448.1 9 rfl).trans ((hF415.1 9 rfl).trans ((hF287.1 9 rfl).trans (fx_9))))) (((hF448.1 29 rfl).trans ((hF415.1 29 rfl).trans ((hF287.1 29 rfl).trans (fx_29))))) (by omega) (by omega) (by omega) (by omega) (by omega) (by omega) (by omega)
                      · have _q := h464
                        exact absurd h464 (by omega)
                    · have _q : True := trivial
                      exfalso
                      omega
                · have _q : True := trivial
                  refine jx_ld (pc_q := 203) (l_q := jSto1 L408 6 (.int (i32 (0)))) (st_q := []) rfl rfl ?_
                  obtain ⟨L466, eL466⟩ : ∃ q, q = jSto1 L408 6 (.int (i32 (0))) := ⟨_, rfl⟩
                  rw [← eL466]
                  have gL466_0 : jGet L466 0 = some (.ref 66) := eL466 ▸ jg_ne (by decide) gL408_0 rfl
                  have gL466_1 : jGet L466 1 = some (.int (i32 (many))) := eL466 ▸ jg_ne (by decide) gL408_1 rfl
                  have gL466_2 : jGet L466 2 = some (.int (i32 (row))) := eL466 ▸ jg_ne (by decide) gL408_2 rfl
                  have gL466_4 : jGet L466 4 = some (.int (i32 (kd))) := eL466 ▸ jg_ne (by decide) gL408_4 rfl
                  have gL466_5 : jGet L466 5 = some (.int (i32 (fr))) := eL466 ▸ jg_ne (by decide) gL408_5 rfl
                  have gL466_7 : jGet L466 7 = some (.int (i32 (0))) := eL466 ▸ jg_ne (by decide) gL408_7 rfl
                  have gL466_6 : jGet L466 6 = some (.int (i32 (0))) := eL466 ▸ jg_eq
                  refine jx_ld (pc_q := 205) (l_q := L466) (st_q := [.int (i32 (0))]) rfl (jl_iload gL466_6) ?_
                  refine jx_if_eq (pc_q := 208) (tg := 212) rfl rfl rfl (by decide) (by decide) (fun h467 => ?_) (fun h467 => ?_)
                  · have _q := h467
                    refine jx_go (tg := 100) rfl rfl ?_
                    refine jx_ld (pc_q := 101) (l_q := L466) (st_q := [.ref 66]) rfl (jl_aloadn gL466_0) ?_
                    refine jx_vr (pc_q := 104) (as := []) (st := []) rfl rfl rfl rfl ⟨rfl, rfl, Nat.le_of_ble_eq_true rfl⟩ rfl rfl (c_bad (dd := d) (hd := by omega) (hW := hW414)  (fk := fk2_413) (e_fk := show G409 16 = fk2_413 from (e418))    ) (fun o V_q hq => ?_)
                    obtain ⟨r468, rfl, rfl, b469, q470⟩ := hq
                    refine .inr ⟨_, rfl, ?_⟩
                    rcases q470 with ⟨rfl, a471⟩ | ⟨rfl, a472⟩
                    · have _q : True := trivial
                      refine jx_if_ne (pc_q := 107) (tg := 215) rfl rfl rfl (by decide) (by decide) (fun h473 => ?_) (fun h473 => ?_)
                      · have _q := h473
                        have z474 := tz_f (tk2_412)
                        exact c_readDeclaration_at_215p (X := X) (d := d) (c0 := c0) (c1 := c1) (G := G) (A := A) (T := T) (ln := ln) (le := le) (at0 := at0) (fk := fk) (tk0 := tk0) (li := li) (sy := sy) (na := na) (vi := vi) (hd := hd) (hW := hW) (e_ln := e_ln) (e_le := e_le) (e_at0 := e_at0) (e_fk := e_fk) (e_tk0 := e_tk0) (e_li := e_li) (e_sy := e_sy) (e_na := e_na) (e_vi := e_vi) (p_0 := p_0) (p_1 := p_1) (p_2 := p_2) (p_3 := p_3) (p_4 := p_4) L466 G409 A410 (fr) (at2_411) (tk2_412) (fk2_413) (sy2_282) (na2_283) gL466_0 gL466_5 hW414 hF422 hS423 hV424 ((e416)) ((e417)) ((e418)) (((hF415.1 19 rfl).trans (e290))) (((hF415.1 28 rfl).trans (e291))) (((hF415.1 9 rfl).trans ((hF287.1 9 rfl).trans (fx_9)))) (((hF415.1 29 rfl).trans ((hF287.1 29 rfl).trans (fx_29)))) (by omega) (by omega) (by omega) (by omega) (by omega) (by omega) (by omega)
                      · have _q := h473
                        exact absurd h473 (by omega)
                    · have _q : True := trivial
                      exfalso
                      omega
                  · have _q := h467
                    exact absurd h467 (by omega)
              · have _q : True := trivial
                exfalso
                omega
          · have _q := h278
            refine jx_ld (pc_q := 181) (l_q := L) (st_q := [.int (i32 (many)), .int (i32 (kd)), .ref 66]) rfl (jl_iloadn gL_1) ?_
            refine jx_go (tg := 185) rfl rfl ?_
            refine jx_vr (pc_q := 188) (as := [.int (i32 (kd)), .int (i32 (many))]) (st := []) rfl rfl rfl rfl ⟨rfl, rfl, Nat.le_of_ble_eq_true rfl⟩ rfl rfl (c_newName (dd := d) (hd := by omega) (hW := hWx) (kind := kd) (many := many) (sy := sy1) (e_sy := show Gx 19 = sy1 from (fx_19)) (na := na1) (e_na := show Gx 28 = na1 from (fx_28)) (fk := fk3) (e_fk := show Gx 16 = fk3 from (ex_fk3))  (h_kind := ⟨(Int.le_trans (by decide : (-2147483648 : Int) ≤ -2147483648) rx_kd.1), (Int.le_trans rx_kd.2 (by decide : (2147483647 : Int) ≤ 2147483647))⟩) (h_many := ⟨(Int.le_trans (by decide : (-2147483648 : Int) ≤ -2147483648) rx_many.1), (Int.le_trans rx_many.2 (by decide : (2147483647 : Int) ≤ 2147483647))⟩)  (p_0 := by omega) (p_1 := by omega)) (fun o V_q hq => ?_)
            obtain ⟨G475, A476, r477, sy2_478, na2_479, fk2_480, yk2_481, rfl, rfl, hW482, hF483, hQ484, b485, e486, e487, e488, e489, q490⟩ := hq
            have hF491 := Fr_tr hFx hF483 (Fr_sub (by decide)) (Fr_sub (by decide))
            have hS492 := Fx_tr hSx hQ484 (by omega)
            have hV493 := Fx_f hVx hF483 (by decide)
            have sf494 : wD A476 (sy) (sy1) := wD_fx hQ484 (by omega) iv_8
            have bsy2_478 : (0 : Int) ≤ sy2_478 ∧ sy2_478 ≤ 202 := e486 ▸ hW482.1 19
            have bna2_479 : (0 : Int) ≤ na2_479 ∧ na2_479 ≤ 200 := e487 ▸ hW482.1 28
            have bfk2_480 : (0 : Int) ≤ fk2_480 ∧ fk2_480 ≤ 6 := e488 ▸ hW482.1 16
            have byk2_481 : (0 : Int) ≤ yk2_481 ∧ yk2_481 ≤ 14 := e489 ▸ hW482.2 7 _
            refine .inr ⟨_, rfl, ?_⟩
            rcases q490 with ⟨a501, a495, a496, a497, a498, a499, a500⟩ | ⟨rfl, a502, a503, a504⟩
            · have _q : True := trivial
              rw [a501]
              refine jx_ld (pc_q := 190) (l_q := jSto1 L 7 (.int (i32 (sy1)))) (st_q := []) rfl rfl ?_
              obtain ⟨L505, eL505⟩ : ∃ q, q = jSto1 L 7 (.int (i32 (sy1))) := ⟨_, rfl⟩
              rw [← eL505]
              have gL505_0 : jGet L505 0 = some (.ref 66) := eL505 ▸ jg_ne (by decide) gL_0 rfl
              have gL505_1 : jGet L505 1 = some (.int (i32 (many))) := eL505 ▸ jg_ne (by decide) gL_1 rfl
              have gL505_2 : jGet L505 2 = some (.int (i32 (row))) := eL505 ▸ jg_ne (by decide) gL_2 rfl
              have gL505_4 : jGet L505 4 = some (.int (i32 (kd))) := eL505 ▸ jg_ne (by decide) gL_4 rfl
              have gL505_5 : jGet L505 5 = some (.int (i32 (fr))) := eL505 ▸ jg_ne (by decide) gL_5 rfl
              have gL505_7 : jGet L505 7 = some (.int (i32 (sy1))) := eL505 ▸ jg_eq
              refine jx_ld (pc_q := 191) (l_q := L505) (st_q := [.ref 66]) rfl (jl_aloadn gL505_0) ?_
              refine jx_ar (pc_q := 192) (st_q := [.int (i32 (1)), .ref 66]) rfl rfl rfl rfl ?_
              refine jx_vr (pc_q := 195) (as := [.int (i32 (1))]) (st := []) rfl rfl rfl rfl ⟨rfl, rfl, Nat.le_of_ble_eq_true rfl⟩ rfl rfl (c_need (dd := d) (hd := by omega) (hW := hW482) (g := 1) (ln := ln) (e_ln := show G475 9 = ln from ((hF483.1 9 rfl).trans (fx_9))) (le := le) (e_le := show A476 4 (ln).toNat = le from (congrFun ((hF483.2 4 rfl).trans (hFx.2 4 rfl)) _).trans (e_le)) (at0 := at3) (e_at0 := show G475 10 = at3 from ((hF483.1 10 rfl).trans (ex_at3))) (fk := fk2_480) (e_fk := show G475 16 = fk2_480 from (e488)) (tk0 := tk3) (e_tk0 := show G475 11 = tk3 from ((hF483.1 11 rfl).trans (ex_tk3)))  (h_g := ⟨(by decide), (by decide)⟩)  (p_0 := by omega)) (fun o V_q hq => ?_)
              obtain ⟨G506, A507, at2_508, tk2_509, fk2_510, rfl, rfl, hW511, hF512, e513, e514, e515, p516, p517, q518⟩ := hq
              have hF519 := Fr_tr hF491 hF512 (Fr_sub (by decide)) (Fr_sub (by decide))
              have hS520 := Fx_f hS492 hF512 (by decide)
              have hV521 := Fx_f hV493 hF512 (by decide)
              have sf522 : wD A507 (sy) (sy1) := wD_fx (Sg_fr (sb := sy1) hF512 (by decide)) (by omega) sf494
              have sf523 : YD A507 (sy1) (kd) (many) := YD_fx (by omega) (by omega) (Sg_fr (sb := sy1 + 1) hF512 (by decide)) a500
              have bat2_508 : (0 : Int) ≤ at2_508 ∧ at2_508 ≤ 3002 := e513 ▸ hW511.1 10
              have ztk2_509 := tz_b tk2_509
              have btk2_509 : (0 : Int) ≤ tk2_509 ∧ tk2_509 ≤ 5 := e514 ▸ hW511.1 11
              have bfk2_510 : (0 : Int) ≤ fk2_510 ∧ fk2_510 ≤ 6 := e515 ▸ hW511.1 16
              refine .inl ⟨rfl, ?_⟩
              rcases q518 with ⟨a524, a525, a526, a527⟩ | ⟨a528, a529, a530, a531⟩
              · have _q : True := trivial
                refine jx_ld (pc_q := 196) (l_q := L505) (st_q := [.ref 66]) rfl (jl_aloadn gL505_0) ?_
                refine jx_ar (pc_q := 198) (st_q := [.int (i32 (44)), .ref 66]) rfl rfl rfl rfl ?_
                have b532 : (-2147483648 : Int) ≤ G506 13 ∧ G506 13 ≤ 2147483647 := hW511.1 13
                refine jx_vr (pc_q := 201) (as := [.int (i32 (44))]) (st := []) rfl rfl rfl rfl ⟨rfl, rfl, Nat.le_of_ble_eq_true rfl⟩ rfl rfl (c_is (dd := d) (hd := by omega) (hW := hW511) (k := 44) (tk := tk2_509) (e_tk := show G506 11 = tk2_509 from (e514)) (tn := G506 13) (e_tn := show G506 13 = G506 13 from rfl)  (h_k := ⟨(by decide), (by decide)⟩)  ) (fun o V_q hq => ?_)
                obtain ⟨r533, rfl, rfl, b534, q535⟩ := hq
                refine .inr ⟨_, rfl, ?_⟩
                rcases q535 with ⟨rfl, a536, a537, a538⟩ | rfl
                · have _q : True := trivial
                  refine jx_ld (pc_q := 203) (l_q := jSto1 L505 6 (.int (i32 (1)))) (st_q := []) rfl rfl ?_
                  obtain ⟨L539, eL539⟩ : ∃ q, q = jSto1 L505 6 (.int (i32 (1))) := ⟨_, rfl⟩
                  rw [← eL539]
                  have gL539_0 : jGet L539 0 = some (.ref 66) := eL539 ▸ jg_ne (by decide) gL505_0 rfl
                  have gL539_1 : jGet L539 1 = some (.int (i32 (many))) := eL539 ▸ jg_ne (by decide) gL505_1 rfl
                  have gL539_2 : jGet L539 2 = some (.int (i32 (row))) := eL539 ▸ jg_ne (by decide) gL505_2 rfl
                  have gL539_4 : jGet L539 4 = some (.int (i32 (kd))) := eL539 ▸ jg_ne (by decide) gL505_4 rfl
                  have gL539_5 : jGet L539 5 = some (.int (i32 (fr))) := eL539 ▸ jg_ne (by decide) gL505_5 rfl
                  have gL539_7 : jGet L539 7 = some (.int (i32 (sy1))) := eL539 ▸ jg_ne (by decide) gL505_7 rfl
                  have gL539_6 : jGet L539 6 = some (.int (i32 (1))) := eL539 ▸ jg_eq
                  refine jx_ld (pc_q := 205) (l_q := L539) (st_q := [.int (i32 (1))]) rfl (jl_iload gL539_6) ?_
                  refine jx_if_eq (pc_q := 208) (tg := 212) rfl rfl rfl (by decide) (by decide) (fun h540 => ?_) (fun h540 => ?_)
                  · have _q := h540
                    exact absurd h540 (by omega)
                  · have _q := h540
                    refine jx_ld (pc_q := 209) (l_q := L539) (st_q := [.ref 66]) rfl (jl_aloadn gL539_0) ?_
                    refine jx_vr (pc_q := 212) (as := []) (st := []) rfl rfl rfl rfl ⟨rfl, rfl, Nat.le_of_ble_eq_true rfl⟩ rfl rfl (c_next (dd := d) (hd := by omega) (hW := hW511)  (ln := ln) (e_ln := show G506 9 = ln from ((hF512.1 9 rfl).trans ((hF483.1 9 rfl).trans (fx_9)))) (le := le) (e_le := show A507 4 (ln).toNat = le from (congrFun ((hF512.2 4 rfl).trans ((hF483.2 4 rfl).trans (hFx.2 4 rfl))) _).trans (e_le)) (at0 := at2_508) (e_at0 := show G506 10 = at2_508 from (e513))    (p_0 := by omega)) (fun o V_q hq => ?_)
                    obtain ⟨G541, A542, at2_543, tk2_544, rfl, rfl, hW545, hF546, e547, e548, p549, p550, p551, -⟩ := hq
                    have hF553 := Fr_tr hF519 hF546 (Fr_sub (by decide)) (Fr_sub (by decide))
                    have hS554 := Fx_f hS520 hF546 (by decide)
                    have hV555 := Fx_f hV521 hF546 (by decide)
                    have sf556 : wD A542 (sy) (sy1) := wD_fx (Sg_fr (sb := sy1) hF546 (by decide)) (by omega) sf522
                    have sf557 : YD A542 (sy1) (kd) (many) := YD_fx (by omega) (by omega) (Sg_fr (sb := sy1 + 1) hF546 (by decide)) sf523
                    have bat2_543 : (0 : Int) ≤ at2_543 ∧ at2_543 ≤ 3002 := e547 ▸ hW545.1 10
                    have ztk2_544 := tz_b tk2_544
                    have btk2_544 : (0 : Int) ≤ tk2_544 ∧ tk2_544 ≤ 5 := e548 ▸ hW545.1 11
                    refine .inl ⟨rfl, ?_⟩
                    refine jx_go (tg := 100) rfl rfl ?_
                    refine jx_ld (pc_q := 101) (l_q := L539) (st_q := [.ref 66]) rfl (jl_aloadn gL539_0) ?_
                    refine jx_vr (pc_q := 104) (as := []) (st := []) rfl rfl rfl rfl ⟨rfl, rfl, Nat.le_of_ble_eq_true rfl⟩ rfl rfl (c_bad (dd := d) (hd := by omega) (hW := hW545)  (fk := fk2_510) (e_fk := show G541 16 = fk2_510 from ((hF546.1 16 rfl).trans (e515)))    ) (fun o V_q hq => ?_)
                    obtain ⟨r558, rfl, rfl, b559, q560⟩ := hq
                    refine .inr ⟨_, rfl, ?_⟩
                    rcases q560 with ⟨rfl, a561⟩ | ⟨rfl, a562⟩
                    · have _q : True := trivial
                      refine jx_if_ne (pc_q := 107) (tg := 215) rfl rfl rfl (by decide) (by decide) (fun h563 => ?_) (fun h563 => ?_)
                      · have _q := h563
                        have z564 := tz_f (tk2_544)
                        exact c_readDeclaration_at_215p (X := X) (d := d) (c0 := c0) (c1 := c1) (G := G) (A := A) (T := T) (ln := ln) (le := le) (at0 := at0) (fk := fk) (tk0 := tk0) (li := li) (sy := sy) (na := na) (vi := vi) (hd := hd) (hW := hW) (e_ln := e_ln) (e_le := e_le) (e_at0 := e_at0) (e_fk := e_fk) (e_tk0 := e_tk0) (e_li := e_li) (e_sy := e_sy) (e_na := e_na) (e_vi := e_vi) (p_0 := p_0) (p_1 := p_1) (p_2 := p_2) (p_3 := p_3) (p_4 := p_4) L539 G541 A542 (fr) (at2_543) (tk2_544) (fk2_510) (sy2_478) (na2_479) gL539_0 gL539_5 hW545 hF553 hS554 hV555 ((e547)) ((e548)) (((hF546.1 16 rfl).trans (e515))) (((hF546.1 19 rfl).trans ((hF512.1 19 rfl).trans (e486)))) (((hF546.1 28 rfl).trans ((hF512.1 28 rfl).trans (e487)))) (((hF546.1 9 rfl).trans ((hF512.1 9 rfl).trans ((hF483.1 9 rfl).trans (fx_9))))) (((hF546.1 29 rfl).trans ((hF512.1 29 rfl).trans ((hF483.1 29 rfl).trans (fx_29))))) (by omega) (by omega) (by omega) (by omega) (by omega) (by omega) (by omega)
                      · have _q := h563
                        exact absurd h563 (by omega)
                    · have _q : True := trivial
                      exfalso
                      omega
                · have _q : True := trivial
                  refine jx_ld (pc_q := 203) (l_q := jSto1 L505 6 (.int (i32 (0)))) (st_q := []) rfl rfl ?_
                  obtain ⟨L565, eL565⟩ : ∃ q, q = jSto1 L505 6 (.int (i32 (0))) := ⟨_, rfl⟩
                  rw [← eL565]
                  have gL565_0 : jGet L565 0 = some (.ref 66) := eL565 ▸ jg_ne (by decide) gL505_0 rfl
                  have gL565_1 : jGet L565 1 = some (.int (i32 (many))) := eL565 ▸ jg_ne (by decide) gL505_1 rfl
                  have gL565_2 : jGet L565 2 = some (.int (i32 (row))) := eL565 ▸ jg_ne (by decide) gL505_2 rfl
                  have gL565_4 : jGet L565 4 = some (.int (i32 (kd))) := eL565 ▸ jg_ne (by decide) gL505_4 rfl
                  have gL565_5 : jGet L565 5 = some (.int (i32 (fr))) := eL565 ▸ jg_ne (by decide) gL505_5 rfl
                  have gL565_7 : jGet L565 7 = some (.int (i32 (sy1))) := eL565 ▸ jg_ne (by decide) gL505_7 rfl
                  have gL565_6 : jGet L565 6 = some (.int (i32 (0))) := eL565 ▸ jg_eq
                  refine jx_ld (pc_q := 205) (l_q := L565) (st_q := [.int (i32 (0))]) rfl (jl_iload gL565_6) ?_
                  refine jx_if_eq (pc_q := 208) (tg := 212) rfl rfl rfl (by decide) (by decide) (fun h566 => ?_) (fun h566 => ?_)
                  · have _q := h566
                    refine jx_go (tg := 100) rfl rfl ?_
                    refine jx_ld (pc_q := 101) (l_q := L565) (st_q := [.ref 66]) rfl (jl_aloadn gL565_0) ?_
                    refine jx_vr (pc_q := 104) (as := []) (st := []) rfl rfl rfl rfl ⟨rfl, rfl, Nat.le_of_ble_eq_true rfl⟩ rfl rfl (c_bad (dd := d) (hd := by omega) (hW := hW511)  (fk := fk2_510) (e_fk := show G506 16 = fk2_510 from (e515))    ) (fun o V_q hq => ?_)
                    obtain ⟨r567, rfl, rfl, b568, q569⟩ := hq
                    refine .inr ⟨_, rfl, ?_⟩
                    rcases q569 with ⟨rfl, a570⟩ | ⟨rfl, a571⟩
                    · have _q : True := trivial
                      refine jx_if_ne (pc_q := 107) (tg := 215) rfl rfl rfl (by decide) (by decide) (fun h572 => ?_) (fun h572 => ?_)
                      · have _q := h572
                        have z573 := tz_f (tk2_509)
                        exact c_readDeclaration_at_215p (X := X) (d := d) (c0 := c0) (c1 := c1) (G := G) (A := A) (T := T) (ln := ln) (le := le) (at0 := at0) (fk := fk) (tk0 := tk0) (li := li) (sy := sy) (na := na) (vi := vi) (hd := hd) (hW := hW) (e_ln := e_ln) (e_le := e_le) (e_at0 := e_at0) (e_fk := e_fk) (e_tk0 := e_tk0) (e_li := e_li) (e_sy := e_sy) (e_na := e_na) (e_vi := e_vi) (p_0 := p_0) (p_1 := p_1) (p_2 := p_2) (p_3 := p_3) (p_4 := p_4) L565 G506 A507 (fr) (at2_508) (tk2_509) (fk2_510) (sy2_478) (na2_479) gL565_0 gL565_5 hW511 hF519 hS520 hV521 ((e513)) ((e514)) ((e515)) (((hF512.1 19 rfl).trans (e486))) (((hF512.1 28 rfl).trans (e487))) (((hF512.1 9 rfl).trans ((hF483.1 9 rfl).trans (fx_9)))) (((hF512.1 29 rfl).trans ((hF483.1 29 rfl).trans (fx_29)))) (by omega) (by omega) (by omega) (by omega) (by omega) (by omega) (by omega)
                      · have _q := h572
                        exact absurd h572 (by omega)
                    · have _q : True := trivial
                      exfalso
                      omega
                  · have _q := h566
                    exact absurd h566 (by omega)
              · have _q : True := trivial
                refine jx_ld (pc_q := 196) (l_q := L505) (st_q := [.ref 66]) rfl (jl_aloadn gL505_0) ?_
                refine jx_ar (pc_q := 198) (st_q := [.int (i32 (44)), .ref 66]) rfl rfl rfl rfl ?_
                have b574 : (-2147483648 : Int) ≤ G506 13 ∧ G506 13 ≤ 2147483647 := hW511.1 13
                refine jx_vr (pc_q := 201) (as := [.int (i32 (44))]) (st := []) rfl rfl rfl rfl ⟨rfl, rfl, Nat.le_of_ble_eq_true rfl⟩ rfl rfl (c_is (dd := d) (hd := by omega) (hW := hW511) (k := 44) (tk := tk2_509) (e_tk := show G506 11 = tk2_509 from (e514)) (tn := G506 13) (e_tn := show G506 13 = G506 13 from rfl)  (h_k := ⟨(by decide), (by decide)⟩)  ) (fun o V_q hq => ?_)
                obtain ⟨r575, rfl, rfl, b576, q577⟩ := hq
                refine .inr ⟨_, rfl, ?_⟩
                rcases q577 with ⟨rfl, a578, a579, a580⟩ | rfl
                · have _q : True := trivial
                  refine jx_ld (pc_q := 203) (l_q := jSto1 L505 6 (.int (i32 (1)))) (st_q := []) rfl rfl ?_
                  obtain ⟨L581, eL581⟩ : ∃ q, q = jSto1 L505 6 (.int (i32 (1))) := ⟨_, rfl⟩
                  rw [← eL581]
                  have gL581_0 : jGet L581 0 = some (.ref 66) := eL581 ▸ jg_ne (by decide) gL505_0 rfl
                  have gL581_1 : jGet L581 1 = some (.int (i32 (many))) := eL581 ▸ jg_ne (by decide) gL505_1 rfl
                  have gL581_2 : jGet L581 2 = some (.int (i32 (row))) := eL581 ▸ jg_ne (by decide) gL505_2 rfl
                  have gL581_4 : jGet L581 4 = some (.int (i32 (kd))) := eL581 ▸ jg_ne (by decide) gL505_4 rfl
                  have gL581_5 : jGet L581 5 = some (.int (i32 (fr))) := eL581 ▸ jg_ne (by decide) gL505_5 rfl
                  have gL581_7 : jGet L581 7 = some (.int (i32 (sy1))) := eL581 ▸ jg_ne (by decide) gL505_7 rfl
                  have gL581_6 : jGet L581 6 = some (.int (i32 (1))) := eL581 ▸ jg_eq
                  refine jx_ld (pc_q := 205) (l_q := L581) (st_q := [.int (i32 (1))]) rfl (jl_iload gL581_6) ?_
                  refine jx_if_eq (pc_q := 208) (tg := 212) rfl rfl rfl (by decide) (by decide) (fun h582 => ?_) (fun h582 => ?_)
                  · have _q := h582
                    exact absurd h582 (by omega)
                  · have _q := h582
                    refine jx_ld (pc_q := 209) (l_q := L581) (st_q := [.ref 66]) rfl (jl_aloadn gL581_0) ?_
                    refine jx_vr (pc_q := 212) (as := []) (st := []) rfl rfl rfl rfl ⟨rfl, rfl, Nat.le_of_ble_eq_true rfl⟩ rfl rfl (c_next (dd := d) (hd := by omega) (hW := hW511)  (ln := ln) (e_ln := show G506 9 = ln from ((hF512.1 9 rfl).trans ((hF483.1 9 rfl).trans (fx_9)))) (le := le) (e_le := show A507 4 (ln).toNat = le from (congrFun ((hF512.2 4 rfl).trans ((hF483.2 4 rfl).trans (hFx.2 4 rfl))) _).trans (e_le)) (at0 := at2_508) (e_at0 := show G506 10 = at2_508 from (e513))    (p_0 := by omega)) (fun o V_q hq => ?_)
                    obtain ⟨G583, A584, at2_585, tk2_586, rfl, rfl, hW587, hF588, e589, e590, p591, p592, p593, -⟩ := hq
                    have hF595 := Fr_tr hF519 hF588 (Fr_sub (by decide)) (Fr_sub (by decide))
                    have hS596 := Fx_f hS520 hF588 (by decide)
                    have hV597 := Fx_f hV521 hF588 (by decide)
                    have sf598 : wD A584 (sy) (sy1) := wD_fx (Sg_fr (sb := sy1) hF588 (by decide)) (by omega) sf522
                    have sf599 : YD A584 (sy1) (kd) (many) := YD_fx (by omega) (by omega) (Sg_fr (sb := sy1 + 1) hF588 (by decide)) sf523
                    have bat2_585 : (0 : Int) ≤ at2_585 ∧ at2_585 ≤ 3002 := e589 ▸ hW587.1 10
                    have ztk2_586 := tz_b tk2_586
                    have btk2_586 : (0 : Int) ≤ tk2_586 ∧ tk2_586 ≤ 5 := e590 ▸ hW587.1 11
                    refine .inl ⟨rfl, ?_⟩
                    refine jx_go (tg := 100) rfl rfl ?_
                    have z600 := tz_f (tk2_586)
                    exact ih100 _ (by omega) L581 G583 A584 (many) (row) (kd) (fr) (1) (at2_585) (tk2_586) (fk2_510) (sy2_478) (na2_479) rfl gL581_0 gL581_1 gL581_2 gL581_4 gL581_5 gL581_6 hW587 hF595 hS596 hV597 ((e589)) ((e590)) (((hF588.1 16 rfl).trans (e515))) (((hF588.1 19 rfl).trans ((hF512.1 19 rfl).trans (e486)))) (((hF588.1 28 rfl).trans ((hF512.1 28 rfl).trans (e487)))) (((hF588.1 9 rfl).trans ((hF512.1 9 rfl).trans ((hF483.1 9 rfl).trans (fx_9))))) (((hF588.1 29 rfl).trans ((hF512.1 29 rfl).trans ((hF483.1 29 rfl).trans (fx_29))))) (by omega) (by omega) (by omega) (by omega) (by omega) (by omega) (by omega) (by omega) (by omega) (by omega) (by omega) (by omega) (by omega) ((wD_add sf598 sf599 (by omega) (by omega) (by omega) (by omega) (fun q => by omega)))
                · have _q : True := trivial
                  refine jx_ld (pc_q := 203) (l_q := jSto1 L505 6 (.int (i32 (0)))) (st_q := []) rfl rfl ?_
                  obtain ⟨L601, eL601⟩ : ∃ q, q = jSto1 L505 6 (.int (i32 (0))) := ⟨_, rfl⟩
                  rw [← eL601]
                  have gL601_0 : jGet L601 0 = some (.ref 66) := eL601 ▸ jg_ne (by decide) gL505_0 rfl
                  have gL601_1 : jGet L601 1 = some (.int (i32 (many))) := eL601 ▸ jg_ne (by decide) gL505_1 rfl
                  have gL601_2 : jGet L601 2 = some (.int (i32 (row))) := eL601 ▸ jg_ne (by decide) gL505_2 rfl
                  have gL601_4 : jGet L601 4 = some (.int (i32 (kd))) := eL601 ▸ jg_ne (by decide) gL505_4 rfl
                  have gL601_5 : jGet L601 5 = some (.int (i32 (fr))) := eL601 ▸ jg_ne (by decide) gL505_5 rfl
                  have gL601_7 : jGet L601 7 = some (.int (i32 (sy1))) := eL601 ▸ jg_ne (by decide) gL505_7 rfl
                  have gL601_6 : jGet L601 6 = some (.int (i32 (0))) := eL601 ▸ jg_eq
                  refine jx_ld (pc_q := 205) (l_q := L601) (st_q := [.int (i32 (0))]) rfl (jl_iload gL601_6) ?_
                  refine jx_if_eq (pc_q := 208) (tg := 212) rfl rfl rfl (by decide) (by decide) (fun h602 => ?_) (fun h602 => ?_)
                  · have _q := h602
                    refine jx_go (tg := 100) rfl rfl ?_
                    have z603 := tz_f (tk2_509)
                    exact ih100 _ (by omega) L601 G506 A507 (many) (row) (kd) (fr) (0) (at2_508) (tk2_509) (fk2_510) (sy2_478) (na2_479) rfl gL601_0 gL601_1 gL601_2 gL601_4 gL601_5 gL601_6 hW511 hF519 hS520 hV521 ((e513)) ((e514)) ((e515)) (((hF512.1 19 rfl).trans (e486))) (((hF512.1 28 rfl).trans (e487))) (((hF512.1 9 rfl).trans ((hF483.1 9 rfl).trans (fx_9)))) (((hF512.1 29 rfl).trans ((hF483.1 29 rfl).trans (fx_29)))) (by omega) (by omega) (by omega) (by omega) (by omega) (by omega) (by omega) (by omega) (by omega) (by omega) (by omega) (by omega) (by omega) ((wD_add sf522 sf523 (by omega) (by omega) (by omega) (by omega) (fun q => by omega)))
                  · have _q := h602
                    exact absurd h602 (by omega)
            · have _q : True := trivial
              refine jx_ld (pc_q := 190) (l_q := jSto1 L 7 (.int (i32 (0)))) (st_q := []) rfl rfl ?_
              obtain ⟨L604, eL604⟩ : ∃ q, q = jSto1 L 7 (.int (i32 (0))) := ⟨_, rfl⟩
              rw [← eL604]
              have gL604_0 : jGet L604 0 = some (.ref 66) := eL604 ▸ jg_ne (by decide) gL_0 rfl
              have gL604_1 : jGet L604 1 = some (.int (i32 (many))) := eL604 ▸ jg_ne (by decide) gL_1 rfl
              have gL604_2 : jGet L604 2 = some (.int (i32 (row))) := eL604 ▸ jg_ne (by decide) gL_2 rfl
              have gL604_4 : jGet L604 4 = some (.int (i32 (kd))) := eL604 ▸ jg_ne (by decide) gL_4 rfl
              have gL604_5 : jGet L604 5 = some (.int (i32 (fr))) := eL604 ▸ jg_ne (by decide) gL_5 rfl
              have gL604_7 : jGet L604 7 = some (.int (i32 (0))) := eL604 ▸ jg_eq
              refine jx_ld (pc_q := 191) (l_q := L604) (st_q := [.ref 66]) rfl (jl_aloadn gL604_0) ?_
              refine jx_ar (pc_q := 192) (st_q := [.int (i32 (1)), .ref 66]) rfl rfl rfl rfl ?_
              refine jx_vr (pc_q := 195) (as := [.int (i32 (1))]) (st := []) rfl rfl rfl rfl ⟨rfl, rfl, Nat.le_of_ble_eq_true rfl⟩ rfl rfl (c_need (dd := d) (hd := by omega) (hW := hW482) (g := 1) (ln := ln) (e_ln := show G475 9 = ln from ((hF483.1 9 rfl).trans (fx_9))) (le := le) (e_le := show A476 4 (ln).toNat = le from (congrFun ((hF483.2 4 rfl).trans (hFx.2 4 rfl)) _).trans (e_le)) (at0 := at3) (e_at0 := show G475 10 = at3 from ((hF483.1 10 rfl).trans (ex_at3))) (fk := fk2_480) (e_fk := show G475 16 = fk2_480 from (e488)) (tk0 := tk3) (e_tk0 := show G475 11 = tk3 from ((hF483.1 11 rfl).trans (ex_tk3)))  (h_g := ⟨(by decide), (by decide)⟩)  (p_0 := by omega)) (fun o V_q hq => ?_)
              obtain ⟨G605, A606, at2_607, tk2_608, fk2_609, rfl, rfl, hW610, hF611, e612, e613, e614, p615, p616, q617⟩ := hq
              have hF618 := Fr_tr hF491 hF611 (Fr_sub (by decide)) (Fr_sub (by decide))
              have hS619 := Fx_f hS492 hF611 (by decide)
              have hV620 := Fx_f hV493 hF611 (by decide)
              have sf621 : wD A606 (sy) (sy1) := wD_fx (Sg_fr (sb := sy1) hF611 (by decide)) (by omega) sf494
              have bat2_607 : (0 : Int) ≤ at2_607 ∧ at2_607 ≤ 3002 := e612 ▸ hW610.1 10
              have ztk2_608 := tz_b tk2_608
              have btk2_608 : (0 : Int) ≤ tk2_608 ∧ tk2_608 ≤ 5 := e613 ▸ hW610.1 11
              have bfk2_609 : (0 : Int) ≤ fk2_609 ∧ fk2_609 ≤ 6 := e614 ▸ hW610.1 16
              refine .inl ⟨rfl, ?_⟩
              rcases q617 with ⟨a622, a623, a624, a625⟩ | ⟨a626, a627, a628, a629⟩
              · have _q : True := trivial
                refine jx_ld (pc_q := 196) (l_q := L604) (st_q := [.ref 66]) rfl (jl_aloadn gL604_0) ?_
                refine jx_ar (pc_q := 198) (st_q := [.int (i32 (44)), .ref 66]) rfl rfl rfl rfl ?_
                have b630 : (-2147483648 : Int) ≤ G605 13 ∧ G605 13 ≤ 2147483647 := hW610.1 13
                refine jx_vr (pc_q := 201) (as := [.int (i32 (44))]) (st := []) rfl rfl rfl rfl ⟨rfl, rfl, Nat.le_of_ble_eq_true rfl⟩ rfl rfl (c_is (dd := d) (hd := by omega) (hW := hW610) (k := 44) (tk := tk2_608) (e_tk := show G605 11 = tk2_608 from (e613)) (tn := G605 13) (e_tn := show G605 13 = G605 13 from rfl)  (h_k := ⟨(by decide), (by decide)⟩)  ) (fun o V_q hq => ?_)
                obtain ⟨r631, rfl, rfl, b632, q633⟩ := hq
                refine .inr ⟨_, rfl, ?_⟩
                rcases q633 with ⟨rfl, a634, a635, a636⟩ | rfl
                · have _q : True := trivial
                  refine jx_ld (pc_q := 203) (l_q := jSto1 L604 6 (.int (i32 (1)))) (st_q := []) rfl rfl ?_
                  obtain ⟨L637, eL637⟩ : ∃ q, q = jSto1 L604 6 (.int (i32 (1))) := ⟨_, rfl⟩
                  rw [← eL637]
                  have gL637_0 : jGet L637 0 = some (.ref 66) := eL637 ▸ jg_ne (by decide) gL604_0 rfl
                  have gL637_1 : jGet L637 1 = some (.int (i32 (many))) := eL637 ▸ jg_ne (by decide) gL604_1 rfl
                  have gL637_2 : jGet L637 2 = some (.int (i32 (row))) := eL637 ▸ jg_ne (by decide) gL604_2 rfl
                  have gL637_4 : jGet L637 4 = some (.int (i32 (kd))) := eL637 ▸ jg_ne (by decide) gL604_4 rfl
                  have gL637_5 : jGet L637 5 = some (.int (i32 (fr))) := eL637 ▸ jg_ne (by decide) gL604_5 rfl
                  have gL637_7 : jGet L637 7 = some (.int (i32 (0))) := eL637 ▸ jg_ne (by decide) gL604_7 rfl
                  have gL637_6 : jGet L637 6 = some (.int (i32 (1))) := eL637 ▸ jg_eq
                  refine jx_ld (pc_q := 205) (l_q := L637) (st_q := [.int (i32 (1))]) rfl (jl_iload gL637_6) ?_
                  refine jx_if_eq (pc_q := 208) (tg := 212) rfl rfl rfl (by decide) (by decide) (fun h638 => ?_) (fun h638 => ?_)
                  · have _q := h638
                    exact absurd h638 (by omega)
                  · have _q := h638
                    refine jx_ld (pc_q := 209) (l_q := L637) (st_q := [.ref 66]) rfl (jl_aloadn gL637_0) ?_
                    refine jx_vr (pc_q := 212) (as := []) (st := []) rfl rfl rfl rfl ⟨rfl, rfl, Nat.le_of_ble_eq_true rfl⟩ rfl rfl (c_next (dd := d) (hd := by omega) (hW := hW610)  (ln := ln) (e_ln := show G605 9 = ln from ((hF611.1 9 rfl).trans ((hF483.1 9 rfl).trans (fx_9)))) (le := le) (e_le := show A606 4 (ln).toNat = le from (congrFun ((hF611.2 4 rfl).trans ((hF483.2 4 rfl).trans (hFx.2 4 rfl))) _).trans (e_le)) (at0 := at2_607) (e_at0 := show G605 10 = at2_607 from (e612))    (p_0 := by omega)) (fun o V_q hq => ?_)
                    obtain ⟨G639, A640, at2_641, tk2_642, rfl, rfl, hW643, hF644, e645, e646, p647, p648, p649, -⟩ := hq
                    have hF651 := Fr_tr hF618 hF644 (Fr_sub (by decide)) (Fr_sub (by decide))
                    have hS652 := Fx_f hS619 hF644 (by decide)
                    have hV653 := Fx_f hV620 hF644 (by decide)
                    have sf654 : wD A640 (sy) (sy1) := wD_fx (Sg_fr (sb := sy1) hF644 (by decide)) (by omega) sf621
                    have bat2_641 : (0 : Int) ≤ at2_641 ∧ at2_641 ≤ 3002 := e645 ▸ hW643.1 10
                    have ztk2_642 := tz_b tk2_642
                    have btk2_642 : (0 : Int) ≤ tk2_642 ∧ tk2_642 ≤ 5 := e646 ▸ hW643.1 11
                    refine .inl ⟨rfl, ?_⟩
                    refine jx_go (tg := 100) rfl rfl ?_
                    refine jx_ld (pc_q := 101) (l_q := L637) (st_q := [.ref 66]) rfl (jl_aloadn gL637_0) ?_
                    refine jx_vr (pc_q := 104) (as := []) (st := []) rfl rfl rfl rfl ⟨rfl, rfl, Nat.le_of_ble_eq_true rfl⟩ rfl rfl (c_bad (dd := d) (hd := by omega) (hW := hW643)  (fk := fk2_609) (e_fk := show G639 16 = fk2_609 from ((hF644.1 16 rfl).trans (e614)))    ) (fun o V_q hq => ?_)
                    obtain ⟨r655, rfl, rfl, b656, q657⟩ := hq
                    refine .inr ⟨_, rfl, ?_⟩
                    rcases q657 with ⟨rfl, a658⟩ | ⟨rfl, a659⟩
                    · have _q : True := trivial
                      refine jx_if_ne (pc_q := 107) (tg := 215) rfl rfl rfl (by decide) (by decide) (fun h660 => ?_) (fun h660 => ?_)
                      · have _q := h660
                        have z661 := tz_f (tk2_642)
                        exact c_readDeclaration_at_215p (X := X) (d := d) (c0 := c0) (c1 := c1) (G := G) (A := A) (T := T) (ln := ln) (le := le) (at0 := at0) (fk := fk) (tk0 := tk0) (li := li) (sy := sy) (na := na) (vi := vi) (hd := hd) (hW := hW) (e_ln := e_ln) (e_le := e_le) (e_at0 := e_at0) (e_fk := e_fk) (e_tk0 := e_tk0) (e_li := e_li) (e_sy := e_sy) (e_na := e_na) (e_vi := e_vi) (p_0 := p_0) (p_1 := p_1) (p_2 := p_2) (p_3 := p_3) (p_4 := p_4) L637 G639 A640 (fr) (at2_641) (tk2_642) (fk2_609) (sy2_478) (na2_479) gL637_0 gL637_5 hW643 hF651 hS652 hV653 ((e645)) ((e646)) (((hF644.1 16 rfl).trans (e614))) (((hF644.1 19 rfl).trans ((hF611.1 19 rfl).trans (e486)))) (((hF644.1 28 rfl).trans ((hF611.1 28 rfl).trans (e487)))) (((hF644.1 9 rfl).trans ((hF611.1 9 rfl).trans ((hF483.1 9 rfl).trans (fx_9))))) (((hF644.1 29 rfl).trans ((hF611.1 29 rfl).trans ((hF483.1 29 rfl).trans (fx_29))))) (by omega) (by omega) (by omega) (by omega) (by omega) (by omega) (by omega)
                      · have _q := h660
                        exact absurd h660 (by omega)
                    · have _q : True := trivial
                      exfalso
                      omega
                · have _q : True := trivial
                  refine jx_ld (pc_q := 203) (l_q := jSto1 L604 6 (.int (i32 (0)))) (st_q := []) rfl rfl ?_
                  obtain ⟨L662, eL662⟩ : ∃ q, q = jSto1 L604 6 (.int (i32 (0))) := ⟨_, rfl⟩
                  rw [← eL662]
                  have gL662_0 : jGet L662 0 = some (.ref 66) := eL662 ▸ jg_ne (by decide) gL604_0 rfl
                  have gL662_1 : jGet L662 1 = some (.int (i32 (many))) := eL662 ▸ jg_ne (by decide) gL604_1 rfl
                  have gL662_2 : jGet L662 2 = some (.int (i32 (row))) := eL662 ▸ jg_ne (by decide) gL604_2 rfl
                  have gL662_4 : jGet L662 4 = some (.int (i32 (kd))) := eL662 ▸ jg_ne (by decide) gL604_4 rfl
                  have gL662_5 : jGet L662 5 = some (.int (i32 (fr))) := eL662 ▸ jg_ne (by decide) gL604_5 rfl
                  have gL662_7 : jGet L662 7 = some (.int (i32 (0))) := eL662 ▸ jg_ne (by decide) gL604_7 rfl
                  have gL662_6 : jGet L662 6 = some (.int (i32 (0))) := eL662 ▸ jg_eq
                  refine jx_ld (pc_q := 205) (l_q := L662) (st_q := [.int (i32 (0))]) rfl (jl_iload gL662_6) ?_
                  refine jx_if_eq (pc_q := 208) (tg := 212) rfl rfl rfl (by decide) (by decide) (fun h663 => ?_) (fun h663 => ?_)
                  · have _q := h663
                    refine jx_go (tg := 100) rfl rfl ?_
                    refine jx_ld (pc_q := 101) (l_q := L662) (st_q := [.ref 66]) rfl (jl_aloadn gL662_0) ?_
                    refine jx_vr (pc_q := 104) (as := []) (st := []) rfl rfl rfl rfl ⟨rfl, rfl, Nat.le_of_ble_eq_true rfl⟩ rfl rfl (c_bad (dd := d) (hd := by omega) (hW := hW610)  (fk := fk2_609) (e_fk := show G605 16 = fk2_609 from (e614))    ) (fun o V_q hq => ?_)
                    obtain ⟨r664, rfl, rfl, b665, q666⟩ := hq
                    refine .inr ⟨_, rfl, ?_⟩
                    rcases q666 with ⟨rfl, a667⟩ | ⟨rfl, a668⟩
                    · have _q : True := trivial
                      refine jx_if_ne (pc_q := 107) (tg := 215) rfl rfl rfl (by decide) (by decide) (fun h669 => ?_) (fun h669 => ?_)
                      · have _q := h669
                        have z670 := tz_f (tk2_608)
                        exact c_readDeclaration_at_215p (X := X) (d := d) (c0 := c0) (c1 := c1) (G := G) (A := A) (T := T) (ln := ln) (le := le) (at0 := at0) (fk := fk) (tk0 := tk0) (li := li) (sy := sy) (na := na) (vi := vi) (hd := hd) (hW := hW) (e_ln := e_ln) (e_le := e_le) (e_at0 := e_at0) (e_fk := e_fk) (e_tk0 := e_tk0) (e_li := e_li) (e_sy := e_sy) (e_na := e_na) (e_vi := e_vi) (p_0 := p_0) (p_1 := p_1) (p_2 := p_2) (p_3 := p_3) (p_4 := p_4) L662 G605 A606 (fr) (at2_607) (tk2_608) (fk2_609) (sy2_478) (na2_479) gL662_0 gL662_5 hW610 hF618 hS619 hV620 ((e612)) ((e613)) ((e614)) (((hF611.1 19 rfl).trans (e486))) (((hF611.1 28 rfl).trans (e487))) (((hF611.1 9 rfl).trans ((hF483.1 9 rfl).trans (fx_9)))) (((hF611.1 29 rfl).trans ((hF483.1 29 rfl).trans (fx_29)))) (by omega) (by omega) (by omega) (by omega) (by omega) (by omega) (by omega)
                      · have _q := h669
                        exact absurd h669 (by omega)
                    · have _q : True := trivial
                      exfalso
                      omega
                  · have _q := h663
                    exact absurd h663 (by omega)
              · have _q : True := trivial
                exfalso
                omega
        · have _q := h277
          refine jx_ld (pc_q := 144) (l_q := L) (st_q := [.ref 66]) rfl (jl_aloadn gL_0) ?_
          refine jr_get (pc_q := 147) (i := 20) (v := .ref 73) rfl rfl (by decide) rfl rfl ?_
          refine jx_ld (pc_q := 149) (l_q := L) (st_q := [.int (i32 (s7)), .ref 73]) rfl (jl_iload gL_7) ?_
          refine jr_llv (pc_q := 150) (i := 6) (m := 260) (z := s7) rfl (by decide) rfl (by decide) (by omega) (by omega) rfl (fun y671 => ?_)
          refine jx_ld (pc_q := 151) (l_q := L) (st_q := [.ref 66, .long (y671)]) rfl (jl_aloadn gL_0) ?_
          refine jr_get (pc_q := 154) (i := 14) (v := .long (i64 (Gx 14))) rfl rfl (by decide) rfl rfl ?_
          obtain ⟨y672, ey672⟩ : ∃ q : Int64, q = i64 (Gx 14) := ⟨_, rfl⟩
          rw [← ey672]
          refine jx_lcmp (pc_q := 155) rfl rfl (fun r673 hr673 => ?_)
          refine jx_if_ne (pc_q := 158) (tg := 167) rfl rfl rfl (by omega) (by omega) (fun h674 => ?_) (fun h674 => ?_)
          · have _q := h674
            refine jx_inc (pc_q := 170) (l_q := jSto1 L 7 (.int (i32 ((s7 + (1)))))) (x := s7) rfl gL_7 (by decide) rfl rfl ?_
            obtain ⟨L675, eL675⟩ : ∃ q, q = jSto1 L 7 (.int (i32 ((s7 + (1))))) := ⟨_, rfl⟩
            rw [← eL675]
            have gL675_0 : jGet L675 0 = some (.ref 66) := eL675 ▸ jg_ne (by decide) gL_0 rfl
            have gL675_1 : jGet L675 1 = some (.int (i32 (many))) := eL675 ▸ jg_ne (by decide) gL_1 rfl
            have gL675_2 : jGet L675 2 = some (.int (i32 (row))) := eL675 ▸ jg_ne (by decide) gL_2 rfl
            have gL675_4 : jGet L675 4 = some (.int (i32 (kd))) := eL675 ▸ jg_ne (by decide) gL_4 rfl
            have gL675_5 : jGet L675 5 = some (.int (i32 (fr))) := eL675 ▸ jg_ne (by decide) gL_5 rfl
            have gL675_7 : jGet L675 7 = some (.int (i32 ((s7 + (1))))) := eL675 ▸ jg_eq
            refine jx_go (tg := 134) rfl rfl ?_
            have z676 := tz_f (tk3)
            exact ih134 _ (by omega) L675 Gx Ax (many) (row) (kd) (fr) ((s7 + (1))) (at3) (tk3) (fk3) rfl gL675_0 gL675_1 gL675_2 gL675_4 gL675_5 gL675_7 hWx hFx hSx hVx ((ex_at3)) ((ex_tk3)) ((ex_fk3)) ((fx_9)) ((fx_29)) ((fx_19)) ((fx_28)) (by omega) (by omega) (by omega) (by omega) (by omega) (by omega) (by omega) (by omega) (by omega) (by omega) (by omega) (by omega) (by omega) (iv_8)
          · have _q := h674
            refine jx_ld (pc_q := 159) (l_q := L) (st_q := [.ref 66]) rfl (jl_aloadn gL_0) ?_
            refine jx_ar (pc_q := 160) (st_q := [.int (i32 (2)), .ref 66]) rfl rfl rfl rfl ?_
            refine jx_ld (pc_q := 161) (l_q := L) (st_q := [.ref 66, .int (i32 (2)), .ref 66]) rfl (jl_aloadn gL_0) ?_
            have b677 : (-3000 : Int) ≤ Gx 12 ∧ Gx 12 ≤ 3002 := hWx.1 12
            refine jr_get (pc_q := 164) (i := 12) (v := .int (i32 (Gx 12))) rfl rfl (by decide) rfl rfl ?_
            refine jx_vr (pc_q := 167) (as := [.int (i32 (2)), .int (i32 (Gx 12))]) (st := []) rfl rfl rfl rfl ⟨rfl, rfl, Nat.le_of_ble_eq_true rfl⟩ rfl rfl (c_fail (dd := d) (hd := by omega) (hW := hWx) (kind := 2) (place := Gx 12) (fk := fk3) (e_fk := show Gx 16 = fk3 from (ex_fk3))  (h_kind := ⟨(by decide), (by decide)⟩) (h_place := ⟨(Int.le_trans (by decide : (-2147483648 : Int) ≤ -3000) b677.1), (Int.le_trans b677.2 (by decide : (3002 : Int) ≤ 2147483647))⟩)  (p_0 := by omega) (p_1 := by omega)) (fun o V_q hq => ?_)
            obtain ⟨G678, A679, fk2_680, rfl, rfl, hW681, hF682, e683, p684, -⟩ := hq
            have hF686 := Fr_tr hFx hF682 (Fr_sub (by decide)) (Fr_sub (by decide))
            have hS687 := Fx_f hSx hF682 (by decide)
            have hV688 := Fx_f hVx hF682 (by decide)
            have sf689 : wD A679 (sy) (sy1) := wD_fx (Sg_fr (sb := sy1) hF682 (by decide)) (by omega) iv_8
            have bfk2_680 : (0 : Int) ≤ fk2_680 ∧ fk2_680 ≤ 6 := e683 ▸ hW681.1 16
            refine .inl ⟨rfl, ?_⟩
            refine jx_inc (pc_q := 170) (l_q := jSto1 L 7 (.int (i32 ((s7 + (1)))))) (x := s7) rfl gL_7 (by decide) rfl rfl ?_
            obtain ⟨L690, eL690⟩ : ∃ q, q = jSto1 L 7 (.int (i32 ((s7 + (1))))) := ⟨_, rfl⟩
            rw [← eL690]
            have gL690_0 : jGet L690 0 = some (.ref 66) := eL690 ▸ jg_ne (by decide) gL_0 rfl
            have gL690_1 : jGet L690 1 = some (.int (i32 (many))) := eL690 ▸ jg_ne (by decide) gL_1 rfl
            have gL690_2 : jGet L690 2 = some (.int (i32 (row))) := eL690 ▸ jg_ne (by decide) gL_2 rfl
            have gL690_4 : jGet L690 4 = some (.int (i32 (kd))) := eL690 ▸ jg_ne (by decide) gL_4 rfl
            have gL690_5 : jGet L690 5 = some (.int (i32 (fr))) := eL690 ▸ jg_ne (by decide) gL_5 rfl
            have gL690_7 : jGet L690 7 = some (.int (i32 ((s7 + (1))))) := eL690 ▸ jg_eq
            refine jx_go (tg := 134) rfl rfl ?_
            have z691 := tz_f (tk3)
            exact ih134 _ (by omega) L690 G678 A679 (many) (row) (kd) (fr) ((s7 + (1))) (at3) (tk3) (fk2_680) rfl gL690_0 gL690_1 gL690_2 gL690_4 gL690_5 gL690_7 hW681 hF686 hS687 hV688 (((hF682.1 10 rfl).trans (ex_at3))) (((hF682.1 11 rfl).trans (ex_tk3))) ((e683)) (((hF682.1 9 rfl).trans (fx_9))) (((hF682.1 29 rfl).trans (fx_29))) (((hF682.1 19 rfl).trans (fx_19))) (((hF682.1 28 rfl).trans (fx_28))) (by omega) (by omega) (by omega) (by omega) (by omega) (by omega) (by omega) (by omega) (by omega) (by omega) (by omega) (by omega) (by omega) (sf689)
    refine jx_ld (pc_q := 101) (l_q := L) (st_q := [.ref 66]) rfl (jl_aloadn gL_0) ?_
    refine jx_vr (pc_q := 104) (as := []) (st := []) rfl rfl rfl rfl ⟨rfl, rfl, Nat.le_of_ble_eq_true rfl⟩ rfl rfl (c_bad (dd := d) (hd := by omega) (hW := hWx)  (fk := fk1) (e_fk := show Gx 16 = fk1 from (ex_fk1))    ) (fun o V_q hq => ?_)
    obtain ⟨r692, rfl, rfl, b693, q694⟩ := hq
    refine .inr ⟨_, rfl, ?_⟩
    rcases q694 with ⟨rfl, a695⟩ | ⟨rfl, a696⟩
    · have _q : True := trivial
      exfalso
      omega
    · have _q : True := trivial
      refine jx_if_ne (pc_q := 107) (tg := 215) rfl rfl rfl (by decide) (by decide) (fun h697 => ?_) (fun h697 => ?_)
      · have _q := h697
        exact absurd h697 (by omega)
      · have _q := h697
        refine jx_ld (pc_q := 109) (l_q := L) (st_q := [.int (i32 (more))]) rfl (jl_iload gL_6) ?_
        refine jx_if_eq (pc_q := 112) (tg := 215) rfl rfl rfl (Int.le_trans (by decide : (-2147483648 : Int) ≤ -2147483648) rx_more.1) (Int.le_trans rx_more.2 (by decide : (2147483647 : Int) ≤ 2147483647)) (fun h698 => ?_) (fun h698 => ?_)
        · have _q := h698
          have z699 := tz_f (tk1)
          exact c_readDeclaration_at_215 (X := X) (d := d) (c0 := c0) (c1 := c1) (G := G) (A := A) (T := T) (ln := ln) (le := le) (at0 := at0) (fk := fk) (tk0 := tk0) (li := li) (sy := sy) (na := na) (vi := vi) (hd := hd) (hW := hW) (e_ln := e_ln) (e_le := e_le) (e_at0 := e_at0) (e_fk := e_fk) (e_tk0 := e_tk0) (e_li := e_li) (e_sy := e_sy) (e_na := e_na) (e_vi := e_vi) (p_0 := p_0) (p_1 := p_1) (p_2 := p_2) (p_3 := p_3) (p_4 := p_4) L Gx Ax (fr) (at1) (tk1) (fk1) (sy1) (na1) gL_0 gL_5 hWx hFx hSx hVx ((ex_at1)) ((ex_tk1)) ((ex_fk1)) ((ex_sy1)) ((ex_na1)) ((fx_9)) ((fx_29)) (by omega) (by omega) (by omega) (by omega) (by omega) (by omega) (by omega) (iv_8)
        · have _q := h698
          refine jx_ld (pc_q := 113) (l_q := L) (st_q := [.ref 66]) rfl (jl_aloadn gL_0) ?_
          have z700 := tz_f (tk1)
          refine jr_get (pc_q := 116) (i := 11) (v := .int (i32 (tk1))) rfl rfl (by decide) (rFv_eq (by decide) (show Gx 11 = tk1 from (ex_tk1))) rfl ?_
          refine jx_ar (pc_q := 117) (st_q := [.int (i32 (1)), .int (i32 (tk1))]) rfl rfl rfl rfl ?_
          refine jx_icmp_eq (pc_q := 120) (tg := 130) rfl rfl rfl (Int.le_trans (by decide : (-2147483648 : Int) ≤ 0) b_tk1.1) (Int.le_trans b_tk1.2 (by decide : (5 : Int) ≤ 2147483647)) (by decide) (by decide) (fun h701 => ?_) (fun h701 => ?_)
          · have _q := h701
            refine jx_ld (pc_q := 132) (l_q := L) (st_q := [.int (i32 (fr))]) rfl (jl_iload gL_5) ?_
            refine jx_ld (pc_q := 134) (l_q := jSto1 L 7 (.int (i32 (fr)))) (st_q := []) rfl rfl ?_
            obtain ⟨L702, eL702⟩ : ∃ q, q = jSto1 L 7 (.int (i32 (fr))) := ⟨_, rfl⟩
            rw [← eL702]
            have gL702_0 : jGet L702 0 = some (.ref 66) := eL702 ▸ jg_ne (by decide) gL_0 rfl
            have gL702_1 : jGet L702 1 = some (.int (i32 (many))) := eL702 ▸ jg_ne (by decide) gL_1 rfl
            have gL702_2 : jGet L702 2 = some (.int (i32 (row))) := eL702 ▸ jg_ne (by decide) gL_2 rfl
            have gL702_4 : jGet L702 4 = some (.int (i32 (kd))) := eL702 ▸ jg_ne (by decide) gL_4 rfl
            have gL702_5 : jGet L702 5 = some (.int (i32 (fr))) := eL702 ▸ jg_ne (by decide) gL_5 rfl
            have gL702_6 : jGet L702 6 = some (.int (i32 (more))) := eL702 ▸ jg_ne (by decide) gL_6 rfl
            have gL702_7 : jGet L702 7 = some (.int (i32 (fr))) := eL702 ▸ jg_eq
            have z703 := tz_f (tk1)
            exact at_134 _ L702 Gx Ax (many) (row) (kd) (fr) (fr) (at1) (tk1) (fk1) rfl gL702_0 gL702_1 gL702_2 gL702_4 gL702_5 gL702_7 hWx hFx hSx hVx ((ex_at1)) ((ex_tk1)) ((ex_fk1)) ((fx_9)) ((fx_29)) ((ex_sy1)) ((ex_na1)) (by omega) (by omega) (by omega) (by omega) (by omega) (by omega) (by omega) (by omega) (by omega) (by omega) (by omega) (by omega) (by omega) (iv_8)
          · have _q := h701
            refine jx_ld (pc_q := 121) (l_q := L) (st_q := [.ref 66]) rfl (jl_aloadn gL_0) ?_
            refine jx_ar (pc_q := 122) (st_q := [.int (i32 (1)), .ref 66]) rfl rfl rfl rfl ?_
            refine jx_ld (pc_q := 123) (l_q := L) (st_q := [.ref 66, .int (i32 (1)), .ref 66]) rfl (jl_aloadn gL_0) ?_
            have b704 : (-3000 : Int) ≤ Gx 12 ∧ Gx 12 ≤ 3002 := hWx.1 12
            refine jr_get (pc_q := 126) (i := 12) (v := .int (i32 (Gx 12))) rfl rfl (by decide) rfl rfl ?_
            refine jx_vr (pc_q := 129) (as := [.int (i32 (1)), .int (i32 (Gx 12))]) (st := []) rfl rfl rfl rfl ⟨rfl, rfl, Nat.le_of_ble_eq_true rfl⟩ rfl rfl (c_fail (dd := d) (hd := by omega) (hW := hWx) (kind := 1) (place := Gx 12) (fk := fk1) (e_fk := show Gx 16 = fk1 from (ex_fk1))  (h_kind := ⟨(by decide), (by decide)⟩) (h_place := ⟨(Int.le_trans (by decide : (-2147483648 : Int) ≤ -3000) b704.1), (Int.le_trans b704.2 (by decide : (3002 : Int) ≤ 2147483647))⟩)  (p_0 := by omega) (p_1 := by omega)) (fun o V_q hq => ?_)
            obtain ⟨G705, A706, fk2_707, rfl, rfl, hW708, hF709, e710, p711, -⟩ := hq
            have hF713 := Fr_tr hFx hF709 (Fr_sub (by decide)) (Fr_sub (by decide))
            have hS714 := Fx_f hSx hF709 (by decide)
            have hV715 := Fx_f hVx hF709 (by decide)
            have sf716 : wD A706 (sy) (sy1) := wD_fx (Sg_fr (sb := sy1) hF709 (by decide)) (by omega) iv_8
            have bfk2_707 : (0 : Int) ≤ fk2_707 ∧ fk2_707 ≤ 6 := e710 ▸ hW708.1 16
            refine .inl ⟨rfl, ?_⟩
            refine jx_rt (v := none) rfl rfl rfl rfl rfl rfl ?_
            exact ⟨_, _, at1, fk2_707, ln, sy1, na1, vi, rfl, rfl, hW708, hF713, hS714, hV715, ((hF709.1 10 rfl).trans (ex_at1)), (e710), ((hF709.1 9 rfl).trans (fx_9)), ((hF709.1 19 rfl).trans (ex_sy1)), ((hF709.1 28 rfl).trans (ex_na1)), ((hF709.1 29 rfl).trans (fx_29)), by omega, by omega, by omega, by omega, by omega, by omega, by first | exact Or.inl (⟨by omega, by omega⟩)⟩
set_option maxRecDepth 20000 in
set_option maxHeartbeats 4000000 in
theorem c_readDeclaration_at_91 {X : jX} {d : Nat} {c0 c1 : jC} {G : Nat → Int} {A : Nat → Nat → Int} {T : jH} {ln le at0 fk tk0 li sy na vi : Int} (hd : 8 ≤ d + 1) (hW : Wk G A) (e_ln : G 9 = ln) (e_le : A 4 (ln).toNat = le) (e_at0 : G 10 = at0) (e_fk : G 16 = fk) (e_tk0 : G 11 = tk0) (e_li : G 3 = li) (e_sy : G 19 = sy) (e_na : G 28 = na) (e_vi : G 29 = vi) (p_0 : at0 ≤ le) (p_1 : ln < li) (p_2 : fk = 0) (p_3 : sy ≤ na + 2) (p_4 : vi ≤ sy) : ∀ (L : jL) (Gx : Nat → Int) (Ax : Nat → Nat → Int) (many row kd at5 tk5 fk5 : Int), jGet L 0 = some (.ref 66) → jGet L 1 = some (.int (i32 many)) → jGet L 2 = some (.int (i32 row)) → jGet L 4 = some (.int (i32 kd)) → Wk Gx Ax → Fr [9, 10, 11, 12, 13, 14, 16, 17, 18, 19, 28, 29] [6, 7, 8, 9, 10, 11, 12, 14] G A Gx Ax → Fx sr (sy) A Ax → Fx [14] (vi) A Ax → Gx 10 = at5 → Gx 11 = tk5 → Gx 16 = fk5 → Gx 9 = ln → Gx 29 = vi → Gx 19 = sy → Gx 28 = na → ((-2147483648 : Int) ≤ many ∧ many ≤ 2147483647) → ((-2147483648 : Int) ≤ row ∧ row ≤ 2147483647) → ((-2147483648 : Int) ≤ kd ∧ kd ≤ 2147483647) → (fk5 = 0) → (at0 ≤ at5) → (at5 ≤ le) → ((row = 1 ∧ 1 ≤ many ∧ many ≤ 64 ∧ (kd = 2 ∨ kd = 4)) ∨ (row = 0 ∧ (kd = 1 ∨ kd = 3))) → wj X d jm294 (91, L, [], rV c0 c1 Gx Ax T) (fun o V_q => ∃ (G_q : Nat → Int) (A_q : Nat → Nat → Int) (at2 : Int) (fk2 : Int) (ln2 : Int) (sy2 : Int) (na2 : Int) (vi2 : Int), V_q = rV c0 c1 G_q A_q T ∧ o = .inl none ∧ Wk G_q A_q ∧ Fr [9, 10, 11, 12, 13, 14, 16, 17, 18, 19, 28, 29] [6, 7, 8, 9, 10, 11, 12, 14] G A G_q A_q ∧ Fx sr (sy) A A_q ∧ Fx [14] (vi) A A_q ∧ G_q 10 = at2 ∧ G_q 16 = fk2 ∧ G_q 9 = ln2 ∧ G_q 19 = sy2 ∧ G_q 28 = na2 ∧ G_q 29 = vi2 ∧ (at0 ≤ at2) ∧ (at2 ≤ le) ∧ (sy ≤ sy2) ∧ (sy2 ≤ na2 + 2) ∧ (vi ≤ vi2) ∧ (vi2 - vi ≤ sy2 - sy) ∧ (((1 ≤ fk2) ∧ (ln2 = ln ∨ ln2 = ln + 1)) ∨ ((fk2 = 0) ∧ (ln2 = ln + 1) ∧ (wD A_q (sy) (sy2)) ∧ (DS A_q (vi) (vi2) (sy) (sy2))))) := by
  have hF0 : Fr [9, 10, 11, 12, 13, 14, 16, 17, 18, 19, 28, 29] [6, 7, 8, 9, 10, 11, 12, 14] G A G A := Fr_rf
  have hS0 : Fx sr (sy) A A := Fx_rf
  have hV0 : Fx [14] (vi) A A := Fx_rf
  have b_ln : (0 : Int) ≤ ln ∧ ln ≤ 3000 := e_ln ▸ hW.1 9
  have b_le : (0 : Int) ≤ le ∧ le ≤ 3000 := e_le ▸ hW.2 4 _
  have b_at0 : (0 : Int) ≤ at0 ∧ at0 ≤ 3002 := e_at0 ▸ hW.1 10
  have b_fk : (0 : Int) ≤ fk ∧ fk ≤ 6 := e_fk ▸ hW.1 16
  have b_tk0 : (0 : Int) ≤ tk0 ∧ tk0 ≤ 5 := e_tk0 ▸ hW.1 11
  have b_li : (0 : Int) ≤ li ∧ li ≤ 3000 := e_li ▸ hW.1 3
  have b_sy : (0 : Int) ≤ sy ∧ sy ≤ 202 := e_sy ▸ hW.1 19
  have b_na : (0 : Int) ≤ na ∧ na ≤ 200 := e_na ▸ hW.1 28
  have b_vi : (0 : Int) ≤ vi ∧ vi ≤ 202 := e_vi ▸ hW.1 29
  intro L Gx Ax many row kd at5 tk5 fk5 gL_0 gL_1 gL_2 gL_4 hWx hFx hSx hVx ex_at5 ex_tk5 ex_fk5 fx_9 fx_29 fx_19 fx_28 rx_many rx_row rx_kd iv_0 iv_1 iv_2 iv_3
  have b_at5 : (0 : Int) ≤ at5 ∧ at5 ≤ 3002 := ex_at5 ▸ hWx.1 10
  have z_tk5 := tz_f tk5
  have b_tk5 : (0 : Int) ≤ tk5 ∧ tk5 ≤ 5 := ex_tk5 ▸ hWx.1 11
  have b_fk5 : (0 : Int) ≤ fk5 ∧ fk5 ≤ 6 := ex_fk5 ▸ hWx.1 16
  refine jx_ld (pc_q := 92) (l_q := L) (st_q := [.ref 66]) rfl (jl_aloadn gL_0) ?_
  refine jr_get (pc_q := 95) (i := 19) (v := .int (i32 (sy))) rfl rfl (by decide) (rFv_eq (by decide) (show Gx 19 = sy from (fx_19))) rfl ?_
  refine jx_ld (pc_q := 97) (l_q := jSto1 L 5 (.int (i32 (sy)))) (st_q := []) rfl rfl ?_
  obtain ⟨L717, eL717⟩ : ∃ q, q = jSto1 L 5 (.int (i32 (sy))) := ⟨_, rfl⟩
  rw [← eL717]
  have gL717_0 : jGet L717 0 = some (.ref 66) := eL717 ▸ jg_ne (by decide) gL_0 rfl
  have gL717_1 : jGet L717 1 = some (.int (i32 (many))) := eL717 ▸ jg_ne (by decide) gL_1 rfl
  have gL717_2 : jGet L717 2 = some (.int (i32 (row))) := eL717 ▸ jg_ne (by decide) gL_2 rfl
  have gL717_4 : jGet L717 4 = some (.int (i32 (kd))) := eL717 ▸ jg_ne (by decide) gL_4 rfl
  have gL717_5 : jGet L717 5 = some (.int (i32 (sy))) := eL717 ▸ jg_eq
  refine jx_ar (pc_q := 98) (st_q := [.int (i32 (1))]) rfl rfl rfl rfl ?_
  refine jx_ld (pc_q := 100) (l_q := jSto1 L717 6 (.int (i32 (1)))) (st_q := []) rfl rfl ?_
  obtain ⟨L718, eL718⟩ : ∃ q, q = jSto1 L717 6 (.int (i32 (1))) := ⟨_, rfl⟩
  rw [← eL718]
  have gL718_0 : jGet L718 0 = some (.ref 66) := eL718 ▸ jg_ne (by decide) gL717_0 rfl
  have gL718_1 : jGet L718 1 = some (.int (i32 (many))) := eL718 ▸ jg_ne (by decide) gL717_1 rfl
  have gL718_2 : jGet L718 2 = some (.int (i32 (row))) := eL718 ▸ jg_ne (by decide) gL717_2 rfl
  have gL718_4 : jGet L718 4 = some (.int (i32 (kd))) := eL718 ▸ jg_ne (by decide) gL717_4 rfl
  have gL718_5 : jGet L718 5 = some (.int (i32 (sy))) := eL718 ▸ jg_ne (by decide) gL717_5 rfl
  have gL718_6 : jGet L718 6 = some (.int (i32 (1))) := eL718 ▸ jg_eq
  have z719 := tz_f (tk5)
  exact c_readDeclaration_at_100 (X := X) (d := d) (c0 := c0) (c1 := c1) (G := G) (A := A) (T := T) (ln := ln) (le := le) (at0 := at0) (fk := fk) (tk0 := tk0) (li := li) (sy := sy) (na := na) (vi := vi) (hd := hd) (hW := hW) (e_ln := e_ln) (e_le := e_le) (e_at0 := e_at0) (e_fk := e_fk) (e_tk0 := e_tk0) (e_li := e_li) (e_sy := e_sy) (e_na := e_na) (e_vi := e_vi) (p_0 := p_0) (p_1 := p_1) (p_2 := p_2) (p_3 := p_3) (p_4 := p_4) _ L718 Gx Ax (many) (row) (kd) (sy) (1) (at5) (tk5) (fk5) (sy) (na) rfl gL718_0 gL718_1 gL718_2 gL718_4 gL718_5 gL718_6 hWx hFx hSx hVx ((ex_at5)) ((ex_tk5)) ((ex_fk5)) ((fx_19)) ((fx_28)) ((fx_9)) ((fx_29)) (by omega) (by omega) (by omega) (by omega) (by omega) (by omega) (by omega) (by omega) (by omega) (by omega) (by omega) (by omega) (by omega) (wD_nil)
set_option maxRecDepth 20000 in
set_option maxHeartbeats 4000000 in
theorem c_readDeclaration_at_91p {X : jX} {d : Nat} {c0 c1 : jC} {G : Nat → Int} {A : Nat → Nat → Int} {T : jH} {ln le at0 fk tk0 li sy na vi : Int} (hd : 8 ≤ d + 1) (hW : Wk G A) (e_ln : G 9 = ln) (e_le : A 4 (ln).toNat = le) (e_at0 : G 10 = at0) (e_fk : G 16 = fk) (e_tk0 : G 11 = tk0) (e_li : G 3 = li) (e_sy : G 19 = sy) (e_na : G 28 = na) (e_vi : G 29 = vi) (p_0 : at0 ≤ le) (p_1 : ln < li) (p_2 : fk = 0) (p_3 : sy ≤ na + 2) (p_4 : vi ≤ sy) : ∀ (L : jL) (Gx : Nat → Int) (Ax : Nat → Nat → Int) (many row kd at5 tk5 fk5 : Int), jGet L 0 = some (.ref 66) → jGet L 1 = some (.int (i32 many)) → jGet L 2 = some (.int (i32 row)) → jGet L 4 = some (.int (i32 kd)) → Wk Gx Ax → Fr [9, 10, 11, 12, 13, 14, 16, 17, 18, 19, 28, 29] [6, 7, 8, 9, 10, 11, 12, 14] G A Gx Ax → Fx sr (sy) A Ax → Fx [14] (vi) A Ax → Gx 10 = at5 → Gx 11 = tk5 → Gx 16 = fk5 → Gx 9 = ln → Gx 29 = vi → Gx 19 = sy → Gx 28 = na → ((-2147483648 : Int) ≤ many ∧ many ≤ 2147483647) → ((-2147483648 : Int) ≤ row ∧ row ≤ 2147483647) → ((-2147483648 : Int) ≤ kd ∧ kd ≤ 2147483647) → (1 ≤ fk5) → (at0 ≤ at5) → (at5 ≤ le) → wj X d jm294 (91, L, [], rV c0 c1 Gx Ax T) (fun o V_q => ∃ (G_q : Nat → Int) (A_q : Nat → Nat → Int) (at2 : Int) (fk2 : Int) (ln2 : Int) (sy2 : Int) (na2 : Int) (vi2 : Int), V_q = rV c0 c1 G_q A_q T ∧ o = .inl none ∧ Wk G_q A_q ∧ Fr [9, 10, 11, 12, 13, 14, 16, 17, 18, 19, 28, 29] [6, 7, 8, 9, 10, 11, 12, 14] G A G_q A_q ∧ Fx sr (sy) A A_q ∧ Fx [14] (vi) A A_q ∧ G_q 10 = at2 ∧ G_q 16 = fk2 ∧ G_q 9 = ln2 ∧ G_q 19 = sy2 ∧ G_q 28 = na2 ∧ G_q 29 = vi2 ∧ (at0 ≤ at2) ∧ (at2 ≤ le) ∧ (sy ≤ sy2) ∧ (sy2 ≤ na2 + 2) ∧ (vi ≤ vi2) ∧ (vi2 - vi ≤ sy2 - sy) ∧ (((1 ≤ fk2) ∧ (ln2 = ln ∨ ln2 = ln + 1)) ∨ ((fk2 = 0) ∧ (ln2 = ln + 1) ∧ (wD A_q (sy) (sy2)) ∧ (DS A_q (vi) (vi2) (sy) (sy2))))) := by
  have hF0 : Fr [9, 10, 11, 12, 13, 14, 16, 17, 18, 19, 28, 29] [6, 7, 8, 9, 10, 11, 12, 14] G A G A := Fr_rf
  have hS0 : Fx sr (sy) A A := Fx_rf
  have hV0 : Fx [14] (vi) A A := Fx_rf
  have b_ln : (0 : Int) ≤ ln ∧ ln ≤ 3000 := e_ln ▸ hW.1 9
  have b_le : (0 : Int) ≤ le ∧ le ≤ 3000 := e_le ▸ hW.2 4 _
  have b_at0 : (0 : Int) ≤ at0 ∧ at0 ≤ 3002 := e_at0 ▸ hW.1 10
  have b_fk : (0 : Int) ≤ fk ∧ fk ≤ 6 := e_fk ▸ hW.1 16
  have b_tk0 : (0 : Int) ≤ tk0 ∧ tk0 ≤ 5 := e_tk0 ▸ hW.1 11
  have b_li : (0 : Int) ≤ li ∧ li ≤ 3000 := e_li ▸ hW.1 3
  have b_sy : (0 : Int) ≤ sy ∧ sy ≤ 202 := e_sy ▸ hW.1 19
  have b_na : (0 : Int) ≤ na ∧ na ≤ 200 := e_na ▸ hW.1 28
  have b_vi : (0 : Int) ≤ vi ∧ vi ≤ 202 := e_vi ▸ hW.1 29
  intro L Gx Ax many row kd at5 tk5 fk5 gL_0 gL_1 gL_2 gL_4 hWx hFx hSx hVx ex_at5 ex_tk5 ex_fk5 fx_9 fx_29 fx_19 fx_28 rx_many rx_row rx_kd iv_0 iv_1 iv_2
  have b_at5 : (0 : Int) ≤ at5 ∧ at5 ≤ 3002 := ex_at5 ▸ hWx.1 10
  have z_tk5 := tz_f tk5
  have b_tk5 : (0 : Int) ≤ tk5 ∧ tk5 ≤ 5 := ex_tk5 ▸ hWx.1 11
  have b_fk5 : (0 : Int) ≤ fk5 ∧ fk5 ≤ 6 := ex_fk5 ▸ hWx.1 16
  refine jx_ld (pc_q := 92) (l_q := L) (st_q := [.ref 66]) rfl (jl_aloadn gL_0) ?_
  refine jr_get (pc_q := 95) (i := 19) (v := .int (i32 (sy))) rfl rfl (by decide) (rFv_eq (by decide) (show Gx 19 = sy from (fx_19))) rfl ?_
  refine jx_ld (pc_q := 97) (l_q := jSto1 L 5 (.int (i32 (sy)))) (st_q := []) rfl rfl ?_
  obtain ⟨L720, eL720⟩ : ∃ q, q = jSto1 L 5 (.int (i32 (sy))) := ⟨_, rfl⟩
  rw [← eL720]
  have gL720_0 : jGet L720 0 = some (.ref 66) := eL720 ▸ jg_ne (by decide) gL_0 rfl
  have gL720_1 : jGet L720 1 = some (.int (i32 (many))) := eL720 ▸ jg_ne (by decide) gL_1 rfl
  have gL720_2 : jGet L720 2 = some (.int (i32 (row))) := eL720 ▸ jg_ne (by decide) gL_2 rfl
  have gL720_4 : jGet L720 4 = some (.int (i32 (kd))) := eL720 ▸ jg_ne (by decide) gL_4 rfl
  have gL720_5 : jGet L720 5 = some (.int (i32 (sy))) := eL720 ▸ jg_eq
  refine jx_ar (pc_q := 98) (st_q := [.int (i32 (1))]) rfl rfl rfl rfl ?_
  refine jx_ld (pc_q := 100) (l_q := jSto1 L720 6 (.int (i32 (1)))) (st_q := []) rfl rfl ?_
  obtain ⟨L721, eL721⟩ : ∃ q, q = jSto1 L720 6 (.int (i32 (1))) := ⟨_, rfl⟩
  rw [← eL721]
  have gL721_0 : jGet L721 0 = some (.ref 66) := eL721 ▸ jg_ne (by decide) gL720_0 rfl
  have gL721_1 : jGet L721 1 = some (.int (i32 (many))) := eL721 ▸ jg_ne (by decide) gL720_1 rfl
  have gL721_2 : jGet L721 2 = some (.int (i32 (row))) := eL721 ▸ jg_ne (by decide) gL720_2 rfl
  have gL721_4 : jGet L721 4 = some (.int (i32 (kd))) := eL721 ▸ jg_ne (by decide) gL720_4 rfl
  have gL721_5 : jGet L721 5 = some (.int (i32 (sy))) := eL721 ▸ jg_ne (by decide) gL720_5 rfl
  have gL721_6 : jGet L721 6 = some (.int (i32 (1))) := eL721 ▸ jg_eq
  refine jx_ld (pc_q := 101) (l_q := L721) (st_q := [.ref 66]) rfl (jl_aloadn gL721_0) ?_
  refine jx_vr (pc_q := 104) (as := []) (st := []) rfl rfl rfl rfl ⟨rfl, rfl, Nat.le_of_ble_eq_true rfl⟩ rfl rfl (c_bad (dd := d) (hd := by omega) (hW := hWx)  (fk := fk5) (e_fk := show Gx 16 = fk5 from (ex_fk5))    ) (fun o V_q hq => ?_)
  obtain ⟨r722, rfl, rfl, b723, q724⟩ := hq
  refine .inr ⟨_, rfl, ?_⟩
  rcases q724 with ⟨rfl, a725⟩ | ⟨rfl, a726⟩
  · have _q : True := trivial
    refine jx_if_ne (pc_q := 107) (tg := 215) rfl rfl rfl (by decide) (by decide) (fun h727 => ?_) (fun h727 => ?_)
    · have _q := h727
      have z728 := tz_f (tk5)
      exact c_readDeclaration_at_215p (X := X) (d := d) (c0 := c0) (c1 := c1) (G := G) (A := A) (T := T) (ln := ln) (le := le) (at0 := at0) (fk := fk) (tk0 := tk0) (li := li) (sy := sy) (na := na) (vi := vi) (hd := hd) (hW := hW) (e_ln := e_ln) (e_le := e_le) (e_at0 := e_at0) (e_fk := e_fk) (e_tk0 := e_tk0) (e_li := e_li) (e_sy := e_sy) (e_na := e_na) (e_vi := e_vi) (p_0 := p_0) (p_1 := p_1) (p_2 := p_2) (p_3 := p_3) (p_4 := p_4) L721 Gx Ax (sy) (at5) (tk5) (fk5) (sy) (na) gL721_0 gL721_5 hWx hFx hSx hVx ((ex_at5)) ((ex_tk5)) ((ex_fk5)) ((fx_19)) ((fx_28)) ((fx_9)) ((fx_29)) (by omega) (by omega) (by omega) (by omega) (by omega) (by omega) (by omega)
    · have _q := h727
      exact absurd h727 (by omega)
  · have _q : True := trivial
    exfalso
    omega
set_option maxRecDepth 20000 in
set_option maxHeartbeats 4000000 in
theorem c_readDeclaration_at_35 {X : jX} {d : Nat} {c0 c1 : jC} {G : Nat → Int} {A : Nat → Nat → Int} {T : jH} {ln le at0 fk tk0 li sy na vi : Int} (hd : 8 ≤ d + 1) (hW : Wk G A) (e_ln : G 9 = ln) (e_le : A 4 (ln).toNat = le) (e_at0 : G 10 = at0) (e_fk : G 16 = fk) (e_tk0 : G 11 = tk0) (e_li : G 3 = li) (e_sy : G 19 = sy) (e_na : G 28 = na) (e_vi : G 29 = vi) (p_0 : at0 ≤ le) (p_1 : ln < li) (p_2 : fk = 0) (p_3 : sy ≤ na + 2) (p_4 : vi ≤ sy) : ∀ (L : jL) (Gx : Nat → Int) (Ax : Nat → Nat → Int) (many row at5 tk5 fk5 : Int), jGet L 0 = some (.ref 66) → jGet L 1 = some (.int (i32 many)) → jGet L 2 = some (.int (i32 row)) → Wk Gx Ax → Fr [9, 10, 11, 12, 13, 14, 16, 17, 18, 19, 28, 29] [6, 7, 8, 9, 10, 11, 12, 14] G A Gx Ax → Fx sr (sy) A Ax → Fx [14] (vi) A Ax → Gx 10 = at5 → Gx 11 = tk5 → Gx 16 = fk5 → Gx 9 = ln → Gx 29 = vi → Gx 19 = sy → Gx 28 = na → ((-2147483648 : Int) ≤ many ∧ many ≤ 2147483647) → ((-2147483648 : Int) ≤ row ∧ row ≤ 2147483647) → (fk5 = 0) → (at0 ≤ at5) → (at5 ≤ le) → (0 ≤ row ∧ row ≤ 1) → (row = 0 ∨ (1 ≤ many ∧ many ≤ 64)) → wj X d jm294 (35, L, [], rV c0 c1 Gx Ax T) (fun o V_q => ∃ (G_q : Nat → Int) (A_q : Nat → Nat → Int) (at2 : Int) (fk2 : Int) (ln2 : Int) (sy2 : Int) (na2 : Int) (vi2 : Int), V_q = rV c0 c1 G_q A_q T ∧ o = .inl none ∧ Wk G_q A_q ∧ Fr [9, 10, 11, 12, 13, 14, 16, 17, 18, 19, 28, 29] [6, 7, 8, 9, 10, 11, 12, 14] G A G_q A_q ∧ Fx sr (sy) A A_q ∧ Fx [14] (vi) A A_q ∧ G_q 10 = at2 ∧ G_q 16 = fk2 ∧ G_q 9 = ln2 ∧ G_q 19 = sy2 ∧ G_q 28 = na2 ∧ G_q 29 = vi2 ∧ (at0 ≤ at2) ∧ (at2 ≤ le) ∧ (sy ≤ sy2) ∧ (sy2 ≤ na2 + 2) ∧ (vi ≤ vi2) ∧ (vi2 - vi ≤ sy2 - sy) ∧ (((1 ≤ fk2) ∧ (ln2 = ln ∨ ln2 = ln + 1)) ∨ ((fk2 = 0) ∧ (ln2 = ln + 1) ∧ (wD A_q (sy) (sy2)) ∧ (DS A_q (vi) (vi2) (sy) (sy2))))) := by
  have hF0 : Fr [9, 10, 11, 12, 13, 14, 16, 17, 18, 19, 28, 29] [6, 7, 8, 9, 10, 11, 12, 14] G A G A := Fr_rf
  have hS0 : Fx sr (sy) A A := Fx_rf
  have hV0 : Fx [14] (vi) A A := Fx_rf
  have b_ln : (0 : Int) ≤ ln ∧ ln ≤ 3000 := e_ln ▸ hW.1 9
  have b_le : (0 : Int) ≤ le ∧ le ≤ 3000 := e_le ▸ hW.2 4 _
  have b_at0 : (0 : Int) ≤ at0 ∧ at0 ≤ 3002 := e_at0 ▸ hW.1 10
  have b_fk : (0 : Int) ≤ fk ∧ fk ≤ 6 := e_fk ▸ hW.1 16
  have b_tk0 : (0 : Int) ≤ tk0 ∧ tk0 ≤ 5 := e_tk0 ▸ hW.1 11
  have b_li : (0 : Int) ≤ li ∧ li ≤ 3000 := e_li ▸ hW.1 3
  have b_sy : (0 : Int) ≤ sy ∧ sy ≤ 202 := e_sy ▸ hW.1 19
  have b_na : (0 : Int) ≤ na ∧ na ≤ 200 := e_na ▸ hW.1 28
  have b_vi : (0 : Int) ≤ vi ∧ vi ≤ 202 := e_vi ▸ hW.1 29
  intro L Gx Ax many row at5 tk5 fk5 gL_0 gL_1 gL_2 hWx hFx hSx hVx ex_at5 ex_tk5 ex_fk5 fx_9 fx_29 fx_19 fx_28 rx_many rx_row iv_0 iv_1 iv_2 iv_3 iv_4
  have b_at5 : (0 : Int) ≤ at5 ∧ at5 ≤ 3002 := ex_at5 ▸ hWx.1 10
  have z_tk5 := tz_f tk5
  have b_tk5 : (0 : Int) ≤ tk5 ∧ tk5 ≤ 5 := ex_tk5 ▸ hWx.1 11
  have b_fk5 : (0 : Int) ≤ fk5 ∧ fk5 ≤ 6 := ex_fk5 ▸ hWx.1 16
  refine jx_ld (pc_q := 36) (l_q := L) (st_q := [.ref 66]) rfl (jl_aloadn gL_0) ?_
  refine jx_ar (pc_q := 38) (st_q := [.int (i32 (9)), .ref 66]) rfl rfl rfl rfl ?_
  have b729 : (-2147483648 : Int) ≤ Gx 13 ∧ Gx 13 ≤ 2147483647 := hWx.1 13
  refine jx_vr (pc_q := 41) (as := [.int (i32 (9))]) (st := []) rfl rfl rfl rfl ⟨rfl, rfl, Nat.le_of_ble_eq_true rfl⟩ rfl rfl (c_isKey (dd := d) (hd := by omega) (hW := hWx) (k := 9) (tk := tk5) (e_tk := show Gx 11 = tk5 from (ex_tk5)) (tn := Gx 13) (e_tn := show Gx 13 = Gx 13 from rfl)  (h_k := ⟨(by decide), (by decide)⟩)  ) (fun o V_q hq => ?_)
  obtain ⟨r730, rfl, rfl, b731, q732⟩ := hq
  refine .inr ⟨_, rfl, ?_⟩
  rcases q732 with ⟨rfl, a733, a734, a735⟩ | rfl
  · have _q : True := trivial
    refine jx_ld (pc_q := 42) (l_q := jSto1 L 3 (.int (i32 (1)))) (st_q := []) rfl rfl ?_
    obtain ⟨L736, eL736⟩ : ∃ q, q = jSto1 L 3 (.int (i32 (1))) := ⟨_, rfl⟩
    rw [← eL736]
    have gL736_0 : jGet L736 0 = some (.ref 66) := eL736 ▸ jg_ne (by decide) gL_0 rfl
    have gL736_1 : jGet L736 1 = some (.int (i32 (many))) := eL736 ▸ jg_ne (by decide) gL_1 rfl
    have gL736_2 : jGet L736 2 = some (.int (i32 (row))) := eL736 ▸ jg_ne (by decide) gL_2 rfl
    have gL736_3 : jGet L736 3 = some (.int (i32 (1))) := eL736 ▸ jg_eq
    refine jx_ld (pc_q := 43) (l_q := L736) (st_q := [.ref 66]) rfl (jl_aloadn gL736_0) ?_
    refine jx_ld (pc_q := 44) (l_q := L736) (st_q := [.int (i32 (1)), .ref 66]) rfl (jl_iloadn gL736_3) ?_
    refine jx_if_ne (pc_q := 47) (tg := 56) rfl rfl rfl (by decide) (by decide) (fun h737 => ?_) (fun h737 => ?_)
    · have _q := h737
      refine jx_ar (pc_q := 57) (st_q := [.int (i32 (1)), .ref 66]) rfl rfl rfl rfl ?_
      refine jx_go (tg := 61) rfl rfl ?_
      refine jx_vr (pc_q := 64) (as := [.int (i32 (1))]) (st := []) rfl rfl rfl rfl ⟨rfl, rfl, Nat.le_of_ble_eq_true rfl⟩ rfl rfl (c_need (dd := d) (hd := by omega) (hW := hWx) (g := 1) (ln := ln) (e_ln := show Gx 9 = ln from (fx_9)) (le := le) (e_le := show Ax 4 (ln).toNat = le from (congrFun (hFx.2 4 rfl) _).trans (e_le)) (at0 := at5) (e_at0 := show Gx 10 = at5 from (ex_at5)) (fk := fk5) (e_fk := show Gx 16 = fk5 from (ex_fk5)) (tk0 := tk5) (e_tk0 := show Gx 11 = tk5 from (ex_tk5))  (h_g := ⟨(by decide), (by decide)⟩)  (p_0 := by omega)) (fun o V_q hq => ?_)
      obtain ⟨G738, A739, at2_740, tk2_741, fk2_742, rfl, rfl, hW743, hF744, e745, e746, e747, p748, p749, q750⟩ := hq
      have hF751 := Fr_tr hFx hF744 (Fr_sub (by decide)) (Fr_sub (by decide))
      have hS752 := Fx_f hSx hF744 (by decide)
      have hV753 := Fx_f hVx hF744 (by decide)
      have bat2_740 : (0 : Int) ≤ at2_740 ∧ at2_740 ≤ 3002 := e745 ▸ hW743.1 10
      have ztk2_741 := tz_b tk2_741
      have btk2_741 : (0 : Int) ≤ tk2_741 ∧ tk2_741 ≤ 5 := e746 ▸ hW743.1 11
      have bfk2_742 : (0 : Int) ≤ fk2_742 ∧ fk2_742 ≤ 6 := e747 ▸ hW743.1 16
      refine .inl ⟨rfl, ?_⟩
      rcases q750 with ⟨a754, a755, a756, a757⟩ | ⟨a758, a759, a760, a761⟩
      · have _q : True := trivial
        refine jx_ld (pc_q := 65) (l_q := L736) (st_q := [.int (i32 (1))]) rfl (jl_iloadn gL736_3) ?_
        refine jx_if_eq (pc_q := 68) (tg := 80) rfl rfl rfl (by decide) (by decide) (fun h762 => ?_) (fun h762 => ?_)
        · have _q := h762
          exact absurd h762 (by omega)
        · have _q := h762
          refine jx_ld (pc_q := 69) (l_q := L736) (st_q := [.int (i32 (row))]) rfl (jl_iloadn gL736_2) ?_
          refine jx_if_eq (pc_q := 72) (tg := 76) rfl rfl rfl (Int.le_trans (by decide : (-2147483648 : Int) ≤ -2147483648) rx_row.1) (Int.le_trans rx_row.2 (by decide : (2147483647 : Int) ≤ 2147483647)) (fun h763 => ?_) (fun h763 => ?_)
          · have _q := h763
            refine jx_ar (pc_q := 77) (st_q := [.int (i32 (1))]) rfl rfl rfl rfl ?_
            refine jx_go (tg := 89) rfl rfl ?_
            refine jx_ld (pc_q := 91) (l_q := jSto1 L736 4 (.int (i32 (1)))) (st_q := []) rfl rfl ?_
            obtain ⟨L764, eL764⟩ : ∃ q, q = jSto1 L736 4 (.int (i32 (1))) := ⟨_, rfl⟩
            rw [← eL764]
            have gL764_0 : jGet L764 0 = some (.ref 66) := eL764 ▸ jg_ne (by decide) gL736_0 rfl
            have gL764_1 : jGet L764 1 = some (.int (i32 (many))) := eL764 ▸ jg_ne (by decide) gL736_1 rfl
            have gL764_2 : jGet L764 2 = some (.int (i32 (row))) := eL764 ▸ jg_ne (by decide) gL736_2 rfl
            have gL764_3 : jGet L764 3 = some (.int (i32 (1))) := eL764 ▸ jg_ne (by decide) gL736_3 rfl
            have gL764_4 : jGet L764 4 = some (.int (i32 (1))) := eL764 ▸ jg_eq
            have z765 := tz_f (tk2_741)
            exact c_readDeclaration_at_91p (X := X) (d := d) (c0 := c0) (c1 := c1) (G := G) (A := A) (T := T) (ln := ln) (le := le) (at0 := at0) (fk := fk) (tk0 := tk0) (li := li) (sy := sy) (na := na) (vi := vi) (hd := hd) (hW := hW) (e_ln := e_ln) (e_le := e_le) (e_at0 := e_at0) (e_fk := e_fk) (e_tk0 := e_tk0) (e_li := e_li) (e_sy := e_sy) (e_na := e_na) (e_vi := e_vi) (p_0 := p_0) (p_1 := p_1) (p_2 := p_2) (p_3 := p_3) (p_4 := p_4) L764 G738 A739 (many) (row) (1) (at2_740) (tk2_741) (fk2_742) gL764_0 gL764_1 gL764_2 gL764_4 hW743 hF751 hS752 hV753 ((e745)) ((e746)) ((e747)) (((hF744.1 9 rfl).trans (fx_9))) (((hF744.1 29 rfl).trans (fx_29))) (((hF744.1 19 rfl).trans (fx_19))) (((hF744.1 28 rfl).trans (fx_28))) (by omega) (by omega) (by omega) (by omega) (by omega) (by omega)
          · have _q := h763
            refine jx_ar (pc_q := 73) (st_q := [.int (i32 (2))]) rfl rfl rfl rfl ?_
            refine jx_go (tg := 89) rfl rfl ?_
            refine jx_ld (pc_q := 91) (l_q := jSto1 L736 4 (.int (i32 (2)))) (st_q := []) rfl rfl ?_
            obtain ⟨L766, eL766⟩ : ∃ q, q = jSto1 L736 4 (.int (i32 (2))) := ⟨_, rfl⟩
            rw [← eL766]
            have gL766_0 : jGet L766 0 = some (.ref 66) := eL766 ▸ jg_ne (by decide) gL736_0 rfl
            have gL766_1 : jGet L766 1 = some (.int (i32 (many))) := eL766 ▸ jg_ne (by decide) gL736_1 rfl
            have gL766_2 : jGet L766 2 = some (.int (i32 (row))) := eL766 ▸ jg_ne (by decide) gL736_2 rfl
            have gL766_3 : jGet L766 3 = some (.int (i32 (1))) := eL766 ▸ jg_ne (by decide) gL736_3 rfl
            have gL766_4 : jGet L766 4 = some (.int (i32 (2))) := eL766 ▸ jg_eq
            have z767 := tz_f (tk2_741)
            exact c_readDeclaration_at_91p (X := X) (d := d) (c0 := c0) (c1 := c1) (G := G) (A := A) (T := T) (ln := ln) (le := le) (at0 := at0) (fk := fk) (tk0 := tk0) (li := li) (sy := sy) (na := na) (vi := vi) (hd := hd) (hW := hW) (e_ln := e_ln) (e_le := e_le) (e_at0 := e_at0) (e_fk := e_fk) (e_tk0 := e_tk0) (e_li := e_li) (e_sy := e_sy) (e_na := e_na) (e_vi := e_vi) (p_0 := p_0) (p_1 := p_1) (p_2 := p_2) (p_3 := p_3) (p_4 := p_4) L766 G738 A739 (many) (row) (2) (at2_740) (tk2_741) (fk2_742) gL766_0 gL766_1 gL766_2 gL766_4 hW743 hF751 hS752 hV753 ((e745)) ((e746)) ((e747)) (((hF744.1 9 rfl).trans (fx_9))) (((hF744.1 29 rfl).trans (fx_29))) (((hF744.1 19 rfl).trans (fx_19))) (((hF744.1 28 rfl).trans (fx_28))) (by omega) (by omega) (by omega) (by omega) (by omega) (by omega)
      · have _q : True := trivial
        refine jx_ld (pc_q := 65) (l_q := L736) (st_q := [.int (i32 (1))]) rfl (jl_iloadn gL736_3) ?_
        refine jx_if_eq (pc_q := 68) (tg := 80) rfl rfl rfl (by decide) (by decide) (fun h768 => ?_) (fun h768 => ?_)
        · have _q := h768
          exact absurd h768 (by omega)
        · have _q := h768
          refine jx_ld (pc_q := 69) (l_q := L736) (st_q := [.int (i32 (row))]) rfl (jl_iloadn gL736_2) ?_
          refine jx_if_eq (pc_q := 72) (tg := 76) rfl rfl rfl (Int.le_trans (by decide : (-2147483648 : Int) ≤ -2147483648) rx_row.1) (Int.le_trans rx_row.2 (by decide : (2147483647 : Int) ≤ 2147483647)) (fun h769 => ?_) (fun h769 => ?_)
          · have _q := h769
            refine jx_ar (pc_q := 77) (st_q := [.int (i32 (1))]) rfl rfl rfl rfl ?_
            refine jx_go (tg := 89) rfl rfl ?_
            refine jx_ld (pc_q := 91) (l_q := jSto1 L736 4 (.int (i32 (1)))) (st_q := []) rfl rfl ?_
            obtain ⟨L770, eL770⟩ : ∃ q, q = jSto1 L736 4 (.int (i32 (1))) := ⟨_, rfl⟩
            rw [← eL770]
            have gL770_0 : jGet L770 0 = some (.ref 66) := eL770 ▸ jg_ne (by decide) gL736_0 rfl
            have gL770_1 : jGet L770 1 = some (.int (i32 (many))) := eL770 ▸ jg_ne (by decide) gL736_1 rfl
            have gL770_2 : jGet L770 2 = some (.int (i32 (row))) := eL770 ▸ jg_ne (by decide) gL736_2 rfl
            have gL770_3 : jGet L770 3 = some (.int (i32 (1))) := eL770 ▸ jg_ne (by decide) gL736_3 rfl
            have gL770_4 : jGet L770 4 = some (.int (i32 (1))) := eL770 ▸ jg_eq
            have z771 := tz_f (tk2_741)
            exact c_readDeclaration_at_91 (X := X) (d := d) (c0 := c0) (c1 := c1) (G := G) (A := A) (T := T) (ln := ln) (le := le) (at0 := at0) (fk := fk) (tk0 := tk0) (li := li) (sy := sy) (na := na) (vi := vi) (hd := hd) (hW := hW) (e_ln := e_ln) (e_le := e_le) (e_at0 := e_at0) (e_fk := e_fk) (e_tk0 := e_tk0) (e_li := e_li) (e_sy := e_sy) (e_na := e_na) (e_vi := e_vi) (p_0 := p_0) (p_1 := p_1) (p_2 := p_2) (p_3 := p_3) (p_4 := p_4) L770 G738 A739 (many) (row) (1) (at2_740) (tk2_741) (fk2_742) gL770_0 gL770_1 gL770_2 gL770_4 hW743 hF751 hS752 hV753 ((e745)) ((e746)) ((e747)) (((hF744.1 9 rfl).trans (fx_9))) (((hF744.1 29 rfl).trans (fx_29))) (((hF744.1 19 rfl).trans (fx_19))) (((hF744.1 28 rfl).trans (fx_28))) (by omega) (by omega) (by omega) (by omega) (by omega) (by omega) (by omega)
          · have _q := h769
            refine jx_ar (pc_q := 73) (st_q := [.int (i32 (2))]) rfl rfl rfl rfl ?_
            refine jx_go (tg := 89) rfl rfl ?_
            refine jx_ld (pc_q := 91) (l_q := jSto1 L736 4 (.int (i32 (2)))) (st_q := []) rfl rfl ?_
            obtain ⟨L772, eL772⟩ : ∃ q, q = jSto1 L736 4 (.int (i32 (2))) := ⟨_, rfl⟩
            rw [← eL772]
            have gL772_0 : jGet L772 0 = some (.ref 66) := eL772 ▸ jg_ne (by decide) gL736_0 rfl
            have gL772_1 : jGet L772 1 = some (.int (i32 (many))) := eL772 ▸ jg_ne (by decide) gL736_1 rfl
            have gL772_2 : jGet L772 2 = some (.int (i32 (row))) := eL772 ▸ jg_ne (by decide) gL736_2 rfl
            have gL772_3 : jGet L772 3 = some (.int (i32 (1))) := eL772 ▸ jg_ne (by decide) gL736_3 rfl
            have gL772_4 : jGet L772 4 = some (.int (i32 (2))) := eL772 ▸ jg_eq
            have z773 := tz_f (tk2_741)
            exact c_readDeclaration_at_91 (X := X) (d := d) (c0 := c0) (c1 := c1) (G := G) (A := A) (T := T) (ln := ln) (le := le) (at0 := at0) (fk := fk) (tk0 := tk0) (li := li) (sy := sy) (na := na) (vi := vi) (hd := hd) (hW := hW) (e_ln := e_ln) (e_le := e_le) (e_at0 := e_at0) (e_fk := e_fk) (e_tk0 := e_tk0) (e_li := e_li) (e_sy := e_sy) (e_na := e_na) (e_vi := e_vi) (p_0 := p_0) (p_1 := p_1) (p_2 := p_2) (p_3 := p_3) (p_4 := p_4) L772 G738 A739 (many) (row) (2) (at2_740) (tk2_741) (fk2_742) gL772_0 gL772_1 gL772_2 gL772_4 hW743 hF751 hS752 hV753 ((e745)) ((e746)) ((e747)) (((hF744.1 9 rfl).trans (fx_9))) (((hF744.1 29 rfl).trans (fx_29))) (((hF744.1 19 rfl).trans (fx_19))) (((hF744.1 28 rfl).trans (fx_28))) (by omega) (by omega) (by omega) (by omega) (by omega) (by omega) (by omega)
    · have _q := h737
      exact absurd h737 (by omega)
  · have _q : True := trivial
    refine jx_ld (pc_q := 42) (l_q := jSto1 L 3 (.int (i32 (0)))) (st_q := []) rfl rfl ?_
    obtain ⟨L774, eL774⟩ : ∃ q, q = jSto1 L 3 (.int (i32 (0))) := ⟨_, rfl⟩
    rw [← eL774]
    have gL774_0 : jGet L774 0 = some (.ref 66) := eL774 ▸ jg_ne (by decide) gL_0 rfl
    have gL774_1 : jGet L774 1 = some (.int (i32 (many))) := eL774 ▸ jg_ne (by decide) gL_1 rfl
    have gL774_2 : jGet L774 2 = some (.int (i32 (row))) := eL774 ▸ jg_ne (by decide) gL_2 rfl
    have gL774_3 : jGet L774 3 = some (.int (i32 (0))) := eL774 ▸ jg_eq
    refine jx_ld (pc_q := 43) (l_q := L774) (st_q := [.ref 66]) rfl (jl_aloadn gL774_0) ?_
    refine jx_ld (pc_q := 44) (l_q := L774) (st_q := [.int (i32 (0)), .ref 66]) rfl (jl_iloadn gL774_3) ?_
    refine jx_if_ne (pc_q := 47) (tg := 56) rfl rfl rfl (by decide) (by decide) (fun h775 => ?_) (fun h775 => ?_)
    · have _q := h775
      exact absurd h775 (by omega)
    · have _q := h775
      refine jx_ld (pc_q := 48) (l_q := L774) (st_q := [.ref 66, .ref 66]) rfl (jl_aloadn gL774_0) ?_
      refine jx_ar (pc_q := 50) (st_q := [.int (i32 (10)), .ref 66, .ref 66]) rfl rfl rfl rfl ?_
      refine jx_vr (pc_q := 53) (as := [.int (i32 (10))]) (st := [.ref 66]) rfl rfl rfl rfl ⟨rfl, rfl, Nat.le_of_ble_eq_true rfl⟩ rfl rfl (c_isKey (dd := d) (hd := by omega) (hW := hWx) (k := 10) (tk := tk5) (e_tk := show Gx 11 = tk5 from (ex_tk5)) (tn := Gx 13) (e_tn := show Gx 13 = Gx 13 from rfl)  (h_k := ⟨(by decide), (by decide)⟩)  ) (fun o V_q hq => ?_)
      obtain ⟨r776, rfl, rfl, b777, q778⟩ := hq
      refine .inr ⟨_, rfl, ?_⟩
      rcases q778 with ⟨rfl, a779, a780, a781⟩ | rfl
      · have _q : True := trivial
        refine jx_if_eq (pc_q := 56) (tg := 60) rfl rfl rfl (by decide) (by decide) (fun h782 => ?_) (fun h782 => ?_)
        · have _q := h782
          exact absurd h782 (by omega)
        · have _q := h782
          refine jx_ar (pc_q := 57) (st_q := [.int (i32 (1)), .ref 66]) rfl rfl rfl rfl ?_
          refine jx_go (tg := 61) rfl rfl ?_
          refine jx_vr (pc_q := 64) (as := [.int (i32 (1))]) (st := []) rfl rfl rfl rfl ⟨rfl, rfl, Nat.le_of_ble_eq_true rfl⟩ rfl rfl (c_need (dd := d) (hd := by omega) (hW := hWx) (g := 1) (ln := ln) (e_ln := show Gx 9 = ln from (fx_9)) (le := le) (e_le := show Ax 4 (ln).toNat = le from (congrFun (hFx.2 4 rfl) _).trans (e_le)) (at0 := at5) (e_at0 := show Gx 10 = at5 from (ex_at5)) (fk := fk5) (e_fk := show Gx 16 = fk5 from (ex_fk5)) (tk0 := tk5) (e_tk0 := show Gx 11 = tk5 from (ex_tk5))  (h_g := ⟨(by decide), (by decide)⟩)  (p_0 := by omega)) (fun o V_q hq => ?_)
          obtain ⟨G783, A784, at2_785, tk2_786, fk2_787, rfl, rfl, hW788, hF789, e790, e791, e792, p793, p794, q795⟩ := hq
          have hF796 := Fr_tr hFx hF789 (Fr_sub (by decide)) (Fr_sub (by decide))
          have hS797 := Fx_f hSx hF789 (by decide)
          have hV798 := Fx_f hVx hF789 (by decide)
          have bat2_785 : (0 : Int) ≤ at2_785 ∧ at2_785 ≤ 3002 := e790 ▸ hW788.1 10
          have ztk2_786 := tz_b tk2_786
          have btk2_786 : (0 : Int) ≤ tk2_786 ∧ tk2_786 ≤ 5 := e791 ▸ hW788.1 11
          have bfk2_787 : (0 : Int) ≤ fk2_787 ∧ fk2_787 ≤ 6 := e792 ▸ hW788.1 16
          refine .inl ⟨rfl, ?_⟩
          rcases q795 with ⟨a799, a800, a801, a802⟩ | ⟨a803, a804, a805, a806⟩
          · have _q : True := trivial
            refine jx_ld (pc_q := 65) (l_q := L774) (st_q := [.int (i32 (0))]) rfl (jl_iloadn gL774_3) ?_
            refine jx_if_eq (pc_q := 68) (tg := 80) rfl rfl rfl (by decide) (by decide) (fun h807 => ?_) (fun h807 => ?_)
            · have _q := h807
              refine jx_ld (pc_q := 81) (l_q := L774) (st_q := [.int (i32 (row))]) rfl (jl_iloadn gL774_2) ?_
              refine jx_if_eq (pc_q := 84) (tg := 88) rfl rfl rfl (Int.le_trans (by decide : (-2147483648 : Int) ≤ -2147483648) rx_row.1) (Int.le_trans rx_row.2 (by decide : (2147483647 : Int) ≤ 2147483647)) (fun h808 => ?_) (fun h808 => ?_)
              · have _q := h808
                refine jx_ar (pc_q := 89) (st_q := [.int (i32 (3))]) rfl rfl rfl rfl ?_
                refine jx_ld (pc_q := 91) (l_q := jSto1 L774 4 (.int (i32 (3)))) (st_q := []) rfl rfl ?_
                obtain ⟨L809, eL809⟩ : ∃ q, q = jSto1 L774 4 (.int (i32 (3))) := ⟨_, rfl⟩
                rw [← eL809]
                have gL809_0 : jGet L809 0 = some (.ref 66) := eL809 ▸ jg_ne (by decide) gL774_0 rfl
                have gL809_1 : jGet L809 1 = some (.int (i32 (many))) := eL809 ▸ jg_ne (by decide) gL774_1 rfl
                have gL809_2 : jGet L809 2 = some (.int (i32 (row))) := eL809 ▸ jg_ne (by decide) gL774_2 rfl
                have gL809_3 : jGet L809 3 = some (.int (i32 (0))) := eL809 ▸ jg_ne (by decide) gL774_3 rfl
                have gL809_4 : jGet L809 4 = some (.int (i32 (3))) := eL809 ▸ jg_eq
                have z810 := tz_f (tk2_786)
                exact c_readDeclaration_at_91p (X := X) (d := d) (c0 := c0) (c1 := c1) (G := G) (A := A) (T := T) (ln := ln) (le := le) (at0 := at0) (fk := fk) (tk0 := tk0) (li := li) (sy := sy) (na := na) (vi := vi) (hd := hd) (hW := hW) (e_ln := e_ln) (e_le := e_le) (e_at0 := e_at0) (e_fk := e_fk) (e_tk0 := e_tk0) (e_li := e_li) (e_sy := e_sy) (e_na := e_na) (e_vi := e_vi) (p_0 := p_0) (p_1 := p_1) (p_2 := p_2) (p_3 := p_3) (p_4 := p_4) L809 G783 A784 (many) (row) (3) (at2_785) (tk2_786) (fk2_787) gL809_0 gL809_1 gL809_2 gL809_4 hW788 hF796 hS797 hV798 ((e790)) ((e791)) ((e792)) (((hF789.1 9 rfl).trans (fx_9))) (((hF789.1 29 rfl).trans (fx_29))) (((hF789.1 19 rfl).trans (fx_19))) (((hF789.1 28 rfl).trans (fx_28))) (by omega) (by omega) (by omega) (by omega) (by omega) (by omega)
              · have _q := h808
                refine jx_ar (pc_q := 85) (st_q := [.int (i32 (4))]) rfl rfl rfl rfl ?_
                refine jx_go (tg := 89) rfl rfl ?_
                refine jx_ld (pc_q := 91) (l_q := jSto1 L774 4 (.int (i32 (4)))) (st_q := []) rfl rfl ?_
                obtain ⟨L811, eL811⟩ : ∃ q, q = jSto1 L774 4 (.int (i32 (4))) := ⟨_, rfl⟩
                rw [← eL811]
                have gL811_0 : jGet L811 0 = some (.ref 66) := eL811 ▸ jg_ne (by decide) gL774_0 rfl
                have gL811_1 : jGet L811 1 = some (.int (i32 (many))) := eL811 ▸ jg_ne (by decide) gL774_1 rfl
                have gL811_2 : jGet L811 2 = some (.int (i32 (row))) := eL811 ▸ jg_ne (by decide) gL774_2 rfl
                have gL811_3 : jGet L811 3 = some (.int (i32 (0))) := eL811 ▸ jg_ne (by decide) gL774_3 rfl
                have gL811_4 : jGet L811 4 = some (.int (i32 (4))) := eL811 ▸ jg_eq
                have z812 := tz_f (tk2_786)
                exact c_readDeclaration_at_91p (X := X) (d := d) (c0 := c0) (c1 := c1) (G := G) (A := A) (T := T) (ln := ln) (le := le) (at0 := at0) (fk := fk) (tk0 := tk0) (li := li) (sy := sy) (na := na) (vi := vi) (hd := hd) (hW := hW) (e_ln := e_ln) (e_le := e_le) (e_at0 := e_at0) (e_fk := e_fk) (e_tk0 := e_tk0) (e_li := e_li) (e_sy := e_sy) (e_na := e_na) (e_vi := e_vi) (p_0 := p_0) (p_1 := p_1) (p_2 := p_2) (p_3 := p_3) (p_4 := p_4) L811 G783 A784 (many) (row) (4) (at2_785) (tk2_786) (fk2_787) gL811_0 gL811_1 gL811_2 gL811_4 hW788 hF796 hS797 hV798 ((e790)) ((e791)) ((e792)) (((hF789.1 9 rfl).trans (fx_9))) (((hF789.1 29 rfl).trans (fx_29))) (((hF789.1 19 rfl).trans (fx_19))) (((hF789.1 28 rfl).trans (fx_28))) (by omega) (by omega) (by omega) (by omega) (by omega) (by omega)
            · have _q := h807
              exact absurd h807 (by omega)
          · have _q : True := trivial
            refine jx_ld (pc_q := 65) (l_q := L774) (st_q := [.int (i32 (0))]) rfl (jl_iloadn gL774_3) ?_
            refine jx_if_eq (pc_q := 68) (tg := 80) rfl rfl rfl (by decide) (by decide) (fun h813 => ?_) (fun h813 => ?_)
            · have _q := h813
              refine jx_ld (pc_q := 81) (l_q := L774) (st_q := [.int (i32 (row))]) rfl (jl_iloadn gL774_2) ?_
              refine jx_if_eq (pc_q := 84) (tg := 88) rfl rfl rfl (Int.le_trans (by decide : (-2147483648 : Int) ≤ -2147483648) rx_row.1) (Int.le_trans rx_row.2 (by decide : (2147483647 : Int) ≤ 2147483647)) (fun h814 => ?_) (fun h814 => ?_)
              · have _q := h814
                refine jx_ar (pc_q := 89) (st_q := [.int (i32 (3))]) rfl rfl rfl rfl ?_
                refine jx_ld (pc_q := 91) (l_q := jSto1 L774 4 (.int (i32 (3)))) (st_q := []) rfl rfl ?_
                obtain ⟨L815, eL815⟩ : ∃ q, q = jSto1 L774 4 (.int (i32 (3))) := ⟨_, rfl⟩
                rw [← eL815]
                have gL815_0 : jGet L815 0 = some (.ref 66) := eL815 ▸ jg_ne (by decide) gL774_0 rfl
                have gL815_1 : jGet L815 1 = some (.int (i32 (many))) := eL815 ▸ jg_ne (by decide) gL774_1 rfl
                have gL815_2 : jGet L815 2 = some (.int (i32 (row))) := eL815 ▸ jg_ne (by decide) gL774_2 rfl
                have gL815_3 : jGet L815 3 = some (.int (i32 (0))) := eL815 ▸ jg_ne (by decide) gL774_3 rfl
                have gL815_4 : jGet L815 4 = some (.int (i32 (3))) := eL815 ▸ jg_eq
                have z816 := tz_f (tk2_786)
                exact c_readDeclaration_at_91 (X := X) (d := d) (c0 := c0) (c1 := c1) (G := G) (A := A) (T := T) (ln := ln) (le := le) (at0 := at0) (fk := fk) (tk0 := tk0) (li := li) (sy := sy) (na := na) (vi := vi) (hd := hd) (hW := hW) (e_ln := e_ln) (e_le := e_le) (e_at0 := e_at0) (e_fk := e_fk) (e_tk0 := e_tk0) (e_li := e_li) (e_sy := e_sy) (e_na := e_na) (e_vi := e_vi) (p_0 := p_0) (p_1 := p_1) (p_2 := p_2) (p_3 := p_3) (p_4 := p_4) L815 G783 A784 (many) (row) (3) (at2_785) (tk2_786) (fk2_787) gL815_0 gL815_1 gL815_2 gL815_4 hW788 hF796 hS797 hV798 ((e790)) ((e791)) ((e792)) (((hF789.1 9 rfl).trans (fx_9))) (((hF789.1 29 rfl).trans (fx_29))) (((hF789.1 19 rfl).trans (fx_19))) (((hF789.1 28 rfl).trans (fx_28))) (by omega) (by omega) (by omega) (by omega) (by omega) (by omega) (by omega)
              · have _q := h814
                refine jx_ar (pc_q := 85) (st_q := [.int (i32 (4))]) rfl rfl rfl rfl ?_
                refine jx_go (tg := 89) rfl rfl ?_
                refine jx_ld (pc_q := 91) (l_q := jSto1 L774 4 (.int (i32 (4)))) (st_q := []) rfl rfl ?_
                obtain ⟨L817, eL817⟩ : ∃ q, q = jSto1 L774 4 (.int (i32 (4))) := ⟨_, rfl⟩
                rw [← eL817]
                have gL817_0 : jGet L817 0 = some (.ref 66) := eL817 ▸ jg_ne (by decide) gL774_0 rfl
                have gL817_1 : jGet L817 1 = some (.int (i32 (many))) := eL817 ▸ jg_ne (by decide) gL774_1 rfl
                have gL817_2 : jGet L817 2 = some (.int (i32 (row))) := eL817 ▸ jg_ne (by decide) gL774_2 rfl
                have gL817_3 : jGet L817 3 = some (.int (i32 (0))) := eL817 ▸ jg_ne (by decide) gL774_3 rfl
                have gL817_4 : jGet L817 4 = some (.int (i32 (4))) := eL817 ▸ jg_eq
                have z818 := tz_f (tk2_786)
                exact c_readDeclaration_at_91 (X := X) (d := d) (c0 := c0) (c1 := c1) (G := G) (A := A) (T := T) (ln := ln) (le := le) (at0 := at0) (fk := fk) (tk0 := tk0) (li := li) (sy := sy) (na := na) (vi := vi) (hd := hd) (hW := hW) (e_ln := e_ln) (e_le := e_le) (e_at0 := e_at0) (e_fk := e_fk) (e_tk0 := e_tk0) (e_li := e_li) (e_sy := e_sy) (e_na := e_na) (e_vi := e_vi) (p_0 := p_0) (p_1 := p_1) (p_2 := p_2) (p_3 := p_3) (p_4 := p_4) L817 G783 A784 (many) (row) (4) (at2_785) (tk2_786) (fk2_787) gL817_0 gL817_1 gL817_2 gL817_4 hW788 hF796 hS797 hV798 ((e790)) ((e791)) ((e792)) (((hF789.1 9 rfl).trans (fx_9))) (((hF789.1 29 rfl).trans (fx_29))) (((hF789.1 19 rfl).trans (fx_19))) (((hF789.1 28 rfl).trans (fx_28))) (by omega) (by omega) (by omega) (by omega) (by omega) (by omega) (by omega)
            · have _q := h813
              exact absurd h813 (by omega)
      · have _q : True := trivial
        refine jx_if_eq (pc_q := 56) (tg := 60) rfl rfl rfl (by decide) (by decide) (fun h819 => ?_) (fun h819 => ?_)
        · have _q := h819
          refine jx_ar (pc_q := 61) (st_q := [.int (i32 (0)), .ref 66]) rfl rfl rfl rfl ?_
          refine jx_vr (pc_q := 64) (as := [.int (i32 (0))]) (st := []) rfl rfl rfl rfl ⟨rfl, rfl, Nat.le_of_ble_eq_true rfl⟩ rfl rfl (c_need (dd := d) (hd := by omega) (hW := hWx) (g := 0) (ln := ln) (e_ln := show Gx 9 = ln from (fx_9)) (le := le) (e_le := show Ax 4 (ln).toNat = le from (congrFun (hFx.2 4 rfl) _).trans (e_le)) (at0 := at5) (e_at0 := show Gx 10 = at5 from (ex_at5)) (fk := fk5) (e_fk := show Gx 16 = fk5 from (ex_fk5)) (tk0 := tk5) (e_tk0 := show Gx 11 = tk5 from (ex_tk5))  (h_g := ⟨(by decide), (by decide)⟩)  (p_0 := by omega)) (fun o V_q hq => ?_)
          obtain ⟨G820, A821, at2_822, tk2_823, fk2_824, rfl, rfl, hW825, hF826, e827, e828, e829, p830, p831, q832⟩ := hq
          have hF833 := Fr_tr hFx hF826 (Fr_sub (by decide)) (Fr_sub (by decide))
          have hS834 := Fx_f hSx hF826 (by decide)
          have hV835 := Fx_f hVx hF826 (by decide)
          have bat2_822 : (0 : Int) ≤ at2_822 ∧ at2_822 ≤ 3002 := e827 ▸ hW825.1 10
          have ztk2_823 := tz_b tk2_823
          have btk2_823 : (0 : Int) ≤ tk2_823 ∧ tk2_823 ≤ 5 := e828 ▸ hW825.1 11
          have bfk2_824 : (0 : Int) ≤ fk2_824 ∧ fk2_824 ≤ 6 := e829 ▸ hW825.1 16
          refine .inl ⟨rfl, ?_⟩
          rcases q832 with ⟨a836, a837, a838, a839⟩ | ⟨a840, a841, a842, a843⟩
          · have _q : True := trivial
            refine jx_ld (pc_q := 65) (l_q := L774) (st_q := [.int (i32 (0))]) rfl (jl_iloadn gL774_3) ?_
            refine jx_if_eq (pc_q := 68) (tg := 80) rfl rfl rfl (by decide) (by decide) (fun h844 => ?_) (fun h844 => ?_)
            · have _q := h844
              refine jx_ld (pc_q := 81) (l_q := L774) (st_q := [.int (i32 (row))]) rfl (jl_iloadn gL774_2) ?_
              refine jx_if_eq (pc_q := 84) (tg := 88) rfl rfl rfl (Int.le_trans (by decide : (-2147483648 : Int) ≤ -2147483648) rx_row.1) (Int.le_trans rx_row.2 (by decide : (2147483647 : Int) ≤ 2147483647)) (fun h845 => ?_) (fun h845 => ?_)
              · have _q := h845
                refine jx_ar (pc_q := 89) (st_q := [.int (i32 (3))]) rfl rfl rfl rfl ?_
                refine jx_ld (pc_q := 91) (l_q := jSto1 L774 4 (.int (i32 (3)))) (st_q := []) rfl rfl ?_
                obtain ⟨L846, eL846⟩ : ∃ q, q = jSto1 L774 4 (.int (i32 (3))) := ⟨_, rfl⟩
                rw [← eL846]
                have gL846_0 : jGet L846 0 = some (.ref 66) := eL846 ▸ jg_ne (by decide) gL774_0 rfl
                have gL846_1 : jGet L846 1 = some (.int (i32 (many))) := eL846 ▸ jg_ne (by decide) gL774_1 rfl
                have gL846_2 : jGet L846 2 = some (.int (i32 (row))) := eL846 ▸ jg_ne (by decide) gL774_2 rfl
                have gL846_3 : jGet L846 3 = some (.int (i32 (0))) := eL846 ▸ jg_ne (by decide) gL774_3 rfl
                have gL846_4 : jGet L846 4 = some (.int (i32 (3))) := eL846 ▸ jg_eq
                have z847 := tz_f (tk2_823)
                exact c_readDeclaration_at_91p (X := X) (d := d) (c0 := c0) (c1 := c1) (G := G) (A := A) (T := T) (ln := ln) (le := le) (at0 := at0) (fk := fk) (tk0 := tk0) (li := li) (sy := sy) (na := na) (vi := vi) (hd := hd) (hW := hW) (e_ln := e_ln) (e_le := e_le) (e_at0 := e_at0) (e_fk := e_fk) (e_tk0 := e_tk0) (e_li := e_li) (e_sy := e_sy) (e_na := e_na) (e_vi := e_vi) (p_0 := p_0) (p_1 := p_1) (p_2 := p_2) (p_3 := p_3) (p_4 := p_4) L846 G820 A821 (many) (row) (3) (at2_822) (tk2_823) (fk2_824) gL846_0 gL846_1 gL846_2 gL846_4 hW825 hF833 hS834 hV835 ((e827)) ((e828)) ((e829)) (((hF826.1 9 rfl).trans (fx_9))) (((hF826.1 29 rfl).trans (fx_29))) (((hF826.1 19 rfl).trans (fx_19))) (((hF826.1 28 rfl).trans (fx_28))) (by omega) (by omega) (by omega) (by omega) (by omega) (by omega)
              · have _q := h845
                refine jx_ar (pc_q := 85) (st_q := [.int (i32 (4))]) rfl rfl rfl rfl ?_
                refine jx_go (tg := 89) rfl rfl ?_
                refine jx_ld (pc_q := 91) (l_q := jSto1 L774 4 (.int (i32 (4)))) (st_q := []) rfl rfl ?_
                obtain ⟨L848, eL848⟩ : ∃ q, q = jSto1 L774 4 (.int (i32 (4))) := ⟨_, rfl⟩
                rw [← eL848]
                have gL848_0 : jGet L848 0 = some (.ref 66) := eL848 ▸ jg_ne (by decide) gL774_0 rfl
                have gL848_1 : jGet L848 1 = some (.int (i32 (many))) := eL848 ▸ jg_ne (by decide) gL774_1 rfl
                have gL848_2 : jGet L848 2 = some (.int (i32 (row))) := eL848 ▸ jg_ne (by decide) gL774_2 rfl
                have gL848_3 : jGet L848 3 = some (.int (i32 (0))) := eL848 ▸ jg_ne (by decide) gL774_3 rfl
                have gL848_4 : jGet L848 4 = some (.int (i32 (4))) := eL848 ▸ jg_eq
                have z849 := tz_f (tk2_823)
                exact c_readDeclaration_at_91p (X := X) (d := d) (c0 := c0) (c1 := c1) (G := G) (A := A) (T := T) (ln := ln) (le := le) (at0 := at0) (fk := fk) (tk0 := tk0) (li := li) (sy := sy) (na := na) (vi := vi) (hd := hd) (hW := hW) (e_ln := e_ln) (e_le := e_le) (e_at0 := e_at0) (e_fk := e_fk) (e_tk0 := e_tk0) (e_li := e_li) (e_sy := e_sy) (e_na := e_na) (e_vi := e_vi) (p_0 := p_0) (p_1 := p_1) (p_2 := p_2) (p_3 := p_3) (p_4 := p_4) L848 G820 A821 (many) (row) (4) (at2_822) (tk2_823) (fk2_824) gL848_0 gL848_1 gL848_2 gL848_4 hW825 hF833 hS834 hV835 ((e827)) ((e828)) ((e829)) (((hF826.1 9 rfl).trans (fx_9))) (((hF826.1 29 rfl).trans (fx_29))) (((hF826.1 19 rfl).trans (fx_19))) (((hF826.1 28 rfl).trans (fx_28))) (by omega) (by omega) (by omega) (by omega) (by omega) (by omega)
            · have _q := h844
              exact absurd h844 (by omega)
          · have _q : True := trivial
            exfalso
            omega
        · have _q := h819
          exact absurd h819 (by omega)
set_option maxRecDepth 20000 in
set_option maxHeartbeats 4000000 in
theorem c_readDeclaration_at_35p {X : jX} {d : Nat} {c0 c1 : jC} {G : Nat → Int} {A : Nat → Nat → Int} {T : jH} {ln le at0 fk tk0 li sy na vi : Int} (hd : 8 ≤ d + 1) (hW : Wk G A) (e_ln : G 9 = ln) (e_le : A 4 (ln).toNat = le) (e_at0 : G 10 = at0) (e_fk : G 16 = fk) (e_tk0 : G 11 = tk0) (e_li : G 3 = li) (e_sy : G 19 = sy) (e_na : G 28 = na) (e_vi : G 29 = vi) (p_0 : at0 ≤ le) (p_1 : ln < li) (p_2 : fk = 0) (p_3 : sy ≤ na + 2) (p_4 : vi ≤ sy) : ∀ (L : jL) (Gx : Nat → Int) (Ax : Nat → Nat → Int) (many row at5 tk5 fk5 : Int), jGet L 0 = some (.ref 66) → jGet L 1 = some (.int (i32 many)) → jGet L 2 = some (.int (i32 row)) → Wk Gx Ax → Fr [9, 10, 11, 12, 13, 14, 16, 17, 18, 19, 28, 29] [6, 7, 8, 9, 10, 11, 12, 14] G A Gx Ax → Fx sr (sy) A Ax → Fx [14] (vi) A Ax → Gx 10 = at5 → Gx 11 = tk5 → Gx 16 = fk5 → Gx 9 = ln → Gx 29 = vi → Gx 19 = sy → Gx 28 = na → ((-2147483648 : Int) ≤ many ∧ many ≤ 2147483647) → ((-2147483648 : Int) ≤ row ∧ row ≤ 2147483647) → (1 ≤ fk5) → (at0 ≤ at5) → (at5 ≤ le) → (0 ≤ row ∧ row ≤ 1) → wj X d jm294 (35, L, [], rV c0 c1 Gx Ax T) (fun o V_q => ∃ (G_q : Nat → Int) (A_q : Nat → Nat → Int) (at2 : Int) (fk2 : Int) (ln2 : Int) (sy2 : Int) (na2 : Int) (vi2 : Int), V_q = rV c0 c1 G_q A_q T ∧ o = .inl none ∧ Wk G_q A_q ∧ Fr [9, 10, 11, 12, 13, 14, 16, 17, 18, 19, 28, 29] [6, 7, 8, 9, 10, 11, 12, 14] G A G_q A_q ∧ Fx sr (sy) A A_q ∧ Fx [14] (vi) A A_q ∧ G_q 10 = at2 ∧ G_q 16 = fk2 ∧ G_q 9 = ln2 ∧ G_q 19 = sy2 ∧ G_q 28 = na2 ∧ G_q 29 = vi2 ∧ (at0 ≤ at2) ∧ (at2 ≤ le) ∧ (sy ≤ sy2) ∧ (sy2 ≤ na2 + 2) ∧ (vi ≤ vi2) ∧ (vi2 - vi ≤ sy2 - sy) ∧ (((1 ≤ fk2) ∧ (ln2 = ln ∨ ln2 = ln + 1)) ∨ ((fk2 = 0) ∧ (ln2 = ln + 1) ∧ (wD A_q (sy) (sy2)) ∧ (DS A_q (vi) (vi2) (sy) (sy2))))) := by
  have hF0 : Fr [9, 10, 11, 12, 13, 14, 16, 17, 18, 19, 28, 29] [6, 7, 8, 9, 10, 11, 12, 14] G A G A := Fr_rf
  have hS0 : Fx sr (sy) A A := Fx_rf
  have hV0 : Fx [14] (vi) A A := Fx_rf
  have b_ln : (0 : Int) ≤ ln ∧ ln ≤ 3000 := e_ln ▸ hW.1 9
  have b_le : (0 : Int) ≤ le ∧ le ≤ 3000 := e_le ▸ hW.2 4 _
  have b_at0 : (0 : Int) ≤ at0 ∧ at0 ≤ 3002 := e_at0 ▸ hW.1 10
  have b_fk : (0 : Int) ≤ fk ∧ fk ≤ 6 := e_fk ▸ hW.1 16
  have b_tk0 : (0 : Int) ≤ tk0 ∧ tk0 ≤ 5 := e_tk0 ▸ hW.1 11
  have b_li : (0 : Int) ≤ li ∧ li ≤ 3000 := e_li ▸ hW.1 3
  have b_sy : (0 : Int) ≤ sy ∧ sy ≤ 202 := e_sy ▸ hW.1 19
  have b_na : (0 : Int) ≤ na ∧ na ≤ 200 := e_na ▸ hW.1 28
  have b_vi : (0 : Int) ≤ vi ∧ vi ≤ 202 := e_vi ▸ hW.1 29
  intro L Gx Ax many row at5 tk5 fk5 gL_0 gL_1 gL_2 hWx hFx hSx hVx ex_at5 ex_tk5 ex_fk5 fx_9 fx_29 fx_19 fx_28 rx_many rx_row iv_0 iv_1 iv_2 iv_3
  have b_at5 : (0 : Int) ≤ at5 ∧ at5 ≤ 3002 := ex_at5 ▸ hWx.1 10
  have z_tk5 := tz_f tk5
  have b_tk5 : (0 : Int) ≤ tk5 ∧ tk5 ≤ 5 := ex_tk5 ▸ hWx.1 11
  have b_fk5 : (0 : Int) ≤ fk5 ∧ fk5 ≤ 6 := ex_fk5 ▸ hWx.1 16
  refine jx_ld (pc_q := 36) (l_q := L) (st_q := [.ref 66]) rfl (jl_aloadn gL_0) ?_
  refine jx_ar (pc_q := 38) (st_q := [.int (i32 (9)), .ref 66]) rfl rfl rfl rfl ?_
  have b850 : (-2147483648 : Int) ≤ Gx 13 ∧ Gx 13 ≤ 2147483647 := hWx.1 13
  refine jx_vr (pc_q := 41) (as := [.int (i32 (9))]) (st := []) rfl rfl rfl rfl ⟨rfl, rfl, Nat.le_of_ble_eq_true rfl⟩ rfl rfl (c_isKey (dd := d) (hd := by omega) (hW := hWx) (k := 9) (tk := tk5) (e_tk := show Gx 11 = tk5 from (ex_tk5)) (tn := Gx 13) (e_tn := show Gx 13 = Gx 13 from rfl)  (h_k := ⟨(by decide), (by decide)⟩)  ) (fun o V_q hq => ?_)
  obtain ⟨r851, rfl, rfl, b852, q853⟩ := hq
  refine .inr ⟨_, rfl, ?_⟩
  rcases q853 with ⟨rfl, a854, a855, a856⟩ | rfl
  · have _q : True := trivial
    refine jx_ld (pc_q := 42) (l_q := jSto1 L 3 (.int (i32 (1)))) (st_q := []) rfl rfl ?_
    obtain ⟨L857, eL857⟩ : ∃ q, q = jSto1 L 3 (.int (i32 (1))) := ⟨_, rfl⟩
    rw [← eL857]
    have gL857_0 : jGet L857 0 = some (.ref 66) := eL857 ▸ jg_ne (by decide) gL_0 rfl
    have gL857_1 : jGet L857 1 = some (.int (i32 (many))) := eL857 ▸ jg_ne (by decide) gL_1 rfl
    have gL857_2 : jGet L857 2 = some (.int (i32 (row))) := eL857 ▸ jg_ne (by decide) gL_2 rfl
    have gL857_3 : jGet L857 3 = some (.int (i32 (1))) := eL857 ▸ jg_eq
    refine jx_ld (pc_q := 43) (l_q := L857) (st_q := [.ref 66]) rfl (jl_aloadn gL857_0) ?_
    refine jx_ld (pc_q := 44) (l_q := L857) (st_q := [.int (i32 (1)), .ref 66]) rfl (jl_iloadn gL857_3) ?_
    refine jx_if_ne (pc_q := 47) (tg := 56) rfl rfl rfl (by decide) (by decide) (fun h858 => ?_) (fun h858 => ?_)
    · have _q := h858
      refine jx_ar (pc_q := 57) (st_q := [.int (i32 (1)), .ref 66]) rfl rfl rfl rfl ?_
      refine jx_go (tg := 61) rfl rfl ?_
      refine jx_vr (pc_q := 64) (as := [.int (i32 (1))]) (st := []) rfl rfl rfl rfl ⟨rfl, rfl, Nat.le_of_ble_eq_true rfl⟩ rfl rfl (c_need (dd := d) (hd := by omega) (hW := hWx) (g := 1) (ln := ln) (e_ln := show Gx 9 = ln from (fx_9)) (le := le) (e_le := show Ax 4 (ln).toNat = le from (congrFun (hFx.2 4 rfl) _).trans (e_le)) (at0 := at5) (e_at0 := show Gx 10 = at5 from (ex_at5)) (fk := fk5) (e_fk := show Gx 16 = fk5 from (ex_fk5)) (tk0 := tk5) (e_tk0 := show Gx 11 = tk5 from (ex_tk5))  (h_g := ⟨(by decide), (by decide)⟩)  (p_0 := by omega)) (fun o V_q hq => ?_)
      obtain ⟨G859, A860, at2_861, tk2_862, fk2_863, rfl, rfl, hW864, hF865, e866, e867, e868, p869, p870, q871⟩ := hq
      have hF872 := Fr_tr hFx hF865 (Fr_sub (by decide)) (Fr_sub (by decide))
      have hS873 := Fx_f hSx hF865 (by decide)
      have hV874 := Fx_f hVx hF865 (by decide)
      have bat2_861 : (0 : Int) ≤ at2_861 ∧ at2_861 ≤ 3002 := e866 ▸ hW864.1 10
      have ztk2_862 := tz_b tk2_862
      have btk2_862 : (0 : Int) ≤ tk2_862 ∧ tk2_862 ≤ 5 := e867 ▸ hW864.1 11
      have bfk2_863 : (0 : Int) ≤ fk2_863 ∧ fk2_863 ≤ 6 := e868 ▸ hW864.1 16
      refine .inl ⟨rfl, ?_⟩
      rcases q871 with ⟨a875, a876, a877, a878⟩ | ⟨a879, a880, a881, a882⟩
      · have _q : True := trivial
        refine jx_ld (pc_q := 65) (l_q := L857) (st_q := [.int (i32 (1))]) rfl (jl_iloadn gL857_3) ?_
        refine jx_if_eq (pc_q := 68) (tg := 80) rfl rfl rfl (by decide) (by decide) (fun h883 => ?_) (fun h883 => ?_)
        · have _q := h883
          exact absurd h883 (by omega)
        · have _q := h883
          refine jx_ld (pc_q := 69) (l_q := L857) (st_q := [.int (i32 (row))]) rfl (jl_iloadn gL857_2) ?_
          refine jx_if_eq (pc_q := 72) (tg := 76) rfl rfl rfl (Int.le_trans (by decide : (-2147483648 : Int) ≤ -2147483648) rx_row.1) (Int.le_trans rx_row.2 (by decide : (2147483647 : Int) ≤ 2147483647)) (fun h884 => ?_) (fun h884 => ?_)
          · have _q := h884
            refine jx_ar (pc_q := 77) (st_q := [.int (i32 (1))]) rfl rfl rfl rfl ?_
            refine jx_go (tg := 89) rfl rfl ?_
            refine jx_ld (pc_q := 91) (l_q := jSto1 L857 4 (.int (i32 (1)))) (st_q := []) rfl rfl ?_
            obtain ⟨L885, eL885⟩ : ∃ q, q = jSto1 L857 4 (.int (i32 (1))) := ⟨_, rfl⟩
            rw [← eL885]
            have gL885_0 : jGet L885 0 = some (.ref 66) := eL885 ▸ jg_ne (by decide) gL857_0 rfl
            have gL885_1 : jGet L885 1 = some (.int (i32 (many))) := eL885 ▸ jg_ne (by decide) gL857_1 rfl
            have gL885_2 : jGet L885 2 = some (.int (i32 (row))) := eL885 ▸ jg_ne (by decide) gL857_2 rfl
            have gL885_3 : jGet L885 3 = some (.int (i32 (1))) := eL885 ▸ jg_ne (by decide) gL857_3 rfl
            have gL885_4 : jGet L885 4 = some (.int (i32 (1))) := eL885 ▸ jg_eq
            have z886 := tz_f (tk2_862)
            exact c_readDeclaration_at_91p (X := X) (d := d) (c0 := c0) (c1 := c1) (G := G) (A := A) (T := T) (ln := ln) (le := le) (at0 := at0) (fk := fk) (tk0 := tk0) (li := li) (sy := sy) (na := na) (vi := vi) (hd := hd) (hW := hW) (e_ln := e_ln) (e_le := e_le) (e_at0 := e_at0) (e_fk := e_fk) (e_tk0 := e_tk0) (e_li := e_li) (e_sy := e_sy) (e_na := e_na) (e_vi := e_vi) (p_0 := p_0) (p_1 := p_1) (p_2 := p_2) (p_3 := p_3) (p_4 := p_4) L885 G859 A860 (many) (row) (1) (at2_861) (tk2_862) (fk2_863) gL885_0 gL885_1 gL885_2 gL885_4 hW864 hF872 hS873 hV874 ((e866)) ((e867)) ((e868)) (((hF865.1 9 rfl).trans (fx_9))) (((hF865.1 29 rfl).trans (fx_29))) (((hF865.1 19 rfl).trans (fx_19))) (((hF865.1 28 rfl).trans (fx_28))) (by omega) (by omega) (by omega) (by omega) (by omega) (by omega)
          · have _q := h884
            refine jx_ar (pc_q := 73) (st_q := [.int (i32 (2))]) rfl rfl rfl rfl ?_
            refine jx_go (tg := 89) rfl rfl ?_
            refine jx_ld (pc_q := 91) (l_q := jSto1 L857 4 (.int (i32 (2)))) (st_q := []) rfl rfl ?_
            obtain ⟨L887, eL887⟩ : ∃ q, q = jSto1 L857 4 (.int (i32 (2))) := ⟨_, rfl⟩
            rw [← eL887]
            have gL887_0 : jGet L887 0 = some (.ref 66) := eL887 ▸ jg_ne (by decide) gL857_0 rfl
            have gL887_1 : jGet L887 1 = some (.int (i32 (many))) := eL887 ▸ jg_ne (by decide) gL857_1 rfl
            have gL887_2 : jGet L887 2 = some (.int (i32 (row))) := eL887 ▸ jg_ne (by decide) gL857_2 rfl
            have gL887_3 : jGet L887 3 = some (.int (i32 (1))) := eL887 ▸ jg_ne (by decide) gL857_3 rfl
            have gL887_4 : jGet L887 4 = some (.int (i32 (2))) := eL887 ▸ jg_eq
            have z888 := tz_f (tk2_862)
            exact c_readDeclaration_at_91p (X := X) (d := d) (c0 := c0) (c1 := c1) (G := G) (A := A) (T := T) (ln := ln) (le := le) (at0 := at0) (fk := fk) (tk0 := tk0) (li := li) (sy := sy) (na := na) (vi := vi) (hd := hd) (hW := hW) (e_ln := e_ln) (e_le := e_le) (e_at0 := e_at0) (e_fk := e_fk) (e_tk0 := e_tk0) (e_li := e_li) (e_sy := e_sy) (e_na := e_na) (e_vi := e_vi) (p_0 := p_0) (p_1 := p_1) (p_2 := p_2) (p_3 := p_3) (p_4 := p_4) L887 G859 A860 (many) (row) (2) (at2_861) (tk2_862) (fk2_863) gL887_0 gL887_1 gL887_2 gL887_4 hW864 hF872 hS873 hV874 ((e866)) ((e867)) ((e868)) (((hF865.1 9 rfl).trans (fx_9))) (((hF865.1 29 rfl).trans (fx_29))) (((hF865.1 19 rfl).trans (fx_19))) (((hF865.1 28 rfl).trans (fx_28))) (by omega) (by omega) (by omega) (by omega) (by omega) (by omega)
      · have _q : True := trivial
        exfalso
        omega
    · have _q := h858
      exact absurd h858 (by omega)
  · have _q : True := trivial
    refine jx_ld (pc_q := 42) (l_q := jSto1 L 3 (.int (i32 (0)))) (st_q := []) rfl rfl ?_
    obtain ⟨L889, eL889⟩ : ∃ q, q = jSto1 L 3 (.int (i32 (0))) := ⟨_, rfl⟩
    rw [← eL889]
    have gL889_0 : jGet L889 0 = some (.ref 66) := eL889 ▸ jg_ne (by decide) gL_0 rfl
    have gL889_1 : jGet L889 1 = some (.int (i32 (many))) := eL889 ▸ jg_ne (by decide) gL_1 rfl
    have gL889_2 : jGet L889 2 = some (.int (i32 (row))) := eL889 ▸ jg_ne (by decide) gL_2 rfl
    have gL889_3 : jGet L889 3 = some (.int (i32 (0))) := eL889 ▸ jg_eq
    refine jx_ld (pc_q := 43) (l_q := L889) (st_q := [.ref 66]) rfl (jl_aloadn gL889_0) ?_
    refine jx_ld (pc_q := 44) (l_q := L889) (st_q := [.int (i32 (0)), .ref 66]) rfl (jl_iloadn gL889_3) ?_
    refine jx_if_ne (pc_q := 47) (tg := 56) rfl rfl rfl (by decide) (by decide) (fun h890 => ?_) (fun h890 => ?_)
    · have _q := h890
      exact absurd h890 (by omega)
    · have _q := h890
      refine jx_ld (pc_q := 48) (l_q := L889) (st_q := [.ref 66, .ref 66]) rfl (jl_aloadn gL889_0) ?_
      refine jx_ar (pc_q := 50) (st_q := [.int (i32 (10)), .ref 66, .ref 66]) rfl rfl rfl rfl ?_
      refine jx_vr (pc_q := 53) (as := [.int (i32 (10))]) (st := [.ref 66]) rfl rfl rfl rfl ⟨rfl, rfl, Nat.le_of_ble_eq_true rfl⟩ rfl rfl (c_isKey (dd := d) (hd := by omega) (hW := hWx) (k := 10) (tk := tk5) (e_tk := show Gx 11 = tk5 from (ex_tk5)) (tn := Gx 13) (e_tn := show Gx 13 = Gx 13 from rfl)  (h_k := ⟨(by decide), (by decide)⟩)  ) (fun o V_q hq => ?_)
      obtain ⟨r891, rfl, rfl, b892, q893⟩ := hq
      refine .inr ⟨_, rfl, ?_⟩
      rcases q893 with ⟨rfl, a894, a895, a896⟩ | rfl
      · have _q : True := trivial
        refine jx_if_eq (pc_q := 56) (tg := 60) rfl rfl rfl (by decide) (by decide) (fun h897 => ?_) (fun h897 => ?_)
        · have _q := h897
          exact absurd h897 (by omega)
        · have _q := h897
          refine jx_ar (pc_q := 57) (st_q := [.int (i32 (1)), .ref 66]) rfl rfl rfl rfl ?_
          refine jx_go (tg := 61) rfl rfl ?_
          refine jx_vr (pc_q := 64) (as := [.int (i32 (1))]) (st := []) rfl rfl rfl rfl ⟨rfl, rfl, Nat.le_of_ble_eq_true rfl⟩ rfl rfl (c_need (dd := d) (hd := by omega) (hW := hWx) (g := 1) (ln := ln) (e_ln := show Gx 9 = ln from (fx_9)) (le := le) (e_le := show Ax 4 (ln).toNat = le from (congrFun (hFx.2 4 rfl) _).trans (e_le)) (at0 := at5) (e_at0 := show Gx 10 = at5 from (ex_at5)) (fk := fk5) (e_fk := show Gx 16 = fk5 from (ex_fk5)) (tk0 := tk5) (e_tk0 := show Gx 11 = tk5 from (ex_tk5))  (h_g := ⟨(by decide), (by decide)⟩)  (p_0 := by omega)) (fun o V_q hq => ?_)
          obtain ⟨G898, A899, at2_900, tk2_901, fk2_902, rfl, rfl, hW903, hF904, e905, e906, e907, p908, p909, q910⟩ := hq
          have hF911 := Fr_tr hFx hF904 (Fr_sub (by decide)) (Fr_sub (by decide))
          have hS912 := Fx_f hSx hF904 (by decide)
          have hV913 := Fx_f hVx hF904 (by decide)
          have bat2_900 : (0 : Int) ≤ at2_900 ∧ at2_900 ≤ 3002 := e905 ▸ hW903.1 10
          have ztk2_901 := tz_b tk2_901
          have btk2_901 : (0 : Int) ≤ tk2_901 ∧ tk2_901 ≤ 5 := e906 ▸ hW903.1 11
          have bfk2_902 : (0 : Int) ≤ fk2_902 ∧ fk2_902 ≤ 6 := e907 ▸ hW903.1 16
          refine .inl ⟨rfl, ?_⟩
          rcases q910 with ⟨a914, a915, a916, a917⟩ | ⟨a918, a919, a920, a921⟩
          · have _q : True := trivial
            refine jx_ld (pc_q := 65) (l_q := L889) (st_q := [.int (i32 (0))]) rfl (jl_iloadn gL889_3) ?_
            refine jx_if_eq (pc_q := 68) (tg := 80) rfl rfl rfl (by decide) (by decide) (fun h922 => ?_) (fun h922 => ?_)
            · have _q := h922
              refine jx_ld (pc_q := 81) (l_q := L889) (st_q := [.int (i32 (row))]) rfl (jl_iloadn gL889_2) ?_
              refine jx_if_eq (pc_q := 84) (tg := 88) rfl rfl rfl (Int.le_trans (by decide : (-2147483648 : Int) ≤ -2147483648) rx_row.1) (Int.le_trans rx_row.2 (by decide : (2147483647 : Int) ≤ 2147483647)) (fun h923 => ?_) (fun h923 => ?_)
              · have _q := h923
                refine jx_ar (pc_q := 89) (st_q := [.int (i32 (3))]) rfl rfl rfl rfl ?_
                refine jx_ld (pc_q := 91) (l_q := jSto1 L889 4 (.int (i32 (3)))) (st_q := []) rfl rfl ?_
                obtain ⟨L924, eL924⟩ : ∃ q, q = jSto1 L889 4 (.int (i32 (3))) := ⟨_, rfl⟩
                rw [← eL924]
                have gL924_0 : jGet L924 0 = some (.ref 66) := eL924 ▸ jg_ne (by decide) gL889_0 rfl
                have gL924_1 : jGet L924 1 = some (.int (i32 (many))) := eL924 ▸ jg_ne (by decide) gL889_1 rfl
                have gL924_2 : jGet L924 2 = some (.int (i32 (row))) := eL924 ▸ jg_ne (by decide) gL889_2 rfl
                have gL924_3 : jGet L924 3 = some (.int (i32 (0))) := eL924 ▸ jg_ne (by decide) gL889_3 rfl
                have gL924_4 : jGet L924 4 = some (.int (i32 (3))) := eL924 ▸ jg_eq
                have z925 := tz_f (tk2_901)
                exact c_readDeclaration_at_91p (X := X) (d := d) (c0 := c0) (c1 := c1) (G := G) (A := A) (T := T) (ln := ln) (le := le) (at0 := at0) (fk := fk) (tk0 := tk0) (li := li) (sy := sy) (na := na) (vi := vi) (hd := hd) (hW := hW) (e_ln := e_ln) (e_le := e_le) (e_at0 := e_at0) (e_fk := e_fk) (e_tk0 := e_tk0) (e_li := e_li) (e_sy := e_sy) (e_na := e_na) (e_vi := e_vi) (p_0 := p_0) (p_1 := p_1) (p_2 := p_2) (p_3 := p_3) (p_4 := p_4) L924 G898 A899 (many) (row) (3) (at2_900) (tk2_901) (fk2_902) gL924_0 gL924_1 gL924_2 gL924_4 hW903 hF911 hS912 hV913 ((e905)) ((e906)) ((e907)) (((hF904.1 9 rfl).trans (fx_9))) (((hF904.1 29 rfl).trans (fx_29))) (((hF904.1 19 rfl).trans (fx_19))) (((hF904.1 28 rfl).trans (fx_28))) (by omega) (by omega) (by omega) (by omega) (by omega) (by omega)
              · have _q := h923
                refine jx_ar (pc_q := 85) (st_q := [.int (i32 (4))]) rfl rfl rfl rfl ?_
                refine jx_go (tg := 89) rfl rfl ?_
                refine jx_ld (pc_q := 91) (l_q := jSto1 L889 4 (.int (i32 (4)))) (st_q := []) rfl rfl ?_
                obtain ⟨L926, eL926⟩ : ∃ q, q = jSto1 L889 4 (.int (i32 (4))) := ⟨_, rfl⟩
                rw [← eL926]
                have gL926_0 : jGet L926 0 = some (.ref 66) := eL926 ▸ jg_ne (by decide) gL889_0 rfl
                have gL926_1 : jGet L926 1 = some (.int (i32 (many))) := eL926 ▸ jg_ne (by decide) gL889_1 rfl
                have gL926_2 : jGet L926 2 = some (.int (i32 (row))) := eL926 ▸ jg_ne (by decide) gL889_2 rfl
                have gL926_3 : jGet L926 3 = some (.int (i32 (0))) := eL926 ▸ jg_ne (by decide) gL889_3 rfl
                have gL926_4 : jGet L926 4 = some (.int (i32 (4))) := eL926 ▸ jg_eq
                have z927 := tz_f (tk2_901)
                exact c_readDeclaration_at_91p (X := X) (d := d) (c0 := c0) (c1 := c1) (G := G) (A := A) (T := T) (ln := ln) (le := le) (at0 := at0) (fk := fk) (tk0 := tk0) (li := li) (sy := sy) (na := na) (vi := vi) (hd := hd) (hW := hW) (e_ln := e_ln) (e_le := e_le) (e_at0 := e_at0) (e_fk := e_fk) (e_tk0 := e_tk0) (e_li := e_li) (e_sy := e_sy) (e_na := e_na) (e_vi := e_vi) (p_0 := p_0) (p_1 := p_1) (p_2 := p_2) (p_3 := p_3) (p_4 := p_4) L926 G898 A899 (many) (row) (4) (at2_900) (tk2_901) (fk2_902) gL926_0 gL926_1 gL926_2 gL926_4 hW903 hF911 hS912 hV913 ((e905)) ((e906)) ((e907)) (((hF904.1 9 rfl).trans (fx_9))) (((hF904.1 29 rfl).trans (fx_29))) (((hF904.1 19 rfl).trans (fx_19))) (((hF904.1 28 rfl).trans (fx_28))) (by omega) (by omega) (by omega) (by omega) (by omega) (by omega)
            · have _q := h922
              exact absurd h922 (by omega)
          · have _q : True := trivial
            exfalso
            omega
      · have _q : True := trivial
        refine jx_if_eq (pc_q := 56) (tg := 60) rfl rfl rfl (by decide) (by decide) (fun h928 => ?_) (fun h928 => ?_)
        · have _q := h928
          refine jx_ar (pc_q := 61) (st_q := [.int (i32 (0)), .ref 66]) rfl rfl rfl rfl ?_
          refine jx_vr (pc_q := 64) (as := [.int (i32 (0))]) (st := []) rfl rfl rfl rfl ⟨rfl, rfl, Nat.le_of_ble_eq_true rfl⟩ rfl rfl (c_need (dd := d) (hd := by omega) (hW := hWx) (g := 0) (ln := ln) (e_ln := show Gx 9 = ln from (fx_9)) (le := le) (e_le := show Ax 4 (ln).toNat = le from (congrFun (hFx.2 4 rfl) _).trans (e_le)) (at0 := at5) (e_at0 := show Gx 10 = at5 from (ex_at5)) (fk := fk5) (e_fk := show Gx 16 = fk5 from (ex_fk5)) (tk0 := tk5) (e_tk0 := show Gx 11 = tk5 from (ex_tk5))  (h_g := ⟨(by decide), (by decide)⟩)  (p_0 := by omega)) (fun o V_q hq => ?_)
          obtain ⟨G929, A930, at2_931, tk2_932, fk2_933, rfl, rfl, hW934, hF935, e936, e937, e938, p939, p940, q941⟩ := hq
          have hF942 := Fr_tr hFx hF935 (Fr_sub (by decide)) (Fr_sub (by decide))
          have hS943 := Fx_f hSx hF935 (by decide)
          have hV944 := Fx_f hVx hF935 (by decide)
          have bat2_931 : (0 : Int) ≤ at2_931 ∧ at2_931 ≤ 3002 := e936 ▸ hW934.1 10
          have ztk2_932 := tz_b tk2_932
          have btk2_932 : (0 : Int) ≤ tk2_932 ∧ tk2_932 ≤ 5 := e937 ▸ hW934.1 11
          have bfk2_933 : (0 : Int) ≤ fk2_933 ∧ fk2_933 ≤ 6 := e938 ▸ hW934.1 16
          refine .inl ⟨rfl, ?_⟩
          rcases q941 with ⟨a945, a946, a947, a948⟩ | ⟨a949, a950, a951, a952⟩
          · have _q : True := trivial
            refine jx_ld (pc_q := 65) (l_q := L889) (st_q := [.int (i32 (0))]) rfl (jl_iloadn gL889_3) ?_
            refine jx_if_eq (pc_q := 68) (tg := 80) rfl rfl rfl (by decide) (by decide) (fun h953 => ?_) (fun h953 => ?_)
            · have _q := h953
              refine jx_ld (pc_q := 81) (l_q := L889) (st_q := [.int (i32 (row))]) rfl (jl_iloadn gL889_2) ?_
              refine jx_if_eq (pc_q := 84) (tg := 88) rfl rfl rfl (Int.le_trans (by decide : (-2147483648 : Int) ≤ -2147483648) rx_row.1) (Int.le_trans rx_row.2 (by decide : (2147483647 : Int) ≤ 2147483647)) (fun h954 => ?_) (fun h954 => ?_)
              · have _q := h954
                refine jx_ar (pc_q := 89) (st_q := [.int (i32 (3))]) rfl rfl rfl rfl ?_
                refine jx_ld (pc_q := 91) (l_q := jSto1 L889 4 (.int (i32 (3)))) (st_q := []) rfl rfl ?_
                obtain ⟨L955, eL955⟩ : ∃ q, q = jSto1 L889 4 (.int (i32 (3))) := ⟨_, rfl⟩
                rw [← eL955]
                have gL955_0 : jGet L955 0 = some (.ref 66) := eL955 ▸ jg_ne (by decide) gL889_0 rfl
                have gL955_1 : jGet L955 1 = some (.int (i32 (many))) := eL955 ▸ jg_ne (by decide) gL889_1 rfl
                have gL955_2 : jGet L955 2 = some (.int (i32 (row))) := eL955 ▸ jg_ne (by decide) gL889_2 rfl
                have gL955_3 : jGet L955 3 = some (.int (i32 (0))) := eL955 ▸ jg_ne (by decide) gL889_3 rfl
                have gL955_4 : jGet L955 4 = some (.int (i32 (3))) := eL955 ▸ jg_eq
                have z956 := tz_f (tk2_932)
                exact c_readDeclaration_at_91p (X := X) (d := d) (c0 := c0) (c1 := c1) (G := G) (A := A) (T := T) (ln := ln) (le := le) (at0 := at0) (fk := fk) (tk0 := tk0) (li := li) (sy := sy) (na := na) (vi := vi) (hd := hd) (hW := hW) (e_ln := e_ln) (e_le := e_le) (e_at0 := e_at0) (e_fk := e_fk) (e_tk0 := e_tk0) (e_li := e_li) (e_sy := e_sy) (e_na := e_na) (e_vi := e_vi) (p_0 := p_0) (p_1 := p_1) (p_2 := p_2) (p_3 := p_3) (p_4 := p_4) L955 G929 A930 (many) (row) (3) (at2_931) (tk2_932) (fk2_933) gL955_0 gL955_1 gL955_2 gL955_4 hW934 hF942 hS943 hV944 ((e936)) ((e937)) ((e938)) (((hF935.1 9 rfl).trans (fx_9))) (((hF935.1 29 rfl).trans (fx_29))) (((hF935.1 19 rfl).trans (fx_19))) (((hF935.1 28 rfl).trans (fx_28))) (by omega) (by omega) (by omega) (by omega) (by omega) (by omega)
              · have _q := h954
                refine jx_ar (pc_q := 85) (st_q := [.int (i32 (4))]) rfl rfl rfl rfl ?_
                refine jx_go (tg := 89) rfl rfl ?_
                refine jx_ld (pc_q := 91) (l_q := jSto1 L889 4 (.int (i32 (4)))) (st_q := []) rfl rfl ?_
                obtain ⟨L957, eL957⟩ : ∃ q, q = jSto1 L889 4 (.int (i32 (4))) := ⟨_, rfl⟩
                rw [← eL957]
                have gL957_0 : jGet L957 0 = some (.ref 66) := eL957 ▸ jg_ne (by decide) gL889_0 rfl
                have gL957_1 : jGet L957 1 = some (.int (i32 (many))) := eL957 ▸ jg_ne (by decide) gL889_1 rfl
                have gL957_2 : jGet L957 2 = some (.int (i32 (row))) := eL957 ▸ jg_ne (by decide) gL889_2 rfl
                have gL957_3 : jGet L957 3 = some (.int (i32 (0))) := eL957 ▸ jg_ne (by decide) gL889_3 rfl
                have gL957_4 : jGet L957 4 = some (.int (i32 (4))) := eL957 ▸ jg_eq
                have z958 := tz_f (tk2_932)
                exact c_readDeclaration_at_91p (X := X) (d := d) (c0 := c0) (c1 := c1) (G := G) (A := A) (T := T) (ln := ln) (le := le) (at0 := at0) (fk := fk) (tk0 := tk0) (li := li) (sy := sy) (na := na) (vi := vi) (hd := hd) (hW := hW) (e_ln := e_ln) (e_le := e_le) (e_at0 := e_at0) (e_fk := e_fk) (e_tk0 := e_tk0) (e_li := e_li) (e_sy := e_sy) (e_na := e_na) (e_vi := e_vi) (p_0 := p_0) (p_1 := p_1) (p_2 := p_2) (p_3 := p_3) (p_4 := p_4) L957 G929 A930 (many) (row) (4) (at2_931) (tk2_932) (fk2_933) gL957_0 gL957_1 gL957_2 gL957_4 hW934 hF942 hS943 hV944 ((e936)) ((e937)) ((e938)) (((hF935.1 9 rfl).trans (fx_9))) (((hF935.1 29 rfl).trans (fx_29))) (((hF935.1 19 rfl).trans (fx_19))) (((hF935.1 28 rfl).trans (fx_28))) (by omega) (by omega) (by omega) (by omega) (by omega) (by omega)
            · have _q := h953
              exact absurd h953 (by omega)
          · have _q : True := trivial
            exfalso
            omega
        · have _q := h928
          exact absurd h928 (by omega)
set_option maxRecDepth 20000 in
set_option maxHeartbeats 4000000 in
theorem c_readDeclaration {X : jX} {dd : Nat} {c0 c1 : jC} {G : Nat → Int} {A : Nat → Nat → Int} {T : jH} {ln le at0 fk tk0 li sy na vi : Int} (hd : 8 ≤ dd) (hW : Wk G A) (e_ln : G 9 = ln) (e_le : A 4 (ln).toNat = le) (e_at0 : G 10 = at0) (e_fk : G 16 = fk) (e_tk0 : G 11 = tk0) (e_li : G 3 = li) (e_sy : G 19 = sy) (e_na : G 28 = na) (e_vi : G 29 = vi) (p_0 : at0 ≤ le) (p_1 : ln < li) (p_2 : fk = 0) (p_3 : sy ≤ na + 2) (p_4 : vi ≤ sy) : wk X dd 294 [.ref 66] (rV c0 c1 G A T) (fun o V_q => ∃ (G_q : Nat → Int) (A_q : Nat → Nat → Int) (at2 : Int) (fk2 : Int) (ln2 : Int) (sy2 : Int) (na2 : Int) (vi2 : Int), V_q = rV c0 c1 G_q A_q T ∧ o = .inl none ∧ Wk G_q A_q ∧ Fr [9, 10, 11, 12, 13, 14, 16, 17, 18, 19, 28, 29] [6, 7, 8, 9, 10, 11, 12, 14] G A G_q A_q ∧ Fx sr (sy) A A_q ∧ Fx [14] (vi) A A_q ∧ G_q 10 = at2 ∧ G_q 16 = fk2 ∧ G_q 9 = ln2 ∧ G_q 19 = sy2 ∧ G_q 28 = na2 ∧ G_q 29 = vi2 ∧ (at0 ≤ at2) ∧ (at2 ≤ le) ∧ (sy ≤ sy2) ∧ (sy2 ≤ na2 + 2) ∧ (vi ≤ vi2) ∧ (vi2 - vi ≤ sy2 - sy) ∧ (((1 ≤ fk2) ∧ (ln2 = ln ∨ ln2 = ln + 1)) ∨ ((fk2 = 0) ∧ (ln2 = ln + 1) ∧ (wD A_q (sy) (sy2)) ∧ (DS A_q (vi) (vi2) (sy) (sy2))))) := by
  obtain ⟨d, rfl⟩ : ∃ d, dd = d + 1 := ⟨dd - 1, by omega⟩
  refine wk_of (e := jm294) rfl (Nat.le_of_ble_eq_true rfl) ?_
  show wj X d jm294 (0, [(0, .ref 66)], [], rV c0 c1 G A T) _
  have hF0 : Fr [9, 10, 11, 12, 13, 14, 16, 17, 18, 19, 28, 29] [6, 7, 8, 9, 10, 11, 12, 14] G A G A := Fr_rf
  have hS0 : Fx sr (sy) A A := Fx_rf
  have hV0 : Fx [14] (vi) A A := Fx_rf
  have b_ln : (0 : Int) ≤ ln ∧ ln ≤ 3000 := e_ln ▸ hW.1 9
  have b_le : (0 : Int) ≤ le ∧ le ≤ 3000 := e_le ▸ hW.2 4 _
  have b_at0 : (0 : Int) ≤ at0 ∧ at0 ≤ 3002 := e_at0 ▸ hW.1 10
  have b_fk : (0 : Int) ≤ fk ∧ fk ≤ 6 := e_fk ▸ hW.1 16
  have b_tk0 : (0 : Int) ≤ tk0 ∧ tk0 ≤ 5 := e_tk0 ▸ hW.1 11
  have b_li : (0 : Int) ≤ li ∧ li ≤ 3000 := e_li ▸ hW.1 3
  have b_sy : (0 : Int) ≤ sy ∧ sy ≤ 202 := e_sy ▸ hW.1 19
  have b_na : (0 : Int) ≤ na ∧ na ≤ 200 := e_na ▸ hW.1 28
  have b_vi : (0 : Int) ≤ vi ∧ vi ≤ 202 := e_vi ▸ hW.1 29
  refine jx_ar (pc_q := 1) (st_q := [.int (i32 (0))]) rfl rfl rfl rfl ?_
  refine jx_ld (pc_q := 2) (l_q := jSto1 [(0, .ref 66)] 1 (.int (i32 (0)))) (st_q := []) rfl rfl ?_
  obtain ⟨L959, eL959⟩ : ∃ q, q = jSto1 [(0, .ref 66)] 1 (.int (i32 (0))) := ⟨_, rfl⟩
  rw [← eL959]
  have gL959_0 : jGet L959 0 = some (.ref 66) := eL959 ▸ jg_ne (by decide) (rfl : jGet [(0, .ref 66)] 0 = some (.ref 66)) rfl
  have gL959_1 : jGet L959 1 = some (.int (i32 (0))) := eL959 ▸ jg_eq
  refine jx_ld (pc_q := 3) (l_q := L959) (st_q := [.ref 66]) rfl (jl_aloadn gL959_0) ?_
  refine jx_ar (pc_q := 5) (st_q := [.int (i32 (91)), .ref 66]) rfl rfl rfl rfl ?_
  have b960 : (-2147483648 : Int) ≤ G 13 ∧ G 13 ≤ 2147483647 := hW.1 13
  refine jx_vr (pc_q := 8) (as := [.int (i32 (91))]) (st := []) rfl rfl rfl rfl ⟨rfl, rfl, Nat.le_of_ble_eq_true rfl⟩ rfl rfl (c_is (dd := d) (hd := by omega) (hW := hW) (k := 91) (tk := tk0) (e_tk := show G 11 = tk0 from (e_tk0)) (tn := G 13) (e_tn := show G 13 = G 13 from rfl)  (h_k := ⟨(by decide), (by decide)⟩)  ) (fun o V_q hq => ?_)
  obtain ⟨r961, rfl, rfl, b962, q963⟩ := hq
  refine .inr ⟨_, rfl, ?_⟩
  rcases q963 with ⟨rfl, a964, a965, a966⟩ | rfl
  · have _q : True := trivial
    refine jx_ld (pc_q := 9) (l_q := jSto1 L959 2 (.int (i32 (1)))) (st_q := []) rfl rfl ?_
    obtain ⟨L967, eL967⟩ : ∃ q, q = jSto1 L959 2 (.int (i32 (1))) := ⟨_, rfl⟩
    rw [← eL967]
    have gL967_0 : jGet L967 0 = some (.ref 66) := eL967 ▸ jg_ne (by decide) gL959_0 rfl
    have gL967_1 : jGet L967 1 = some (.int (i32 (0))) := eL967 ▸ jg_ne (by decide) gL959_1 rfl
    have gL967_2 : jGet L967 2 = some (.int (i32 (1))) := eL967 ▸ jg_eq
    refine jx_ld (pc_q := 10) (l_q := L967) (st_q := [.int (i32 (1))]) rfl (jl_iloadn gL967_2) ?_
    refine jx_if_eq (pc_q := 13) (tg := 35) rfl rfl rfl (by decide) (by decide) (fun h968 => ?_) (fun h968 => ?_)
    · have _q := h968
      exact absurd h968 (by omega)
    · have _q := h968
      refine jx_ld (pc_q := 14) (l_q := L967) (st_q := [.ref 66]) rfl (jl_aloadn gL967_0) ?_
      refine jx_vr (pc_q := 17) (as := []) (st := []) rfl rfl rfl rfl ⟨rfl, rfl, Nat.le_of_ble_eq_true rfl⟩ rfl rfl (c_next (dd := d) (hd := by omega) (hW := hW)  (ln := ln) (e_ln := show G 9 = ln from (e_ln)) (le := le) (e_le := show A 4 (ln).toNat = le from (e_le)) (at0 := at0) (e_at0 := show G 10 = at0 from (e_at0))    (p_0 := by omega)) (fun o V_q hq => ?_)
      obtain ⟨G969, A970, at2_971, tk2_972, rfl, rfl, hW973, hF974, e975, e976, p977, p978, p979, -⟩ := hq
      have hF981 := Fr_tr hF0 hF974 (Fr_sub (by decide)) (Fr_sub (by decide))
      have hS982 := Fx_f hS0 hF974 (by decide)
      have hV983 := Fx_f hV0 hF974 (by decide)
      have bat2_971 : (0 : Int) ≤ at2_971 ∧ at2_971 ≤ 3002 := e975 ▸ hW973.1 10
      have ztk2_972 := tz_b tk2_972
      have btk2_972 : (0 : Int) ≤ tk2_972 ∧ tk2_972 ≤ 5 := e976 ▸ hW973.1 11
      refine .inl ⟨rfl, ?_⟩
      refine jx_ld (pc_q := 18) (l_q := L967) (st_q := [.ref 66]) rfl (jl_aloadn gL967_0) ?_
      refine jx_ar (pc_q := 19) (st_q := [.int (i32 (1)), .ref 66]) rfl rfl rfl rfl ?_
      refine jx_ar (pc_q := 21) (st_q := [.int (i32 (64)), .int (i32 (1)), .ref 66]) rfl rfl rfl rfl ?_
      refine jx_vr (pc_q := 24) (as := [.int (i32 (1)), .int (i32 (64))]) (st := []) rfl rfl rfl rfl ⟨rfl, rfl, Nat.le_of_ble_eq_true rfl⟩ rfl rfl (c_needNumber (dd := d) (hd := by omega) (hW := hW973) (lo := 1) (hi := 64) (ln := ln) (e_ln := show G969 9 = ln from ((hF974.1 9 rfl).trans (e_ln))) (le := le) (e_le := show A970 4 (ln).toNat = le from (congrFun (hF974.2 4 rfl) _).trans (e_le)) (at0 := at2_971) (e_at0 := show G969 10 = at2_971 from (e975)) (fk := fk) (e_fk := show G969 16 = fk from ((hF974.1 16 rfl).trans (e_fk))) (tk0 := tk2_972) (e_tk0 := show G969 11 = tk2_972 from (e976))  (h_lo := ⟨(by decide), (by decide)⟩) (h_hi := ⟨(by decide), (by decide)⟩)  (p_0 := by omega)) (fun o V_q hq => ?_)
      obtain ⟨G984, A985, r986, at2_987, tk2_988, fk2_989, rfl, rfl, hW990, hF991, b992, e993, e994, e995, p996, p997, q998⟩ := hq
      have hF999 := Fr_tr hF981 hF991 (Fr_sub (by decide)) (Fr_sub (by decide))
      have hS1000 := Fx_f hS982 hF991 (by decide)
      have hV1001 := Fx_f hV983 hF991 (by decide)
      have bat2_987 : (0 : Int) ≤ at2_987 ∧ at2_987 ≤ 3002 := e993 ▸ hW990.1 10
      have ztk2_988 := tz_b tk2_988
      have btk2_988 : (0 : Int) ≤ tk2_988 ∧ tk2_988 ≤ 5 := e994 ▸ hW990.1 11
      have bfk2_989 : (0 : Int) ≤ fk2_989 ∧ fk2_989 ≤ 6 := e995 ▸ hW990.1 16
      refine .inr ⟨_, rfl, ?_⟩
      rcases q998 with ⟨a1002, a1003, a1004, a1005⟩ | ⟨a1006, a1007, a1008, a1009, a1010⟩
      · have _q : True := trivial
        refine jx_ld (pc_q := 25) (l_q := jSto1 L967 1 (.int (i32 (r986)))) (st_q := []) rfl rfl ?_
        obtain ⟨L1011, eL1011⟩ : ∃ q, q = jSto1 L967 1 (.int (i32 (r986))) := ⟨_, rfl⟩
        rw [← eL1011]
        have gL1011_0 : jGet L1011 0 = some (.ref 66) := eL1011 ▸ jg_ne (by decide) gL967_0 rfl
        have gL1011_2 : jGet L1011 2 = some (.int (i32 (1))) := eL1011 ▸ jg_ne (by decide) gL967_2 rfl
        have gL1011_1 : jGet L1011 1 = some (.int (i32 (r986))) := eL1011 ▸ jg_eq
        refine jx_ld (pc_q := 26) (l_q := L1011) (st_q := [.ref 66]) rfl (jl_aloadn gL1011_0) ?_
        refine jx_ld (pc_q := 27) (l_q := L1011) (st_q := [.ref 66, .ref 66]) rfl (jl_aloadn gL1011_0) ?_
        refine jx_ar (pc_q := 29) (st_q := [.int (i32 (93)), .ref 66, .ref 66]) rfl rfl rfl rfl ?_
        have b1012 : (-2147483648 : Int) ≤ G984 13 ∧ G984 13 ≤ 2147483647 := hW990.1 13
        refine jx_vr (pc_q := 32) (as := [.int (i32 (93))]) (st := [.ref 66]) rfl rfl rfl rfl ⟨rfl, rfl, Nat.le_of_ble_eq_true rfl⟩ rfl rfl (c_is (dd := d) (hd := by omega) (hW := hW990) (k := 93) (tk := tk2_988) (e_tk := show G984 11 = tk2_988 from (e994)) (tn := G984 13) (e_tn := show G984 13 = G984 13 from rfl)  (h_k := ⟨(by decide), (by decide)⟩)  ) (fun o V_q hq => ?_)
        obtain ⟨r1013, rfl, rfl, b1014, q1015⟩ := hq
        refine .inr ⟨_, rfl, ?_⟩
        rcases q1015 with ⟨rfl, a1016, a1017, a1018⟩ | rfl
        · have _q : True := trivial
          refine jx_vr (pc_q := 35) (as := [.int (i32 (1))]) (st := []) rfl rfl rfl rfl ⟨rfl, rfl, Nat.le_of_ble_eq_true rfl⟩ rfl rfl (c_need (dd := d) (hd := by omega) (hW := hW990) (g := 1) (ln := ln) (e_ln := show G984 9 = ln from ((hF991.1 9 rfl).trans ((hF974.1 9 rfl).trans (e_ln)))) (le := le) (e_le := show A985 4 (ln).toNat = le from (congrFun ((hF991.2 4 rfl).trans (hF974.2 4 rfl)) _).trans (e_le)) (at0 := at2_987) (e_at0 := show G984 10 = at2_987 from (e993)) (fk := fk2_989) (e_fk := show G984 16 = fk2_989 from (e995)) (tk0 := tk2_988) (e_tk0 := show G984 11 = tk2_988 from (e994))  (h_g := ⟨(by decide), (by decide)⟩)  (p_0 := by omega)) (fun o V_q hq => ?_)
          obtain ⟨G1019, A1020, at2_1021, tk2_1022, fk2_1023, rfl, rfl, hW1024, hF1025, e1026, e1027, e1028, p1029, p1030, q1031⟩ := hq
          have hF1032 := Fr_tr hF999 hF1025 (Fr_sub (by decide)) (Fr_sub (by decide))
          have hS1033 := Fx_f hS1000 hF1025 (by decide)
          have hV1034 := Fx_f hV1001 hF1025 (by decide)
          have bat2_1021 : (0 : Int) ≤ at2_1021 ∧ at2_1021 ≤ 3002 := e1026 ▸ hW1024.1 10
          have ztk2_1022 := tz_b tk2_1022
          have btk2_1022 : (0 : Int) ≤ tk2_1022 ∧ tk2_1022 ≤ 5 := e1027 ▸ hW1024.1 11
          have bfk2_1023 : (0 : Int) ≤ fk2_1023 ∧ fk2_1023 ≤ 6 := e1028 ▸ hW1024.1 16
          refine .inl ⟨rfl, ?_⟩
          rcases q1031 with ⟨a1035, a1036, a1037, a1038⟩ | ⟨a1039, a1040, a1041, a1042⟩
          · have _q : True := trivial
            have z1043 := tz_f (tk2_1022)
            exact c_readDeclaration_at_35p (X := X) (d := d) (c0 := c0) (c1 := c1) (G := G) (A := A) (T := T) (ln := ln) (le := le) (at0 := at0) (fk := fk) (tk0 := tk0) (li := li) (sy := sy) (na := na) (vi := vi) (hd := hd) (hW := hW) (e_ln := e_ln) (e_le := e_le) (e_at0 := e_at0) (e_fk := e_fk) (e_tk0 := e_tk0) (e_li := e_li) (e_sy := e_sy) (e_na := e_na) (e_vi := e_vi) (p_0 := p_0) (p_1 := p_1) (p_2 := p_2) (p_3 := p_3) (p_4 := p_4) L1011 G1019 A1020 (r986) (1) (at2_1021) (tk2_1022) (fk2_1023) gL1011_0 gL1011_1 gL1011_2 hW1024 hF1032 hS1033 hV1034 ((e1026)) ((e1027)) ((e1028)) (((hF1025.1 9 rfl).trans ((hF991.1 9 rfl).trans ((hF974.1 9 rfl).trans (e_ln))))) (((hF1025.1 29 rfl).trans ((hF991.1 29 rfl).trans ((hF974.1 29 rfl).trans (e_vi))))) (((hF1025.1 19 rfl).trans ((hF991.1 19 rfl).trans ((hF974.1 19 rfl).trans (e_sy))))) (((hF1025.1 28 rfl).trans ((hF991.1 28 rfl).trans ((hF974.1 28 rfl).trans (e_na))))) (by omega) (by omega) (by omega) (by omega) (by omega) (by omega)
          · have _q : True := trivial
            exfalso
            omega
        · have _q : True := trivial
          refine jx_vr (pc_q := 35) (as := [.int (i32 (0))]) (st := []) rfl rfl rfl rfl ⟨rfl, rfl, Nat.le_of_ble_eq_true rfl⟩ rfl rfl (c_need (dd := d) (hd := by omega) (hW := hW990) (g := 0) (ln := ln) (e_ln := show G984 9 = ln from ((hF991.1 9 rfl).trans ((hF974.1 9 rfl).trans (e_ln)))) (le := le) (e_le := show A985 4 (ln).toNat = le from (congrFun ((hF991.2 4 rfl).trans (hF974.2 4 rfl)) _).trans (e_le)) (at0 := at2_987) (e_at0 := show G984 10 = at2_987 from (e993)) (fk := fk2_989) (e_fk := show G984 16 = fk2_989 from (e995)) (tk0 := tk2_988) (e_tk0 := show G984 11 = tk2_988 from (e994))  (h_g := ⟨(by decide), (by decide)⟩)  (p_0 := by omega)) (fun o V_q hq => ?_)
          obtain ⟨G1044, A1045, at2_1046, tk2_1047, fk2_1048, rfl, rfl, hW1049, hF1050, e1051, e1052, e1053, p1054, p1055, q1056⟩ := hq
          have hF1057 := Fr_tr hF999 hF1050 (Fr_sub (by decide)) (Fr_sub (by decide))
          have hS1058 := Fx_f hS1000 hF1050 (by decide)
          have hV1059 := Fx_f hV1001 hF1050 (by decide)
          have bat2_1046 : (0 : Int) ≤ at2_1046 ∧ at2_1046 ≤ 3002 := e1051 ▸ hW1049.1 10
          have ztk2_1047 := tz_b tk2_1047
          have btk2_1047 : (0 : Int) ≤ tk2_1047 ∧ tk2_1047 ≤ 5 := e1052 ▸ hW1049.1 11
          have bfk2_1048 : (0 : Int) ≤ fk2_1048 ∧ fk2_1048 ≤ 6 := e1053 ▸ hW1049.1 16
          refine .inl ⟨rfl, ?_⟩
          rcases q1056 with ⟨a1060, a1061, a1062, a1063⟩ | ⟨a1064, a1065, a1066, a1067⟩
          · have _q : True := trivial
            have z1068 := tz_f (tk2_1047)
            exact c_readDeclaration_at_35p (X := X) (d := d) (c0 := c0) (c1 := c1) (G := G) (A := A) (T := T) (ln := ln) (le := le) (at0 := at0) (fk := fk) (tk0 := tk0) (li := li) (sy := sy) (na := na) (vi := vi) (hd := hd) (hW := hW) (e_ln := e_ln) (e_le := e_le) (e_at0 := e_at0) (e_fk := e_fk) (e_tk0 := e_tk0) (e_li := e_li) (e_sy := e_sy) (e_na := e_na) (e_vi := e_vi) (p_0 := p_0) (p_1 := p_1) (p_2 := p_2) (p_3 := p_3) (p_4 := p_4) L1011 G1044 A1045 (r986) (1) (at2_1046) (tk2_1047) (fk2_1048) gL1011_0 gL1011_1 gL1011_2 hW1049 hF1057 hS1058 hV1059 ((e1051)) ((e1052)) ((e1053)) (((hF1050.1 9 rfl).trans ((hF991.1 9 rfl).trans ((hF974.1 9 rfl).trans (e_ln))))) (((hF1050.1 29 rfl).trans ((hF991.1 29 rfl).trans ((hF974.1 29 rfl).trans (e_vi))))) (((hF1050.1 19 rfl).trans ((hF991.1 19 rfl).trans ((hF974.1 19 rfl).trans (e_sy))))) (((hF1050.1 28 rfl).trans ((hF991.1 28 rfl).trans ((hF974.1 28 rfl).trans (e_na))))) (by omega) (by omega) (by omega) (by omega) (by omega) (by omega)
          · have _q : True := trivial
            exfalso
            omega
      · have _q : True := trivial
        refine jx_ld (pc_q := 25) (l_q := jSto1 L967 1 (.int (i32 (r986)))) (st_q := []) rfl rfl ?_
        obtain ⟨L1069, eL1069⟩ : ∃ q, q = jSto1 L967 1 (.int (i32 (r986))) := ⟨_, rfl⟩
        rw [← eL1069]
        have gL1069_0 : jGet L1069 0 = some (.ref 66) := eL1069 ▸ jg_ne (by decide) gL967_0 rfl
        have gL1069_2 : jGet L1069 2 = some (.int (i32 (1))) := eL1069 ▸ jg_ne (by decide) gL967_2 rfl
        have gL1069_1 : jGet L1069 1 = some (.int (i32 (r986))) := eL1069 ▸ jg_eq
        refine jx_ld (pc_q := 26) (l_q := L1069) (st_q := [.ref 66]) rfl (jl_aloadn gL1069_0) ?_
        refine jx_ld (pc_q := 27) (l_q := L1069) (st_q := [.ref 66, .ref 66]) rfl (jl_aloadn gL1069_0) ?_
        refine jx_ar (pc_q := 29) (st_q := [.int (i32 (93)), .ref 66, .ref 66]) rfl rfl rfl rfl ?_
        have b1070 : (-2147483648 : Int) ≤ G984 13 ∧ G984 13 ≤ 2147483647 := hW990.1 13
        refine jx_vr (pc_q := 32) (as := [.int (i32 (93))]) (st := [.ref 66]) rfl rfl rfl rfl ⟨rfl, rfl, Nat.le_of_ble_eq_true rfl⟩ rfl rfl (c_is (dd := d) (hd := by omega) (hW := hW990) (k := 93) (tk := tk2_988) (e_tk := show G984 11 = tk2_988 from (e994)) (tn := G984 13) (e_tn := show G984 13 = G984 13 from rfl)  (h_k := ⟨(by decide), (by decide)⟩)  ) (fun o V_q hq => ?_)
        obtain ⟨r1071, rfl, rfl, b1072, q1073⟩ := hq
        refine .inr ⟨_, rfl, ?_⟩
        rcases q1073 with ⟨rfl, a1074, a1075, a1076⟩ | rfl
        · have _q : True := trivial
          refine jx_vr (pc_q := 35) (as := [.int (i32 (1))]) (st := []) rfl rfl rfl rfl ⟨rfl, rfl, Nat.le_of_ble_eq_true rfl⟩ rfl rfl (c_need (dd := d) (hd := by omega) (hW := hW990) (g := 1) (ln := ln) (e_ln := show G984 9 = ln from ((hF991.1 9 rfl).trans ((hF974.1 9 rfl).trans (e_ln)))) (le := le) (e_le := show A985 4 (ln).toNat = le from (congrFun ((hF991.2 4 rfl).trans (hF974.2 4 rfl)) _).trans (e_le)) (at0 := at2_987) (e_at0 := show G984 10 = at2_987 from (e993)) (fk := fk2_989) (e_fk := show G984 16 = fk2_989 from (e995)) (tk0 := tk2_988) (e_tk0 := show G984 11 = tk2_988 from (e994))  (h_g := ⟨(by decide), (by decide)⟩)  (p_0 := by omega)) (fun o V_q hq => ?_)
          obtain ⟨G1077, A1078, at2_1079, tk2_1080, fk2_1081, rfl, rfl, hW1082, hF1083, e1084, e1085, e1086, p1087, p1088, q1089⟩ := hq
          have hF1090 := Fr_tr hF999 hF1083 (Fr_sub (by decide)) (Fr_sub (by decide))
          have hS1091 := Fx_f hS1000 hF1083 (by decide)
          have hV1092 := Fx_f hV1001 hF1083 (by decide)
          have bat2_1079 : (0 : Int) ≤ at2_1079 ∧ at2_1079 ≤ 3002 := e1084 ▸ hW1082.1 10
          have ztk2_1080 := tz_b tk2_1080
          have btk2_1080 : (0 : Int) ≤ tk2_1080 ∧ tk2_1080 ≤ 5 := e1085 ▸ hW1082.1 11
          have bfk2_1081 : (0 : Int) ≤ fk2_1081 ∧ fk2_1081 ≤ 6 := e1086 ▸ hW1082.1 16
          refine .inl ⟨rfl, ?_⟩
          rcases q1089 with ⟨a1093, a1094, a1095, a1096⟩ | ⟨a1097, a1098, a1099, a1100⟩
          · have _q : True := trivial
            have z1101 := tz_f (tk2_1080)
            exact c_readDeclaration_at_35p (X := X) (d := d) (c0 := c0) (c1 := c1) (G := G) (A := A) (T := T) (ln := ln) (le := le) (at0 := at0) (fk := fk) (tk0 := tk0) (li := li) (sy := sy) (na := na) (vi := vi) (hd := hd) (hW := hW) (e_ln := e_ln) (e_le := e_le) (e_at0 := e_at0) (e_fk := e_fk) (e_tk0 := e_tk0) (e_li := e_li) (e_sy := e_sy) (e_na := e_na) (e_vi := e_vi) (p_0 := p_0) (p_1 := p_1) (p_2 := p_2) (p_3 := p_3) (p_4 := p_4) L1069 G1077 A1078 (r986) (1) (at2_1079) (tk2_1080) (fk2_1081) gL1069_0 gL1069_1 gL1069_2 hW1082 hF1090 hS1091 hV1092 ((e1084)) ((e1085)) ((e1086)) (((hF1083.1 9 rfl).trans ((hF991.1 9 rfl).trans ((hF974.1 9 rfl).trans (e_ln))))) (((hF1083.1 29 rfl).trans ((hF991.1 29 rfl).trans ((hF974.1 29 rfl).trans (e_vi))))) (((hF1083.1 19 rfl).trans ((hF991.1 19 rfl).trans ((hF974.1 19 rfl).trans (e_sy))))) (((hF1083.1 28 rfl).trans ((hF991.1 28 rfl).trans ((hF974.1 28 rfl).trans (e_na))))) (by omega) (by omega) (by omega) (by omega) (by omega) (by omega)
          · have _q : True := trivial
            have z1102 := tz_f (tk2_1080)
            exact c_readDeclaration_at_35 (X := X) (d := d) (c0 := c0) (c1 := c1) (G := G) (A := A) (T := T) (ln := ln) (le := le) (at0 := at0) (fk := fk) (tk0 := tk0) (li := li) (sy := sy) (na := na) (vi := vi) (hd := hd) (hW := hW) (e_ln := e_ln) (e_le := e_le) (e_at0 := e_at0) (e_fk := e_fk) (e_tk0 := e_tk0) (e_li := e_li) (e_sy := e_sy) (e_na := e_na) (e_vi := e_vi) (p_0 := p_0) (p_1 := p_1) (p_2 := p_2) (p_3 := p_3) (p_4 := p_4) L1069 G1077 A1078 (r986) (1) (at2_1079) (tk2_1080) (fk2_1081) gL1069_0 gL1069_1 gL1069_2 hW1082 hF1090 hS1091 hV1092 ((e1084)) ((e1085)) ((e1086)) (((hF1083.1 9 rfl).trans ((hF991.1 9 rfl).trans ((hF974.1 9 rfl).trans (e_ln))))) (((hF1083.1 29 rfl).trans ((hF991.1 29 rfl).trans ((hF974.1 29 rfl).trans (e_vi))))) (((hF1083.1 19 rfl).trans ((hF991.1 19 rfl).trans ((hF974.1 19 rfl).trans (e_sy))))) (((hF1083.1 28 rfl).trans ((hF991.1 28 rfl).trans ((hF974.1 28 rfl).trans (e_na))))) (by omega) (by omega) (by omega) (by omega) (by omega) (by omega) (by omega)
        · have _q : True := trivial
          refine jx_vr (pc_q := 35) (as := [.int (i32 (0))]) (st := []) rfl rfl rfl rfl ⟨rfl, rfl, Nat.le_of_ble_eq_true rfl⟩ rfl rfl (c_need (dd := d) (hd := by omega) (hW := hW990) (g := 0) (ln := ln) (e_ln := show G984 9 = ln from ((hF991.1 9 rfl).trans ((hF974.1 9 rfl).trans (e_ln)))) (le := le) (e_le := show A985 4 (ln).toNat = le from (congrFun ((hF991.2 4 rfl).trans (hF974.2 4 rfl)) _).trans (e_le)) (at0 := at2_987) (e_at0 := show G984 10 = at2_987 from (e993)) (fk := fk2_989) (e_fk := show G984 16 = fk2_989 from (e995)) (tk0 := tk2_988) (e_tk0 := show G984 11 = tk2_988 from (e994))  (h_g := ⟨(by decide), (by decide)⟩)  (p_0 := by omega)) (fun o V_q hq => ?_)
          obtain ⟨G1103, A1104, at2_1105, tk2_1106, fk2_1107, rfl, rfl, hW1108, hF1109, e1110, e1111, e1112, p1113, p1114, q1115⟩ := hq
          have hF1116 := Fr_tr hF999 hF1109 (Fr_sub (by decide)) (Fr_sub (by decide))
          have hS1117 := Fx_f hS1000 hF1109 (by decide)
          have hV1118 := Fx_f hV1001 hF1109 (by decide)
          have bat2_1105 : (0 : Int) ≤ at2_1105 ∧ at2_1105 ≤ 3002 := e1110 ▸ hW1108.1 10
          have ztk2_1106 := tz_b tk2_1106
          have btk2_1106 : (0 : Int) ≤ tk2_1106 ∧ tk2_1106 ≤ 5 := e1111 ▸ hW1108.1 11
          have bfk2_1107 : (0 : Int) ≤ fk2_1107 ∧ fk2_1107 ≤ 6 := e1112 ▸ hW1108.1 16
          refine .inl ⟨rfl, ?_⟩
          rcases q1115 with ⟨a1119, a1120, a1121, a1122⟩ | ⟨a1123, a1124, a1125, a1126⟩
          · have _q : True := trivial
            have z1127 := tz_f (tk2_1106)
            exact c_readDeclaration_at_35p (X := X) (d := d) (c0 := c0) (c1 := c1) (G := G) (A := A) (T := T) (ln := ln) (le := le) (at0 := at0) (fk := fk) (tk0 := tk0) (li := li) (sy := sy) (na := na) (vi := vi) (hd := hd) (hW := hW) (e_ln := e_ln) (e_le := e_le) (e_at0 := e_at0) (e_fk := e_fk) (e_tk0 := e_tk0) (e_li := e_li) (e_sy := e_sy) (e_na := e_na) (e_vi := e_vi) (p_0 := p_0) (p_1 := p_1) (p_2 := p_2) (p_3 := p_3) (p_4 := p_4) L1069 G1103 A1104 (r986) (1) (at2_1105) (tk2_1106) (fk2_1107) gL1069_0 gL1069_1 gL1069_2 hW1108 hF1116 hS1117 hV1118 ((e1110)) ((e1111)) ((e1112)) (((hF1109.1 9 rfl).trans ((hF991.1 9 rfl).trans ((hF974.1 9 rfl).trans (e_ln))))) (((hF1109.1 29 rfl).trans ((hF991.1 29 rfl).trans ((hF974.1 29 rfl).trans (e_vi))))) (((hF1109.1 19 rfl).trans ((hF991.1 19 rfl).trans ((hF974.1 19 rfl).trans (e_sy))))) (((hF1109.1 28 rfl).trans ((hF991.1 28 rfl).trans ((hF974.1 28 rfl).trans (e_na))))) (by omega) (by omega) (by omega) (by omega) (by omega) (by omega)
          · have _q : True := trivial
            exfalso
            omega
  · have _q : True := trivial
    refine jx_ld (pc_q := 9) (l_q := jSto1 L959 2 (.int (i32 (0)))) (st_q := []) rfl rfl ?_
    obtain ⟨L1128, eL1128⟩ : ∃ q, q = jSto1 L959 2 (.int (i32 (0))) := ⟨_, rfl⟩
    rw [← eL1128]
    have gL1128_0 : jGet L1128 0 = some (.ref 66) := eL1128 ▸ jg_ne (by decide) gL959_0 rfl
    have gL1128_1 : jGet L1128 1 = some (.int (i32 (0))) := eL1128 ▸ jg_ne (by decide) gL959_1 rfl
    have gL1128_2 : jGet L1128 2 = some (.int (i32 (0))) := eL1128 ▸ jg_eq
    refine jx_ld (pc_q := 10) (l_q := L1128) (st_q := [.int (i32 (0))]) rfl (jl_iloadn gL1128_2) ?_
    refine jx_if_eq (pc_q := 13) (tg := 35) rfl rfl rfl (by decide) (by decide) (fun h1129 => ?_) (fun h1129 => ?_)
    · have _q := h1129
      have z1130 := tz_f (tk0)
      exact c_readDeclaration_at_35 (X := X) (d := d) (c0 := c0) (c1 := c1) (G := G) (A := A) (T := T) (ln := ln) (le := le) (at0 := at0) (fk := fk) (tk0 := tk0) (li := li) (sy := sy) (na := na) (vi := vi) (hd := hd) (hW := hW) (e_ln := e_ln) (e_le := e_le) (e_at0 := e_at0) (e_fk := e_fk) (e_tk0 := e_tk0) (e_li := e_li) (e_sy := e_sy) (e_na := e_na) (e_vi := e_vi) (p_0 := p_0) (p_1 := p_1) (p_2 := p_2) (p_3 := p_3) (p_4 := p_4) L1128 G A (0) (0) (at0) (tk0) (fk) gL1128_0 gL1128_1 gL1128_2 hW hF0 hS0 hV0 ((e_at0)) ((e_tk0)) ((e_fk)) ((e_ln)) ((e_vi)) ((e_sy)) ((e_na)) (by omega) (by omega) (by omega) (by omega) (by omega) (by omega) (by omega)
    · have _q := h1129
      exact absurd h1129 (by omega)
