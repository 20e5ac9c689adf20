set_option maxRecDepth 20000 in
set_option maxHeartbeats 4000000 in
theorem c_needNumber2 {X : jX} {dd : Nat} {c0 c1 : jC} {G : Nat → Int} {A : Nat → Nat → Int} {T : jH} {lo hi : Int} {ln le at0 fk tk0 tn : Int} (hd : 7 ≤ dd) (hW : Wk G A) (e_ln : G 9 = ln) (e_le : A 4 (ln).toNat = le) (e_at0 : G 10 = at0) (e_fk : G 16 = fk) (e_tk0 : G 11 = tk0) (e_tn : G 13 = tn) (h_lo : (-2147483648 : Int) ≤ lo ∧ lo ≤ 2147483647) (h_hi : (-2147483648 : Int) ≤ hi ∧ hi ≤ 2147483647) (p_0 : at0 ≤ le) : wk X dd 293 [.ref 66, .int (i32 lo), .int (i32 hi)] (rV c0 c1 G A T) (fun o V_q => ∃ (G_q : Nat → Int) (A_q : Nat → Nat → Int) (r : Int) (at2 : Int) (tk2 : Int) (fk2 : Int), V_q = rV c0 c1 G_q A_q T ∧ o = .inl (some (.int (i32 r))) ∧ Wk G_q A_q ∧ Fr [10, 11, 12, 13, 14, 16, 17, 18] [] G A G_q A_q ∧ ((-2147483648 : Int) ≤ r ∧ r ≤ 2147483647) ∧ G_q 10 = at2 ∧ G_q 11 = tk2 ∧ G_q 16 = fk2 ∧ (at0 ≤ at2) ∧ (at2 ≤ le) ∧ (((1 ≤ fk2) ∧ (at2 = at0) ∧ (tk2 = tk0) ∧ (tz tk2 = tz tk0)) ∨ ((fk2 = 0) ∧ (fk = 0) ∧ (lo ≤ r) ∧ (r ≤ hi) ∧ (2 * at0 ≤ 2 * at2 - tz tk2) ∧ (tk0 = 3) ∧ (r = tn)))) := by
  obtain ⟨d, rfl⟩ : ∃ d, dd = d + 1 := ⟨dd - 1, by omega⟩
  refine wk_of (e := jm293) rfl (Nat.le_of_ble_eq_true rfl) ?_
  show wj X d jm293 (0, [(0, .ref 66), (1, .int (i32 (lo))), (2, .int (i32 (hi)))], [], rV c0 c1 G A T) _
  have hF0 : Fr [10, 11, 12, 13, 14, 16, 17, 18] [] G A G A := Fr_rf
  have b_ln : (0 : Int) ≤ ln ∧ ln ≤ 3000 := e_ln ▸ hW.1 9
  have b_le : (0 : Int) ≤ le ∧ le ≤ 3000 := e_le ▸ hW.2 4 _
  have b_at0 : (0 : Int) ≤ at0 ∧ at0 ≤ 3002 := e_at0 ▸ hW.1 10
  have b_fk : (0 : Int) ≤ fk ∧ fk ≤ 6 := e_fk ▸ hW.1 16
  have z_tk0 := tz_f tk0
  have b_tk0 : (0 : Int) ≤ tk0 ∧ tk0 ≤ 5 := e_tk0 ▸ hW.1 11
  have b_tn : (-2147483648 : Int) ≤ tn ∧ tn ≤ 2147483647 := e_tn ▸ hW.1 13
  refine jx_ld (pc_q := 1) (l_q := [(0, .ref 66), (1, .int (i32 (lo))), (2, .int (i32 (hi)))]) (st_q := [.ref 66]) rfl (jl_aloadn rfl) ?_
  refine jr_get (pc_q := 4) (i := 13) (v := .int (i32 (tn))) rfl rfl (by decide) (rFv_eq (by decide) (show G 13 = tn from (e_tn))) rfl ?_
  refine jx_ld (pc_q := 5) (l_q := jSto1 [(0, .ref 66), (1, .int (i32 (lo))), (2, .int (i32 (hi)))] 3 (.int (i32 (tn)))) (st_q := []) rfl rfl ?_
  obtain ⟨L1, eL1⟩ : ∃ q, q = jSto1 [(0, .ref 66), (1, .int (i32 (lo))), (2, .int (i32 (hi)))] 3 (.int (i32 (tn))) := ⟨_, rfl⟩
  rw [← eL1]
  have gL1_0 : jGet L1 0 = some (.ref 66) := eL1 ▸ jg_ne (by decide) (rfl : jGet [(0, .ref 66), (1, .int (i32 (lo))), (2, .int (i32 (hi)))] 0 = some (.ref 66)) rfl
  have gL1_1 : jGet L1 1 = some (.int (i32 (lo))) := eL1 ▸ jg_ne (by decide) (rfl : jGet [(0, .ref 66), (1, .int (i32 (lo))), (2, .int (i32 (hi)))] 1 = some (.int (i32 (lo)))) rfl
  have gL1_2 : jGet L1 2 = some (.int (i32 (hi))) := eL1 ▸ jg_ne (by decide) (rfl : jGet [(0, .ref 66), (1, .int (i32 (lo))), (2, .int (i32 (hi)))] 2 = some (.int (i32 (hi)))) rfl
  have gL1_3 : jGet L1 3 = some (.int (i32 (tn))) := eL1 ▸ jg_eq
  refine jx_ld (pc_q := 6) (l_q := L1) (st_q := [.ref 66]) rfl (jl_aloadn gL1_0) ?_
  refine jx_ld (pc_q := 7) (l_q := L1) (st_q := [.ref 66, .ref 66]) rfl (jl_aloadn gL1_0) ?_
  have z2 := tz_f (tk0)
  refine jr_get (pc_q := 10) (i := 11) (v := .int (i32 (tk0))) rfl rfl (by decide) (rFv_eq (by decide) (show G 11 = tk0 from (e_tk0))) rfl ?_
  refine jx_ar (pc_q := 11) (st_q := [.int (i32 (3)), .int (i32 (tk0)), .ref 66]) rfl rfl rfl rfl ?_
  refine jx_icmp_ne (pc_q := 14) (tg := 27) rfl rfl rfl (Int.le_trans (by decide : (-2147483648 : Int) ≤ 0) b_tk0.1) (Int.le_trans b_tk0.2 (by decide : (5 : Int) ≤ 2147483647)) (by decide) (by decide) (fun h3 => ?_) (fun h3 => ?_)
  · have _q := h3
    refine jx_ar (pc_q := 28) (st_q := [.int (i32 (0)), .ref 66]) rfl rfl rfl rfl ?_
    refine jx_vr (pc_q := 31) (as := [.int (i32 (0))]) (st := []) rfl rfl rfl rfl ⟨rfl, rfl, Nat.le_of_ble_eq_true rfl⟩ rfl rfl (c_need (dd := d) (hd := by omega) (hW := hW) (g := 0) (ln := ln) (e_ln := show G 9 = ln from (e_ln)) (le := le) (e_le := show A 4 (ln).toNat = le from (e_le)) (at0 := at0) (e_at0 := show G 10 = at0 from (e_at0)) (fk := fk) (e_fk := show G 16 = fk from (e_fk)) (tk0 := tk0) (e_tk0 := show G 11 = tk0 from (e_tk0))  (h_g := ⟨(by decide), (by decide)⟩)  (p_0 := by omega)) (fun o V_q hq => ?_)
    obtain ⟨G4, A5, at2_6, tk2_7, fk2_8, rfl, rfl, hW9, hF10, e11, e12, e13, p14, p15, q16⟩ := hq
    have hF17 := Fr_tr hF0 hF10 (Fr_sub (by decide)) (Fr_sub (by decide))
    have bat2_6 : (0 : Int) ≤ at2_6 ∧ at2_6 ≤ 3002 := e11 ▸ hW9.1 10
    have ztk2_7 := tz_b tk2_7
    have btk2_7 : (0 : Int) ≤ tk2_7 ∧ tk2_7 ≤ 5 := e12 ▸ hW9.1 11
    have bfk2_8 : (0 : Int) ≤ fk2_8 ∧ fk2_8 ≤ 6 := e13 ▸ hW9.1 16
    refine .inl ⟨rfl, ?_⟩
    rcases q16 with ⟨a18, a19, a20, a21⟩ | ⟨a22, a23, a24, a25⟩
    · have _q : True := trivial
      refine jx_ld (pc_q := 32) (l_q := L1) (st_q := [.int (i32 (tn))]) rfl (jl_iloadn gL1_3) ?_
      refine jx_rt (v := some (.int (i32 (tn)))) rfl rfl rfl rfl rfl rfl ?_
      have z26 := tz_f (tk2_7)
      exact ⟨_, _, _, at2_6, tk2_7, fk2_8, rfl, rfl, hW9, hF17, by omega, (e11), (e12), (e13), by omega, by omega, by first | exact Or.inl (⟨by omega, by omega, by omega, by omega⟩) | exact Or.inr ((⟨by omega, by omega, by omega, by omega, by omega, by omega, by omega⟩))⟩
    · have _q : True := trivial
      exfalso
      omega
  · have _q := h3
    refine jx_ld (pc_q := 15) (l_q := L1) (st_q := [.int (i32 (tn)), .ref 66]) rfl (jl_iloadn gL1_3) ?_
    refine jx_ld (pc_q := 16) (l_q := L1) (st_q := [.int (i32 (lo)), .int (i32 (tn)), .ref 66]) rfl (jl_iloadn gL1_1) ?_
    refine jx_ld (pc_q := 17) (l_q := L1) (st_q := [.int (i32 (hi)), .int (i32 (lo)), .int (i32 (tn)), .ref 66]) rfl (jl_iloadn gL1_2) ?_
    refine jx_st (pc_q := 20) (as := [.int (i32 (tn)), .int (i32 (lo)), .int (i32 (hi))]) (st := [.ref 66]) rfl rfl ⟨rfl, Nat.le_of_ble_eq_true rfl⟩ rfl rfl rfl (c_in (dd := d) (hd := by omega) (v := tn) (a := lo) (b := hi)   (h_v := ⟨(Int.le_trans (by decide : (-2147483648 : Int) ≤ -2147483648) b_tn.1), (Int.le_trans b_tn.2 (by decide : (2147483647 : Int) ≤ 2147483647))⟩) (h_a := ⟨(Int.le_trans (by decide : (-2147483648 : Int) ≤ -2147483648) h_lo.1), (Int.le_trans h_lo.2 (by decide : (2147483647 : Int) ≤ 2147483647))⟩) (h_b := ⟨(Int.le_trans (by decide : (-2147483648 : Int) ≤ -2147483648) h_hi.1), (Int.le_trans h_hi.2 (by decide : (2147483647 : Int) ≤ 2147483647))⟩)  ) (fun o V_q hq => ?_)
    obtain ⟨r27, rfl, rfl, b28, q29⟩ := hq
    refine .inr ⟨_, rfl, ?_⟩
    rcases q29 with ⟨rfl, a30, a31⟩ | ⟨rfl, a32⟩
    · have _q : True := trivial
      refine jx_if_eq (pc_q := 23) (tg := 27) rfl rfl rfl (by decide) (by decide) (fun h33 => ?_) (fun h33 => ?_)
      · have _q := h33
        exact absurd h33 (by omega)
      · have _q := h33
        refine jx_ar (pc_q := 24) (st_q := [.int (i32 (1)), .ref 66]) rfl rfl rfl rfl ?_
        refine jx_go (tg := 28) rfl rfl ?_
        refine jx_vr (pc_q := 31) (as := [.int (i32 (1))]) (st := []) rfl rfl rfl rfl ⟨rfl, rfl, Nat.le_of_ble_eq_true rfl⟩ rfl rfl (c_need (dd := d) (hd := by omega) (hW := hW) (g := 1) (ln := ln) (e_ln := show G 9 = ln from (e_ln)) (le := le) (e_le := show A 4 (ln).toNat = le from (e_le)) (at0 := at0) (e_at0 := show G 10 = at0 from (e_at0)) (fk := fk) (e_fk := show G 16 = fk from (e_fk)) (tk0 := tk0) (e_tk0 := show G 11 = tk0 from (e_tk0))  (h_g := ⟨(by decide), (by decide)⟩)  (p_0 := by omega)) (fun o V_q hq => ?_)
        obtain ⟨G34, A35, at2_36, tk2_37, fk2_38, rfl, rfl, hW39, hF40, e41, e42, e43, p44, p45, q46⟩ := hq
        have hF47 := Fr_tr hF0 hF40 (Fr_sub (by decide)) (Fr_sub (by decide))
        have bat2_36 : (0 : Int) ≤ at2_36 ∧ at2_36 ≤ 3002 := e41 ▸ hW39.1 10
        have ztk2_37 := tz_b tk2_37
        have btk2_37 : (0 : Int) ≤ tk2_37 ∧ tk2_37 ≤ 5 := e42 ▸ hW39.1 11
        have bfk2_38 : (0 : Int) ≤ fk2_38 ∧ fk2_38 ≤ 6 := e43 ▸ hW39.1 16
        refine .inl ⟨rfl, ?_⟩
        rcases q46 with ⟨a48, a49, a50, a51⟩ | ⟨a52, a53, a54, a55⟩
        · have _q : True := trivial
          refine jx_ld (pc_q := 32) (l_q := L1) (st_q := [.int (i32 (tn))]) rfl (jl_iloadn gL1_3) ?_
          refine jx_rt (v := some (.int (i32 (tn)))) rfl rfl rfl rfl rfl rfl ?_
          have z56 := tz_f (tk2_37)
          exact ⟨_, _, _, at2_36, tk2_37, fk2_38, rfl, rfl, hW39, hF47, by omega, (e41), (e42), (e43), by omega, by omega, by first | exact Or.inl (⟨by omega, by omega, by omega, by omega⟩) | exact Or.inr ((⟨by omega, by omega, by omega, by omega, by omega, by omega, by omega⟩))⟩
        · have _q : True := trivial
          refine jx_ld (pc_q := 32) (l_q := L1) (st_q := [.int (i32 (tn))]) rfl (jl_iloadn gL1_3) ?_
          refine jx_rt (v := some (.int (i32 (tn)))) rfl rfl rfl rfl rfl rfl ?_
          have z57 := tz_f (tk2_37)
          exact ⟨_, _, _, at2_36, tk2_37, fk2_38, rfl, rfl, hW39, hF47, by omega, (e41), (e42), (e43), by omega, by omega, by first | exact Or.inl (⟨by omega, by omega, by omega, by omega⟩) | exact Or.inr ((⟨by omega, by omega, by omega, by omega, by omega, by omega, by omega⟩))⟩
    · have _q : True := trivial
      refine jx_if_eq (pc_q := 23) (tg := 27) rfl rfl rfl (by decide) (by decide) (fun h58 => ?_) (fun h58 => ?_)
      · have _q := h58
        refine jx_ar (pc_q := 28) (st_q := [.int (i32 (0)), .ref 66]) rfl rfl rfl rfl ?_
        refine jx_vr (pc_q := 31) (as := [.int (i32 (0))]) (st := []) rfl rfl rfl rfl ⟨rfl, rfl, Nat.le_of_ble_eq_true rfl⟩ rfl rfl (c_need (dd := d) (hd := by omega) (hW := hW) (g := 0) (ln := ln) (e_ln := show G 9 = ln from (e_ln)) (le := le) (e_le := show A 4 (ln).toNat = le from (e_le)) (at0 := at0) (e_at0 := show G 10 = at0 from (e_at0)) (fk := fk) (e_fk := show G 16 = fk from (e_fk)) (tk0 := tk0) (e_tk0 := show G 11 = tk0 from (e_tk0))  (h_g := ⟨(by decide), (by decide)⟩)  (p_0 := by omega)) (fun o V_q hq => ?_)
        obtain ⟨G59, A60, at2_61, tk2_62, fk2_63, rfl, rfl, hW64, hF65, e66, e67, e68, p69, p70, q71⟩ := hq
        have hF72 := Fr_tr hF0 hF65 (Fr_sub (by decide)) (Fr_sub (by decide))
        have bat2_61 : (0 : Int) ≤ at2_61 ∧ at2_61 ≤ 3002 := e66 ▸ hW64.1 10
        have ztk2_62 := tz_b tk2_62
        have btk2_62 : (0 : Int) ≤ tk2_62 ∧ tk2_62 ≤ 5 := e67 ▸ hW64.1 11
        have bfk2_63 : (0 : Int) ≤ fk2_63 ∧ fk2_63 ≤ 6 := e68 ▸ hW64.1 16
        refine .inl ⟨rfl, ?_⟩
        rcases q71 with ⟨a73, a74, a75, a76⟩ | ⟨a77, a78, a79, a80⟩
        · have _q : True := trivial
          refine jx_ld (pc_q := 32) (l_q := L1) (st_q := [.int (i32 (tn))]) rfl (jl_iloadn gL1_3) ?_
          refine jx_rt (v := some (.int (i32 (tn)))) rfl rfl rfl rfl rfl rfl ?_
          have z81 := tz_f (tk2_62)
          exact ⟨_, _, _, at2_61, tk2_62, fk2_63, rfl, rfl, hW64, hF72, by omega, (e66), (e67), (e68), by omega, by omega, by first | exact Or.inl (⟨by omega, by omega, by omega, by omega⟩) | exact Or.inr ((⟨by omega, by omega, by omega, by omega, by omega, by omega, by omega⟩))⟩
        · have _q : True := trivial
          exfalso
          omega
      · have _q := h58
        exact absurd h58 (by omega)
set_option maxRecDepth 20000 in
set_option maxHeartbeats 4000000 in
theorem c_readLink_at_156 {X : jX} {d : Nat} {Vs : Nat → Prop} {sb pb : Int} (hvb : VB Vs sb) {c0 c1 : jC} {G : Nat → Int} {A : Nat → Nat → Int} {T : jH} {ln le at0 fk tk0 sy na li vi lk0 : Int} (hd : 8 ≤ d + 1) (hW : Wk G A) (e_ln : G 9 = ln) (e_le : A 4 (ln).toNat = le) (e_at0 : G 10 = at0) (e_fk : G 16 = fk) (e_tk0 : G 11 = tk0) (e_sy : G 19 = sy) (e_na : G 28 = na) (e_li : G 3 = li) (e_vi : G 29 = vi) (e_lk0 : G 52 = lk0) (i_LT : LT G A) (i_SV : SV Vs sb G A) (i_PQ : PQ Vs sb pb G A) (p_0 : fk = 0) (p_1 : ln < li) (p_2 : at0 ≤ le) (p_3 : sy ≤ na + 2) (p_4 : vi ≤ sy) (p_5 : sb ≤ sy) : ∀ (L : jL) (Gx : Nat → Int) (Ax : Nat → Nat → Int) (s at1 tk1 fk1 sy1 na1 tn1 kp1 fr1 : Int), jGet L 0 = some (.ref 66) → jGet L 1 = some (.int (i32 s)) → Wk Gx Ax → Fr [9, 10, 11, 12, 13, 14, 16, 17, 18, 19, 28, 29, 52] [6, 7, 8, 9, 10, 11, 12, 14, 34, 35] G A Gx Ax → Fx sr (sy) A Ax → Fx [14] (vi) A Ax → Fx [34, 35] (lk0) A Ax → Gx 10 = at1 → Gx 11 = tk1 → Gx 16 = fk1 → Gx 19 = sy1 → Gx 28 = na1 → Gx 13 = tn1 → Ax 7 (sy).toNat = kp1 → Ax 34 (lk0).toNat = fr1 → Gx 9 = ln → Gx 29 = vi → Gx 52 = lk0 → ((-2147483648 : Int) ≤ s ∧ s ≤ 2147483647) → (fk1 = 0) → (at0 ≤ at1) → (at1 ≤ le) → (sy1 = sy + 1) → (sy1 ≤ na1 + 2) → (s = sy) → (lk0 ≤ 11) → (kp1 = 11) → (0 ≤ fr1 ∧ fr1 ≤ 5) → (tk1 ≠ 3 ∨ tn1 ≠ fr1) → wj X d jm310 (156, L, [], rV c0 c1 Gx Ax T) (fun o V_q => ∃ (G_q : Nat → Int) (A_q : Nat → Nat → Int) (ln2 : Int) (at2 : Int) (fk2 : Int) (sy2 : Int) (na2 : Int) (vi2 : Int) (lk2 : Int), V_q = rV c0 c1 G_q A_q T ∧ o = .inl none ∧ Wk G_q A_q ∧ Fr [9, 10, 11, 12, 13, 14, 16, 17, 18, 19, 28, 29, 52] [6, 7, 8, 9, 10, 11, 12, 14, 34, 35] G A G_q A_q ∧ Fx sr (sy) A A_q ∧ Fx [14] (vi) A A_q ∧ Fx [34, 35] (lk0) A A_q ∧ G_q 9 = ln2 ∧ G_q 10 = at2 ∧ G_q 16 = fk2 ∧ G_q 19 = sy2 ∧ G_q 28 = na2 ∧ G_q 29 = vi2 ∧ G_q 52 = lk2 ∧ (at0 ≤ at2) ∧ (at2 ≤ le) ∧ (sy ≤ sy2) ∧ (sy2 ≤ na2 + 2) ∧ (vi2 ≤ sy2) ∧ (ln ≤ ln2) ∧ (ln2 ≤ li) ∧ (((1 ≤ fk2)) ∨ ((fk2 = 0) ∧ (ln2 = ln + 1) ∧ (sy2 = sy + 1) ∧ (vi2 = vi + 1) ∧ (lk2 = lk0 + 1) ∧ (SW (Vu Vs sy) (sy2) (vi2) A_q) ∧ (PQ (Vu Vs sy) (sy2) (pb) (fun _ => 0) A_q) ∧ (LK A_q (sy) (lk0))))) := by
  have hF0 : Fr [9, 10, 11, 12, 13, 14, 16, 17, 18, 19, 28, 29, 52] [6, 7, 8, 9, 10, 11, 12, 14, 34, 35] G A G A := Fr_rf
  have hS0 : Fx sr (sy) A A := Fx_rf
  have hV0 : Fx [14] (vi) A A := Fx_rf
  have hL0 : Fx [34, 35] (lk0) A A := Fx_rf
  have b_ln : (0 : Int) ≤ ln ∧ ln ≤ 3000 := e_ln ▸ hW.1 9
  have b_le : (0 : Int) ≤ le ∧ le ≤ 3000 := e_le ▸ hW.2 4 _
  have b_at0 : (0 : Int) ≤ at0 ∧ at0 ≤ 3002 := e_at0 ▸ hW.1 10
  have b_fk : (0 : Int) ≤ fk ∧ fk ≤ 6 := e_fk ▸ hW.1 16
  have b_tk0 : (0 : Int) ≤ tk0 ∧ tk0 ≤ 5 := e_tk0 ▸ hW.1 11
  have b_sy : (0 : Int) ≤ sy ∧ sy ≤ 202 := e_sy ▸ hW.1 19
  have b_na : (0 : Int) ≤ na ∧ na ≤ 200 := e_na ▸ hW.1 28
  have b_li : (0 : Int) ≤ li ∧ li ≤ 3000 := e_li ▸ hW.1 3
  have b_vi : (0 : Int) ≤ vi ∧ vi ≤ 202 := e_vi ▸ hW.1 29
  have b_lk0 : (0 : Int) ≤ lk0 ∧ lk0 ≤ 12 := e_lk0 ▸ hW.1 52
  intro L Gx Ax s at1 tk1 fk1 sy1 na1 tn1 kp1 fr1 gL_0 gL_1 hWx hFx hSx hVx hLx ex_at1 ex_tk1 ex_fk1 ex_sy1 ex_na1 ex_tn1 ex_kp1 ex_fr1 fx_9 fx_29 fx_52 rx_s iv_0 iv_1 iv_2 iv_3 iv_4 iv_5 iv_6 iv_7 iv_8 iv_9
  have b_at1 : (0 : Int) ≤ at1 ∧ at1 ≤ 3002 := ex_at1 ▸ hWx.1 10
  have b_tk1 : (0 : Int) ≤ tk1 ∧ tk1 ≤ 5 := ex_tk1 ▸ hWx.1 11
  have b_fk1 : (0 : Int) ≤ fk1 ∧ fk1 ≤ 6 := ex_fk1 ▸ hWx.1 16
  have b_sy1 : (0 : Int) ≤ sy1 ∧ sy1 ≤ 202 := ex_sy1 ▸ hWx.1 19
  have b_na1 : (0 : Int) ≤ na1 ∧ na1 ≤ 200 := ex_na1 ▸ hWx.1 28
  have b_tn1 : (-2147483648 : Int) ≤ tn1 ∧ tn1 ≤ 2147483647 := ex_tn1 ▸ hWx.1 13
  refine jx_ld (pc_q := 157) (l_q := L) (st_q := [.ref 66]) rfl (jl_aloadn gL_0) ?_
  refine jr_get (pc_q := 160) (i := 54) (v := .ref 102) rfl rfl (by decide) rfl rfl ?_
  refine jx_ld (pc_q := 161) (l_q := L) (st_q := [.ref 66, .ref 102]) rfl (jl_aloadn gL_0) ?_
  refine jr_get (pc_q := 164) (i := 52) (v := .int (i32 (lk0))) rfl rfl (by decide) (rFv_eq (by decide) (show Gx 52 = lk0 from (fx_52))) rfl ?_
  refine jx_ld (pc_q := 165) (l_q := L) (st_q := [.ref 66, .int (i32 (lk0)), .ref 102]) rfl (jl_aloadn gL_0) ?_
  refine jx_ar (pc_q := 166) (st_q := [.int (i32 (0)), .ref 66, .int (i32 (lk0)), .ref 102]) rfl rfl rfl rfl ?_
  refine jx_ar (pc_q := 167) (st_q := [.int (i32 (5)), .int (i32 (0)), .ref 66, .int (i32 (lk0)), .ref 102]) rfl rfl rfl rfl ?_
  refine jx_vr (pc_q := 170) (as := [.int (i32 (0)), .int (i32 (5))]) (st := [.int (i32 (lk0)), .ref 102]) rfl rfl rfl rfl ⟨rfl, rfl, Nat.le_of_ble_eq_true rfl⟩ rfl rfl (c_needNumber2 (dd := d) (hd := by omega) (hW := hWx) (lo := 0) (hi := 5) (ln := ln) (e_ln := show Gx 9 = ln from (fx_9)) (le := le) (e_le := show Ax 4 (ln).toNat = le from (congrFun (hFx.2 4 rfl) _).trans (e_le)) (at0 := at1) (e_at0 := show Gx 10 = at1 from (ex_at1)) (fk := fk1) (e_fk := show Gx 16 = fk1 from (ex_fk1)) (tk0 := tk1) (e_tk0 := show Gx 11 = tk1 from (ex_tk1)) (tn := tn1) (e_tn := show Gx 13 = tn1 from (ex_tn1))  (h_lo := ⟨(by decide), (by decide)⟩) (h_hi := ⟨(by decide), (by decide)⟩)  (p_0 := by omega)) (fun o V_q hq => ?_)
  obtain ⟨G1, A2, r3, at2_4, tk2_5, fk2_6, rfl, rfl, hW7, hF8, b9, e10, e11, e12, p13, p14, q15⟩ := hq
  have hF16 := Fr_tr hFx hF8 (Fr_sub (by decide)) (Fr_sub (by decide))
  have hS17 := Fx_f hSx hF8 (by decide)
  have hV18 := Fx_f hVx hF8 (by decide)
  have hL19 := Fx_f hLx hF8 (by decide)
  have bat2_4 : (0 : Int) ≤ at2_4 ∧ at2_4 ≤ 3002 := e10 ▸ hW7.1 10
  have ztk2_5 := tz_b tk2_5
  have btk2_5 : (0 : Int) ≤ tk2_5 ∧ tk2_5 ≤ 5 := e11 ▸ hW7.1 11
  have bfk2_6 : (0 : Int) ≤ fk2_6 ∧ fk2_6 ≤ 6 := e12 ▸ hW7.1 16
  refine .inr ⟨_, rfl, ?_⟩
  rcases q15 with ⟨a20, a21, a22, a23⟩ | ⟨a24, a25, a26, a27, a28, a29, a30⟩
  · have _q : True := trivial
    refine jr_st (pc_q := 171) (i := 35) (m := 13) (z := lk0) (y := r3) rfl (by decide) rfl (by decide) (by omega) (by omega) rfl ?_
    have hW32 : Wk G1 (uA A2 35 (lk0).toNat (r3)) := Wk_a hW7 (show (-2147483648 : Int) ≤ r3 by omega) (show r3 ≤ (2147483647 : Int) by omega)
    have hF33 := Fr_a (z := r3) (k := 35) (n := (lk0).toNat) hF16 (by decide)
    obtain ⟨A31, eA31⟩ : ∃ q, q = uA A2 35 (lk0).toNat (r3) := ⟨_, rfl⟩
    rw [← eA31]
    rw [← eA31] at hW32 hF33
    have q34 : A31 35 (lk0).toNat = r3 := by rw [eA31]; exact uA_eq
    have hS35 : Fx sr (sy) A A31 := eA31 ▸ Fx_n hS17 rfl
    have hV36 : Fx [14] (vi) A A31 := eA31 ▸ Fx_n hV18 rfl
    have hL37 : Fx [34, 35] (lk0) A A31 := eA31 ▸ Fx_a hL19 (z := lk0) (by omega) (by omega)
    refine jx_ld (pc_q := 172) (l_q := L) (st_q := [.ref 66]) rfl (jl_aloadn gL_0) ?_
    refine jx_ld (pc_q := 173) (l_q := L) (st_q := [.ref 66, .ref 66]) rfl (jl_aloadn gL_0) ?_
    refine jx_ar (pc_q := 175) (st_q := [.int (i32 (58)), .ref 66, .ref 66]) rfl rfl rfl rfl ?_
    have b38 : (-2147483648 : Int) ≤ G1 13 ∧ G1 13 ≤ 2147483647 := hW7.1 13
    refine jx_vr (pc_q := 178) (as := [.int (i32 (58))]) (st := [.ref 66]) rfl rfl rfl rfl ⟨rfl, rfl, Nat.le_of_ble_eq_true rfl⟩ rfl rfl (c_is (dd := d) (hd := by omega) (hW := hW32) (k := 58) (tk := tk2_5) (e_tk := show G1 11 = tk2_5 from (e11)) (tn := G1 13) (e_tn := show G1 13 = G1 13 from rfl)  (h_k := ⟨(by decide), (by decide)⟩)  ) (fun o V_q hq => ?_)
    obtain ⟨r39, rfl, rfl, b40, q41⟩ := hq
    refine .inr ⟨_, rfl, ?_⟩
    rcases q41 with ⟨rfl, a42, a43, a44⟩ | rfl
    · have _q : True := trivial
      refine jx_vr (pc_q := 181) (as := [.int (i32 (1))]) (st := []) rfl rfl rfl rfl ⟨rfl, rfl, Nat.le_of_ble_eq_true rfl⟩ rfl rfl (c_need (dd := d) (hd := by omega) (hW := hW32) (g := 1) (ln := ln) (e_ln := show G1 9 = ln from ((hF8.1 9 rfl).trans (fx_9))) (le := le) (e_le := show A31 4 (ln).toNat = le from (congrFun (((congrFun eA31 4).trans (uA_ne (by decide))).trans ((hF8.2 4 rfl).trans (hFx.2 4 rfl))) _).trans (e_le)) (at0 := at2_4) (e_at0 := show G1 10 = at2_4 from (e10)) (fk := fk2_6) (e_fk := show G1 16 = fk2_6 from (e12)) (tk0 := tk2_5) (e_tk0 := show G1 11 = tk2_5 from (e11))  (h_g := ⟨(by decide), (by decide)⟩)  (p_0 := by omega)) (fun o V_q hq => ?_)
      obtain ⟨G45, A46, at2_47, tk2_48, fk2_49, rfl, rfl, hW50, hF51, e52, e53, e54, p55, p56, q57⟩ := hq
      have hF58 := Fr_tr hF33 hF51 (Fr_sub (by decide)) (Fr_sub (by decide))
      have hS59 := Fx_f hS35 hF51 (by decide)
      have hV60 := Fx_f hV36 hF51 (by decide)
      have hL61 := Fx_f hL37 hF51 (by decide)
      have bat2_47 : (0 : Int) ≤ at2_47 ∧ at2_47 ≤ 3002 := e52 ▸ hW50.1 10
      have ztk2_48 := tz_b tk2_48
      have btk2_48 : (0 : Int) ≤ tk2_48 ∧ tk2_48 ≤ 5 := e53 ▸ hW50.1 11
      have bfk2_49 : (0 : Int) ≤ fk2_49 ∧ fk2_49 ≤ 6 := e54 ▸ hW50.1 16
      refine .inl ⟨rfl, ?_⟩
      rcases q57 with ⟨a62, a63, a64, a65⟩ | ⟨a66, a67, a68, a69⟩
      · have _q : True := trivial
        refine jx_ld (pc_q := 182) (l_q := L) (st_q := [.ref 66]) rfl (jl_aloadn gL_0) ?_
        refine jx_vr (pc_q := 185) (as := []) (st := []) rfl rfl rfl rfl ⟨rfl, rfl, Nat.le_of_ble_eq_true rfl⟩ rfl rfl (c_endLine (dd := d) (hd := by omega) (hW := hW50)  (ln := ln) (e_ln := show G45 9 = ln from ((hF51.1 9 rfl).trans ((hF8.1 9 rfl).trans (fx_9)))) (li := li) (e_li := show G45 3 = li from ((hF51.1 3 rfl).trans ((hF8.1 3 rfl).trans ((hFx.1 3 rfl).trans (e_li))))) (fk := fk2_49) (e_fk := show G45 16 = fk2_49 from (e54)) (tk0 := tk2_48) (e_tk0 := show G45 11 = tk2_48 from (e53))    (p_0 := by omega)) (fun o V_q hq => ?_)
        obtain ⟨G70, A71, ln2_72, fk2_73, rfl, rfl, hW74, hF75, e76, e77, q78⟩ := hq
        have hF79 := Fr_tr hF58 hF75 (Fr_sub (by decide)) (Fr_sub (by decide))
        have hS80 := Fx_f hS59 hF75 (by decide)
        have hV81 := Fx_f hV60 hF75 (by decide)
        have hL82 := Fx_f hL61 hF75 (by decide)
        have bln2_72 : (0 : Int) ≤ ln2_72 ∧ ln2_72 ≤ 3000 := e76 ▸ hW74.1 9
        have bfk2_73 : (0 : Int) ≤ fk2_73 ∧ fk2_73 ≤ 6 := e77 ▸ hW74.1 16
        refine .inl ⟨rfl, ?_⟩
        rcases q78 with ⟨a83, a84, a85, a86, a87⟩ | ⟨a88, a89⟩
        · have _q : True := trivial
          exfalso
          omega
        · have _q : True := trivial
          refine jx_ld (pc_q := 186) (l_q := L) (st_q := [.ref 66]) rfl (jl_aloadn gL_0) ?_
          refine jx_vr (pc_q := 189) (as := []) (st := []) rfl rfl rfl rfl ⟨rfl, rfl, Nat.le_of_ble_eq_true rfl⟩ rfl rfl (c_bad (dd := d) (hd := by omega) (hW := hW74)  (fk := fk2_73) (e_fk := show G70 16 = fk2_73 from (e77))    ) (fun o V_q hq => ?_)
          obtain ⟨r90, rfl, rfl, b91, q92⟩ := hq
          refine .inr ⟨_, rfl, ?_⟩
          rcases q92 with ⟨rfl, a93⟩ | ⟨rfl, a94⟩
          · have _q : True := trivial
            refine jx_if_ne (pc_q := 192) (tg := 217) rfl rfl rfl (by decide) (by decide) (fun h95 => ?_) (fun h95 => ?_)
            · have _q := h95
              refine jx_rt (v := none) rfl rfl rfl rfl rfl rfl ?_
              exact ⟨_, _, ln2_72, at2_47, fk2_73, sy1, na1, vi, lk0, rfl, rfl, hW74, hF79, hS80, hV81, hL82, (e76), ((hF75.1 10 rfl).trans (e52)), (e77), ((hF75.1 19 rfl).trans ((hF51.1 19 rfl).trans ((hF8.1 19 rfl).trans (ex_sy1)))), ((hF75.1 28 rfl).trans ((hF51.1 28 rfl).trans ((hF8.1 28 rfl).trans (ex_na1)))), ((hF75.1 29 rfl).trans ((hF51.1 29 rfl).trans ((hF8.1 29 rfl).trans (fx_29)))), ((hF75.1 52 rfl).trans ((hF51.1 52 rfl).trans ((hF8.1 52 rfl).trans (fx_52)))), by omega, by omega, by omega, by omega, by omega, by omega, by omega, by first | exact Or.inl (by omega)⟩
            · have _q := h95
              exact absurd h95 (by omega)
          · have _q : True := trivial
            exfalso
            omega
      · have _q : True := trivial
        exfalso
        omega
    · have _q : True := trivial
      refine jx_vr (pc_q := 181) (as := [.int (i32 (0))]) (st := []) rfl rfl rfl rfl ⟨rfl, rfl, Nat.le_of_ble_eq_true rfl⟩ rfl rfl (c_need (dd := d) (hd := by omega) (hW := hW32) (g := 0) (ln := ln) (e_ln := show G1 9 = ln from ((hF8.1 9 rfl).trans (fx_9))) (le := le) (e_le := show A31 4 (ln).toNat = le from (congrFun (((congrFun eA31 4).trans (uA_ne (by decide))).trans ((hF8.2 4 rfl).trans (hFx.2 4 rfl))) _).trans (e_le)) (at0 := at2_4) (e_at0 := show G1 10 = at2_4 from (e10)) (fk := fk2_6) (e_fk := show G1 16 = fk2_6 from (e12)) (tk0 := tk2_5) (e_tk0 := show G1 11 = tk2_5 from (e11))  (h_g := ⟨(by decide), (by decide)⟩)  (p_0 := by omega)) (fun o V_q hq => ?_)
      obtain ⟨G96, A97, at2_98, tk2_99, fk2_100, rfl, rfl, hW101, hF102, e103, e104, e105, p106, p107, q108⟩ := hq
      have hF109 := Fr_tr hF33 hF102 (Fr_sub (by decide)) (Fr_sub (by decide))
      have hS110 := Fx_f hS35 hF102 (by decide)
      have hV111 := Fx_f hV36 hF102 (by decide)
      have hL112 := Fx_f hL37 hF102 (by decide)
      have bat2_98 : (0 : Int) ≤ at2_98 ∧ at2_98 ≤ 3002 := e103 ▸ hW101.1 10
      have ztk2_99 := tz_b tk2_99
      have btk2_99 : (0 : Int) ≤ tk2_99 ∧ tk2_99 ≤ 5 := e104 ▸ hW101.1 11
      have bfk2_100 : (0 : Int) ≤ fk2_100 ∧ fk2_100 ≤ 6 := e105 ▸ hW101.1 16
      refine .inl ⟨rfl, ?_⟩
      rcases q108 with ⟨a113, a114, a115, a116⟩ | ⟨a117, a118, a119, a120⟩
      · have _q : True := trivial
        refine jx_ld (pc_q := 182) (l_q := L) (st_q := [.ref 66]) rfl (jl_aloadn gL_0) ?_
        refine jx_vr (pc_q := 185) (as := []) (st := []) rfl rfl rfl rfl ⟨rfl, rfl, Nat.le_of_ble_eq_true rfl⟩ rfl rfl (c_endLine (dd := d) (hd := by omega) (hW := hW101)  (ln := ln) (e_ln := show G96 9 = ln from ((hF102.1 9 rfl).trans ((hF8.1 9 rfl).trans (fx_9)))) (li := li) (e_li := show G96 3 = li from ((hF102.1 3 rfl).trans ((hF8.1 3 rfl).trans ((hFx.1 3 rfl).trans (e_li))))) (fk := fk2_100) (e_fk := show G96 16 = fk2_100 from (e105)) (tk0 := tk2_99) (e_tk0 := show G96 11 = tk2_99 from (e104))    (p_0 := by omega)) (fun o V_q hq => ?_)
        obtain ⟨G121, A122, ln2_123, fk2_124, rfl, rfl, hW125, hF126, e127, e128, q129⟩ := hq
        have hF130 := Fr_tr hF109 hF126 (Fr_sub (by decide)) (Fr_sub (by decide))
        have hS131 := Fx_f hS110 hF126 (by decide)
        have hV132 := Fx_f hV111 hF126 (by decide)
        have hL133 := Fx_f hL112 hF126 (by decide)
        have bln2_123 : (0 : Int) ≤ ln2_123 ∧ ln2_123 ≤ 3000 := e127 ▸ hW125.1 9
        have bfk2_124 : (0 : Int) ≤ fk2_124 ∧ fk2_124 ≤ 6 := e128 ▸ hW125.1 16
        refine .inl ⟨rfl, ?_⟩
        rcases q129 with ⟨a134, a135, a136, a137, a138⟩ | ⟨a139, a140⟩
        · have _q : True := trivial
          exfalso
          omega
        · have _q : True := trivial
          refine jx_ld (pc_q := 186) (l_q := L) (st_q := [.ref 66]) rfl (jl_aloadn gL_0) ?_
          refine jx_vr (pc_q := 189) (as := []) (st := []) rfl rfl rfl rfl ⟨rfl, rfl, Nat.le_of_ble_eq_true rfl⟩ rfl rfl (c_bad (dd := d) (hd := by omega) (hW := hW125)  (fk := fk2_124) (e_fk := show G121 16 = fk2_124 from (e128))    ) (fun o V_q hq => ?_)
          obtain ⟨r141, rfl, rfl, b142, q143⟩ := hq
          refine .inr ⟨_, rfl, ?_⟩
          rcases q143 with ⟨rfl, a144⟩ | ⟨rfl, a145⟩
          · have _q : True := trivial
            refine jx_if_ne (pc_q := 192) (tg := 217) rfl rfl rfl (by decide) (by decide) (fun h146 => ?_) (fun h146 => ?_)
            · have _q := h146
              refine jx_rt (v := none) rfl rfl rfl rfl rfl rfl ?_
              exact ⟨_, _, ln2_123, at2_98, fk2_124, sy1, na1, vi, lk0, rfl, rfl, hW125, hF130, hS131, hV132, hL133, (e127), ((hF126.1 10 rfl).trans (e103)), (e128), ((hF126.1 19 rfl).trans ((hF102.1 19 rfl).trans ((hF8.1 19 rfl).trans (ex_sy1)))), ((hF126.1 28 rfl).trans ((hF102.1 28 rfl).trans ((hF8.1 28 rfl).trans (ex_na1)))), ((hF126.1 29 rfl).trans ((hF102.1 29 rfl).trans ((hF8.1 29 rfl).trans (fx_29)))), ((hF126.1 52 rfl).trans ((hF102.1 52 rfl).trans ((hF8.1 52 rfl).trans (fx_52)))), by omega, by omega, by omega, by omega, by omega, by omega, by omega, by first | exact Or.inl (by omega)⟩
            · have _q := h146
              exact absurd h146 (by omega)
          · have _q : True := trivial
            exfalso
            omega
      · have _q : True := trivial
        exfalso
        omega
  · have _q : True := trivial
    refine jr_st (pc_q := 171) (i := 35) (m := 13) (z := lk0) (y := r3) rfl (by decide) rfl (by decide) (by omega) (by omega) rfl ?_
    have hW148 : Wk G1 (uA A2 35 (lk0).toNat (r3)) := Wk_a hW7 (show (-2147483648 : Int) ≤ r3 by omega) (show r3 ≤ (2147483647 : Int) by omega)
    have hF149 := Fr_a (z := r3) (k := 35) (n := (lk0).toNat) hF16 (by decide)
    obtain ⟨A147, eA147⟩ : ∃ q, q = uA A2 35 (lk0).toNat (r3) := ⟨_, rfl⟩
    rw [← eA147]
    rw [← eA147] at hW148 hF149
    have q150 : A147 35 (lk0).toNat = r3 := by rw [eA147]; exact uA_eq
    have hS151 : Fx sr (sy) A A147 := eA147 ▸ Fx_n hS17 rfl
    have hV152 : Fx [14] (vi) A A147 := eA147 ▸ Fx_n hV18 rfl
    have hL153 : Fx [34, 35] (lk0) A A147 := eA147 ▸ Fx_a hL19 (z := lk0) (by omega) (by omega)
    refine jx_ld (pc_q := 172) (l_q := L) (st_q := [.ref 66]) rfl (jl_aloadn gL_0) ?_
    refine jx_ld (pc_q := 173) (l_q := L) (st_q := [.ref 66, .ref 66]) rfl (jl_aloadn gL_0) ?_
    refine jx_ar (pc_q := 175) (st_q := [.int (i32 (58)), .ref 66, .ref 66]) rfl rfl rfl rfl ?_
    have b154 : (-2147483648 : Int) ≤ G1 13 ∧ G1 13 ≤ 2147483647 := hW7.1 13
    refine jx_vr (pc_q := 178) (as := [.int (i32 (58))]) (st := [.ref 66]) rfl rfl rfl rfl ⟨rfl, rfl, Nat.le_of_ble_eq_true rfl⟩ rfl rfl (c_is (dd := d) (hd := by omega) (hW := hW148) (k := 58) (tk := tk2_5) (e_tk := show G1 11 = tk2_5 from (e11)) (tn := G1 13) (e_tn := show G1 13 = G1 13 from rfl)  (h_k := ⟨(by decide), (by decide)⟩)  ) (fun o V_q hq => ?_)
    obtain ⟨r155, rfl, rfl, b156, q157⟩ := hq
    refine .inr ⟨_, rfl, ?_⟩
    rcases q157 with ⟨rfl, a158, a159, a160⟩ | rfl
    · have _q : True := trivial
      refine jx_vr (pc_q := 181) (as := [.int (i32 (1))]) (st := []) rfl rfl rfl rfl ⟨rfl, rfl, Nat.le_of_ble_eq_true rfl⟩ rfl rfl (c_need (dd := d) (hd := by omega) (hW := hW148) (g := 1) (ln := ln) (e_ln := show G1 9 = ln from ((hF8.1 9 rfl).trans (fx_9))) (le := le) (e_le := show A147 4 (ln).toNat = le from (congrFun (((congrFun eA147 4).trans (uA_ne (by decide))).trans ((hF8.2 4 rfl).trans (hFx.2 4 rfl))) _).trans (e_le)) (at0 := at2_4) (e_at0 := show G1 10 = at2_4 from (e10)) (fk := fk2_6) (e_fk := show G1 16 = fk2_6 from (e12)) (tk0 := tk2_5) (e_tk0 := show G1 11 = tk2_5 from (e11))  (h_g := ⟨(by decide), (by decide)⟩)  (p_0 := by omega)) (fun o V_q hq => ?_)
      obtain ⟨G161, A162, at2_163, tk2_164, fk2_165, rfl, rfl, hW166, hF167, e168, e169, e170, p171, p172, q173⟩ := hq
      have hF174 := Fr_tr hF149 hF167 (Fr_sub (by decide)) (Fr_sub (by decide))
      have hS175 := Fx_f hS151 hF167 (by decide)
      have hV176 := Fx_f hV152 hF167 (by decide)
      have hL177 := Fx_f hL153 hF167 (by decide)
      have bat2_163 : (0 : Int) ≤ at2_163 ∧ at2_163 ≤ 3002 := e168 ▸ hW166.1 10
      have ztk2_164 := tz_b tk2_164
      have btk2_164 : (0 : Int) ≤ tk2_164 ∧ tk2_164 ≤ 5 := e169 ▸ hW166.1 11
      have bfk2_165 : (0 : Int) ≤ fk2_165 ∧ fk2_165 ≤ 6 := e170 ▸ hW166.1 16
      refine .inl ⟨rfl, ?_⟩
      rcases q173 with ⟨a178, a179, a180, a181⟩ | ⟨a182, a183, a184, a185⟩
      · have _q : True := trivial
        refine jx_ld (pc_q := 182) (l_q := L) (st_q := [.ref 66]) rfl (jl_aloadn gL_0) ?_
        refine jx_vr (pc_q := 185) (as := []) (st := []) rfl rfl rfl rfl ⟨rfl, rfl, Nat.le_of_ble_eq_true rfl⟩ rfl rfl (c_endLine (dd := d) (hd := by omega) (hW := hW166)  (ln := ln) (e_ln := show G161 9 = ln from ((hF167.1 9 rfl).trans ((hF8.1 9 rfl).trans (fx_9)))) (li := li) (e_li := show G161 3 = li from ((hF167.1 3 rfl).trans ((hF8.1 3 rfl).trans ((hFx.1 3 rfl).trans (e_li))))) (fk := fk2_165) (e_fk := show G161 16 = fk2_165 from (e170)) (tk0 := tk2_164) (e_tk0 := show G161 11 = tk2_164 from (e169))    (p_0 := by omega)) (fun o V_q hq => ?_)
        obtain ⟨G186, A187, ln2_188, fk2_189, rfl, rfl, hW190, hF191, e192, e193, q194⟩ := hq
        have hF195 := Fr_tr hF174 hF191 (Fr_sub (by decide)) (Fr_sub (by decide))
        have hS196 := Fx_f hS175 hF191 (by decide)
        have hV197 := Fx_f hV176 hF191 (by decide)
        have hL198 := Fx_f hL177 hF191 (by decide)
        have bln2_188 : (0 : Int) ≤ ln2_188 ∧ ln2_188 ≤ 3000 := e192 ▸ hW190.1 9
        have bfk2_189 : (0 : Int) ≤ fk2_189 ∧ fk2_189 ≤ 6 := e193 ▸ hW190.1 16
        refine .inl ⟨rfl, ?_⟩
        rcases q194 with ⟨a199, a200, a201, a202, a203⟩ | ⟨a204, a205⟩
        · have _q : True := trivial
          exfalso
          omega
        · have _q : True := trivial
          refine jx_ld (pc_q := 186) (l_q := L) (st_q := [.ref 66]) rfl (jl_aloadn gL_0) ?_
          refine jx_vr (pc_q := 189) (as := []) (st := []) rfl rfl rfl rfl ⟨rfl, rfl, Nat.le_of_ble_eq_true rfl⟩ rfl rfl (c_bad (dd := d) (hd := by omega) (hW := hW190)  (fk := fk2_189) (e_fk := show G186 16 = fk2_189 from (e193))    ) (fun o V_q hq => ?_)
          obtain ⟨r206, rfl, rfl, b207, q208⟩ := hq
          refine .inr ⟨_, rfl, ?_⟩
          rcases q208 with ⟨rfl, a209⟩ | ⟨rfl, a210⟩
          · have _q : True := trivial
            refine jx_if_ne (pc_q := 192) (tg := 217) rfl rfl rfl (by decide) (by decide) (fun h211 => ?_) (fun h211 => ?_)
            · have _q := h211
              refine jx_rt (v := none) rfl rfl rfl rfl rfl rfl ?_
              exact ⟨_, _, ln2_188, at2_163, fk2_189, sy1, na1, vi, lk0, rfl, rfl, hW190, hF195, hS196, hV197, hL198, (e192), ((hF191.1 10 rfl).trans (e168)), (e193), ((hF191.1 19 rfl).trans ((hF167.1 19 rfl).trans ((hF8.1 19 rfl).trans (ex_sy1)))), ((hF191.1 28 rfl).trans ((hF167.1 28 rfl).trans ((hF8.1 28 rfl).trans (ex_na1)))), ((hF191.1 29 rfl).trans ((hF167.1 29 rfl).trans ((hF8.1 29 rfl).trans (fx_29)))), ((hF191.1 52 rfl).trans ((hF167.1 52 rfl).trans ((hF8.1 52 rfl).trans (fx_52)))), by omega, by omega, by omega, by omega, by omega, by omega, by omega, by first | exact Or.inl (by omega)⟩
            · have _q := h211
              exact absurd h211 (by omega)
          · have _q : True := trivial
            exfalso
            omega
      · have _q : True := trivial
        refine jx_ld (pc_q := 182) (l_q := L) (st_q := [.ref 66]) rfl (jl_aloadn gL_0) ?_
        refine jx_vr (pc_q := 185) (as := []) (st := []) rfl rfl rfl rfl ⟨rfl, rfl, Nat.le_of_ble_eq_true rfl⟩ rfl rfl (c_endLine (dd := d) (hd := by omega) (hW := hW166)  (ln := ln) (e_ln := show G161 9 = ln from ((hF167.1 9 rfl).trans ((hF8.1 9 rfl).trans (fx_9)))) (li := li) (e_li := show G161 3 = li from ((hF167.1 3 rfl).trans ((hF8.1 3 rfl).trans ((hFx.1 3 rfl).trans (e_li))))) (fk := fk2_165) (e_fk := show G161 16 = fk2_165 from (e170)) (tk0 := tk2_164) (e_tk0 := show G161 11 = tk2_164 from (e169))    (p_0 := by omega)) (fun o V_q hq => ?_)
        obtain ⟨G212, A213, ln2_214, fk2_215, rfl, rfl, hW216, hF217, e218, e219, q220⟩ := hq
        have hF221 := Fr_tr hF174 hF217 (Fr_sub (by decide)) (Fr_sub (by decide))
        have hS222 := Fx_f hS175 hF217 (by decide)
        have hV223 := Fx_f hV176 hF217 (by decide)
        have hL224 := Fx_f hL177 hF217 (by decide)
        have bln2_214 : (0 : Int) ≤ ln2_214 ∧ ln2_214 ≤ 3000 := e218 ▸ hW216.1 9
        have bfk2_215 : (0 : Int) ≤ fk2_215 ∧ fk2_215 ≤ 6 := e219 ▸ hW216.1 16
        refine .inl ⟨rfl, ?_⟩
        rcases q220 with ⟨a225, a226, a227, a228, a229⟩ | ⟨a230, a231⟩
        · have _q : True := trivial
          have b232 : (0 : Int) ≤ A 3 (ln2_214).toNat ∧ A 3 (ln2_214).toNat ≤ 3000 := hW.2 3 _
          have lt233 : ln2_214 < li → le < A 3 (ln2_214).toNat := fun hh => LT_nx (LT_ext (((hF217.1 3 rfl).trans ((hF167.1 3 rfl).trans ((hF8.1 3 rfl).trans (hFx.1 3 rfl))))) (((hF217.2 3 rfl).trans ((hF167.2 3 rfl).trans (((congrFun eA147 3).trans (uA_ne (by decide))).trans ((hF8.2 3 rfl).trans (hFx.2 3 rfl)))))) (((hF217.2 4 rfl).trans ((hF167.2 4 rfl).trans (((congrFun eA147 4).trans (uA_ne (by decide))).trans ((hF8.2 4 rfl).trans (hFx.2 4 rfl)))))) i_LT) (show G212 3 = li from ((hF217.1 3 rfl).trans ((hF167.1 3 rfl).trans ((hF8.1 3 rfl).trans ((hFx.1 3 rfl).trans (e_li)))))) (show A213 4 (ln).toNat = le from (congrFun ((hF217.2 4 rfl).trans ((hF167.2 4 rfl).trans (((congrFun eA147 4).trans (uA_ne (by decide))).trans ((hF8.2 4 rfl).trans (hFx.2 4 rfl))))) _).trans (e_le)) (show A213 3 (ln2_214).toNat = A 3 (ln2_214).toNat from (congrFun ((hF217.2 3 rfl).trans ((hF167.2 3 rfl).trans (((congrFun eA147 3).trans (uA_ne (by decide))).trans ((hF8.2 3 rfl).trans (hFx.2 3 rfl))))) _)) (show ln2_214 = ln + 1 by omega) (by omega) hh
          refine jx_ld (pc_q := 186) (l_q := L) (st_q := [.ref 66]) rfl (jl_aloadn gL_0) ?_
          refine jx_vr (pc_q := 189) (as := []) (st := []) rfl rfl rfl rfl ⟨rfl, rfl, Nat.le_of_ble_eq_true rfl⟩ rfl rfl (c_bad (dd := d) (hd := by omega) (hW := hW216)  (fk := fk2_215) (e_fk := show G212 16 = fk2_215 from (e219))    ) (fun o V_q hq => ?_)
          obtain ⟨r234, rfl, rfl, b235, q236⟩ := hq
          refine .inr ⟨_, rfl, ?_⟩
          rcases q236 with ⟨rfl, a237⟩ | ⟨rfl, a238⟩
          · have _q : True := trivial
            exfalso
            omega
          · have _q : True := trivial
            refine jx_if_ne (pc_q := 192) (tg := 217) rfl rfl rfl (by decide) (by decide) (fun h239 => ?_) (fun h239 => ?_)
            · have _q := h239
              exact absurd h239 (by omega)
            · have _q := h239
              refine jx_ld (pc_q := 193) (l_q := L) (st_q := [.ref 66]) rfl (jl_aloadn gL_0) ?_
              refine jr_get (pc_q := 196) (i := 26) (v := .ref 79) rfl rfl (by decide) rfl rfl ?_
              refine jx_ld (pc_q := 197) (l_q := L) (st_q := [.int (i32 (s)), .ref 79]) rfl (jl_iloadn gL_1) ?_
              refine jx_ld (pc_q := 198) (l_q := L) (st_q := [.ref 66, .int (i32 (s)), .ref 79]) rfl (jl_aloadn gL_0) ?_
              refine jr_get (pc_q := 201) (i := 52) (v := .int (i32 (lk0))) rfl rfl (by decide) (rFv_eq (by decide) (show G212 52 = lk0 from ((hF217.1 52 rfl).trans ((hF167.1 52 rfl).trans ((hF8.1 52 rfl).trans (fx_52)))))) rfl ?_
              refine jr_st (pc_q := 202) (i := 12) (m := 260) (z := s) (y := lk0) rfl (by decide) rfl (by decide) (by omega) (by omega) rfl ?_
              have hW241 : Wk G212 (uA A213 12 (s).toNat (lk0)) := Wk_a hW216 (show (0 : Int) ≤ lk0 by omega) (show lk0 ≤ (24 : Int) by omega)
              have hF242 := Fr_a (z := lk0) (k := 12) (n := (s).toNat) hF221 (by decide)
              obtain ⟨A240, eA240⟩ : ∃ q, q = uA A213 12 (s).toNat (lk0) := ⟨_, rfl⟩
              rw [← eA240]
              rw [← eA240] at hW241 hF242
              have q243 : A240 12 (s).toNat = lk0 := by rw [eA240]; exact uA_eq
              have hS244 : Fx sr (sy) A A240 := eA240 ▸ Fx_a hS222 (z := s) (by omega) (by omega)
              have hV245 : Fx [14] (vi) A A240 := eA240 ▸ Fx_n hV223 rfl
              have hL246 : Fx [34, 35] (lk0) A A240 := eA240 ▸ Fx_n hL224 rfl
              refine jx_ld (pc_q := 203) (l_q := L) (st_q := [.ref 66]) rfl (jl_aloadn gL_0) ?_
              refine jx_ld (pc_q := 204) (l_q := L) (st_q := [.int (i32 (s)), .ref 66]) rfl (jl_iloadn gL_1) ?_
              refine jx_vr (pc_q := 207) (as := [.int (i32 (s))]) (st := []) rfl rfl rfl rfl ⟨rfl, rfl, Nat.le_of_ble_eq_true rfl⟩ rfl rfl (c_show (dd := d) (hd := by omega) (hW := hW241) (s := s) (vi := vi) (e_vi := show G212 29 = vi from ((hF217.1 29 rfl).trans ((hF167.1 29 rfl).trans ((hF8.1 29 rfl).trans (fx_29)))))  (h_s := ⟨(Int.le_trans (by decide : (-2147483648 : Int) ≤ -2147483648) rx_s.1), (Int.le_trans rx_s.2 (by decide : (2147483647 : Int) ≤ 2147483647))⟩)  (p_0 := by omega) (p_1 := by omega)) (fun o V_q hq => ?_)
              obtain ⟨G247, A248, vi2_249, sv2_250, rfl, rfl, hW251, hF252, hQ253, e254, e255, p256, p257, -⟩ := hq
              have hF259 := Fr_tr hF242 hF252 (Fr_sub (by decide)) (Fr_sub (by decide))
              have hS260 := Fx_f hS244 hF252 (by decide)
              have hV261 := Fx_tr hV245 hQ253 (by omega)
              have hL262 := Fx_f hL246 hF252 (by decide)
              have bvi2_249 : (0 : Int) ≤ vi2_249 ∧ vi2_249 ≤ 202 := e254 ▸ hW251.1 29
              have bsv2_250 : (0 : Int) ≤ sv2_250 ∧ sv2_250 ≤ 201 := e255 ▸ hW251.2 14 _
              refine .inl ⟨rfl, ?_⟩
              refine jx_ld (pc_q := 208) (l_q := L) (st_q := [.ref 66]) rfl (jl_aloadn gL_0) ?_
              refine jx_ar (pc_q := 209) (st_q := [.ref 66, .ref 66]) rfl rfl rfl rfl ?_
              refine jr_get (pc_q := 212) (i := 52) (v := .int (i32 (lk0))) rfl rfl (by decide) (rFv_eq (by decide) (show G247 52 = lk0 from ((hF252.1 52 rfl).trans ((hF217.1 52 rfl).trans ((hF167.1 52 rfl).trans ((hF8.1 52 rfl).trans (fx_52))))))) rfl ?_
              refine jx_ar (pc_q := 213) (st_q := [.int (i32 (1)), .int (i32 (lk0)), .ref 66]) rfl rfl rfl rfl ?_
              refine jx_add (pc_q := 214) rfl rfl ?_
              refine jr_put (pc_q := 217) (i := 52) (z := (lk0 + 1)) rfl rfl (by decide) rfl rfl rfl rfl rfl rfl ?_
              have hW263 : Wk (uG G247 52 ((lk0 + 1))) A248 := Wk_g hW251 (show (0 : Int) ≤ (lk0 + 1) by omega) (show (lk0 + 1) ≤ (12 : Int) by omega)
              have hF264 := Fr_g (z := (lk0 + 1)) (i := 52) hF259 (by decide)
              refine jx_rt (v := none) rfl rfl rfl rfl rfl rfl ?_
              exact ⟨_, _, ln2_214, at2_163, fk2_215, sy1, na1, vi2_249, (lk0 + 1), rfl, rfl, hW263, hF264, hS260, hV261, hL262, ((hF252.1 9 rfl).trans (e218)), ((hF252.1 10 rfl).trans ((hF217.1 10 rfl).trans (e168))), ((hF252.1 16 rfl).trans (e219)), ((hF252.1 19 rfl).trans ((hF217.1 19 rfl).trans ((hF167.1 19 rfl).trans ((hF8.1 19 rfl).trans (ex_sy1))))), ((hF252.1 28 rfl).trans ((hF217.1 28 rfl).trans ((hF167.1 28 rfl).trans ((hF8.1 28 rfl).trans (ex_na1))))), (e254), rfl, by omega, by omega, by omega, by omega, by omega, by omega, by omega, by first | exact Or.inr ((⟨by omega, by omega, by omega, by omega, by omega, (SV_sw (SV_show (w := sy1) i_SV e_vi (show (uG G247 52 ((lk0 + 1))) 29 = vi2_249 from (e254)) (by omega) hV261 ((show A248 14 (vi).toNat = sv2_250 from (e255)).trans (by omega : sv2_250 = sy)) (by omega) (by omega) (by omega) (by omega)) (show (uG G247 52 ((lk0 + 1))) 29 = vi2_249 from (e254))), (PQ_show (w := sy1) i_PQ (Fx_su hS260 (by omega)) (by omega) (hF264.2 29 rfl) (hF264.2 30 rfl) (by omega) ((show A248 7 (sy).toNat = kp1 from (congrFun ((hF252.2 7 rfl).trans (((congrFun eA240 7).trans (uA_ne (by decide))).trans ((hF217.2 7 rfl).trans ((hF167.2 7 rfl).trans (((congrFun eA147 7).trans (uA_ne (by decide))).trans (hF8.2 7 rfl)))))) _).trans (ex_kp1)).trans (by omega : kp1 = 11)) (by decide) hvb), (LK_mk (show A248 7 (sy).toNat = kp1 from (congrFun ((hF252.2 7 rfl).trans (((congrFun eA240 7).trans (uA_ne (by decide))).trans ((hF217.2 7 rfl).trans ((hF167.2 7 rfl).trans (((congrFun eA147 7).trans (uA_ne (by decide))).trans (hF8.2 7 rfl)))))) _).trans (ex_kp1)) (show A248 12 (sy).toNat = lk0 from by rw [show sy = s by omega]; exact (show A248 12 (s).toNat = lk0 from (congrFun (hF252.2 12 rfl) _).trans (q243))) (show A248 34 (lk0).toNat = fr1 from (congrFun ((hF252.2 34 rfl).trans (((congrFun eA240 34).trans (uA_ne (by decide))).trans ((hF217.2 34 rfl).trans ((hF167.2 34 rfl).trans (((congrFun eA147 34).trans (uA_ne (by decide))).trans (hF8.2 34 rfl)))))) _).trans (ex_fr1)) (show A248 35 (lk0).toNat = r3 from (congrFun ((hF252.2 35 rfl).trans (((congrFun eA240 35).trans (uA_ne (by decide))).trans ((hF217.2 35 rfl).trans (hF167.2 35 rfl)))) _).trans (q150)) (by omega) (by omega) (by omega) (by omega) (by omega))⟩))⟩
        · have _q : True := trivial
          refine jx_ld (pc_q := 186) (l_q := L) (st_q := [.ref 66]) rfl (jl_aloadn gL_0) ?_
          refine jx_vr (pc_q := 189) (as := []) (st := []) rfl rfl rfl rfl ⟨rfl, rfl, Nat.le_of_ble_eq_true rfl⟩ rfl rfl (c_bad (dd := d) (hd := by omega) (hW := hW216)  (fk := fk2_215) (e_fk := show G212 16 = fk2_215 from (e219))    ) (fun o V_q hq => ?_)
          obtain ⟨r265, rfl, rfl, b266, q267⟩ := hq
          refine .inr ⟨_, rfl, ?_⟩
          rcases q267 with ⟨rfl, a268⟩ | ⟨rfl, a269⟩
          · have _q : True := trivial
            refine jx_if_ne (pc_q := 192) (tg := 217) rfl rfl rfl (by decide) (by decide) (fun h270 => ?_) (fun h270 => ?_)
            · have _q := h270
              refine jx_rt (v := none) rfl rfl rfl rfl rfl rfl ?_
              exact ⟨_, _, ln2_214, at2_163, fk2_215, sy1, na1, vi, lk0, rfl, rfl, hW216, hF221, hS222, hV223, hL224, (e218), ((hF217.1 10 rfl).trans (e168)), (e219), ((hF217.1 19 rfl).trans ((hF167.1 19 rfl).trans ((hF8.1 19 rfl).trans (ex_sy1)))), ((hF217.1 28 rfl).trans ((hF167.1 28 rfl).trans ((hF8.1 28 rfl).trans (ex_na1)))), ((hF217.1 29 rfl).trans ((hF167.1 29 rfl).trans ((hF8.1 29 rfl).trans (fx_29)))), ((hF217.1 52 rfl).trans ((hF167.1 52 rfl).trans ((hF8.1 52 rfl).trans (fx_52)))), by omega, by omega, by omega, by omega, by omega, by omega, by omega, by first | exact Or.inl (by omega)⟩
            · have _q := h270
              exact absurd h270 (by omega)
          · have _q : True := trivial
            exfalso
            omega
    · have _q : True := trivial
      refine jx_vr (pc_q := 181) (as := [.int (i32 (0))]) (st := []) rfl rfl rfl rfl ⟨rfl, rfl, Nat.le_of_ble_eq_true rfl⟩ rfl rfl (c_need (dd := d) (hd := by omega) (hW := hW148) (g := 0) (ln := ln) (e_ln := show G1 9 = ln from ((hF8.1 9 rfl).trans (fx_9))) (le := le) (e_le := show A147 4 (ln).toNat = le from (congrFun (((congrFun eA147 4).trans (uA_ne (by decide))).trans ((hF8.2 4 rfl).trans (hFx.2 4 rfl))) _).trans (e_le)) (at0 := at2_4) (e_at0 := show G1 10 = at2_4 from (e10)) (fk := fk2_6) (e_fk := show G1 16 = fk2_6 from (e12)) (tk0 := tk2_5) (e_tk0 := show G1 11 = tk2_5 from (e11))  (h_g := ⟨(by decide), (by decide)⟩)  (p_0 := by omega)) (fun o V_q hq => ?_)
      obtain ⟨G271, A272, at2_273, tk2_274, fk2_275, rfl, rfl, hW276, hF277, e278, e279, e280, p281, p282, q283⟩ := hq
      have hF284 := Fr_tr hF149 hF277 (Fr_sub (by decide)) (Fr_sub (by decide))
      have hS285 := Fx_f hS151 hF277 (by decide)
      have hV286 := Fx_f hV152 hF277 (by decide)
      have hL287 := Fx_f hL153 hF277 (by decide)
      have bat2_273 : (0 : Int) ≤ at2_273 ∧ at2_273 ≤ 3002 := e278 ▸ hW276.1 10
      have ztk2_274 := tz_b tk2_274
      have btk2_274 : (0 : Int) ≤ tk2_274 ∧ tk2_274 ≤ 5 := e279 ▸ hW276.1 11
      have bfk2_275 : (0 : Int) ≤ fk2_275 ∧ fk2_275 ≤ 6 := e280 ▸ hW276.1 16
      refine .inl ⟨rfl, ?_⟩
      rcases q283 with ⟨a288, a289, a290, a291⟩ | ⟨a292, a293, a294, a295⟩
      · have _q : True := trivial
        refine jx_ld (pc_q := 182) (l_q := L) (st_q := [.ref 66]) rfl (jl_aloadn gL_0) ?_
        refine jx_vr (pc_q := 185) (as := []) (st := []) rfl rfl rfl rfl ⟨rfl, rfl, Nat.le_of_ble_eq_true rfl⟩ rfl rfl (c_endLine (dd := d) (hd := by omega) (hW := hW276)  (ln := ln) (e_ln := show G271 9 = ln from ((hF277.1 9 rfl).trans ((hF8.1 9 rfl).trans (fx_9)))) (li := li) (e_li := show G271 3 = li from ((hF277.1 3 rfl).trans ((hF8.1 3 rfl).trans ((hFx.1 3 rfl).trans (e_li))))) (fk := fk2_275) (e_fk := show G271 16 = fk2_275 from (e280)) (tk0 := tk2_274) (e_tk0 := show G271 11 = tk2_274 from (e279))    (p_0 := by omega)) (fun o V_q hq => ?_)
        obtain ⟨G296, A297, ln2_298, fk2_299, rfl, rfl, hW300, hF301, e302, e303, q304⟩ := hq
        have hF305 := Fr_tr hF284 hF301 (Fr_sub (by decide)) (Fr_sub (by decide))
        have hS306 := Fx_f hS285 hF301 (by decide)
        have hV307 := Fx_f hV286 hF301 (by decide)
        have hL308 := Fx_f hL287 hF301 (by decide)
        have bln2_298 : (0 : Int) ≤ ln2_298 ∧ ln2_298 ≤ 3000 := e302 ▸ hW300.1 9
        have bfk2_299 : (0 : Int) ≤ fk2_299 ∧ fk2_299 ≤ 6 := e303 ▸ hW300.1 16
        refine .inl ⟨rfl, ?_⟩
        rcases q304 with ⟨a309, a310, a311, a312, a313⟩ | ⟨a314, a315⟩
        · have _q : True := trivial
          exfalso
          omega
        · have _q : True := trivial
          refine jx_ld (pc_q := 186) (l_q := L) (st_q := [.ref 66]) rfl (jl_aloadn gL_0) ?_
          refine jx_vr (pc_q := 189) (as := []) (st := []) rfl rfl rfl rfl ⟨rfl, rfl, Nat.le_of_ble_eq_true rfl⟩ rfl rfl (c_bad (dd := d) (hd := by omega) (hW := hW300)  (fk := fk2_299) (e_fk := show G296 16 = fk2_299 from (e303))    ) (fun o V_q hq => ?_)
          obtain ⟨r316, rfl, rfl, b317, q318⟩ := hq
          refine .inr ⟨_, rfl, ?_⟩
          rcases q318 with ⟨rfl, a319⟩ | ⟨rfl, a320⟩
          · have _q : True := trivial
            refine jx_if_ne (pc_q := 192) (tg := 217) rfl rfl rfl (by decide) (by decide) (fun h321 => ?_) (fun h321 => ?_)
            · have _q := h321
              refine jx_rt (v := none) rfl rfl rfl rfl rfl rfl ?_
              exact ⟨_, _, ln2_298, at2_273, fk2_299, sy1, na1, vi, lk0, rfl, rfl, hW300, hF305, hS306, hV307, hL308, (e302), ((hF301.1 10 rfl).trans (e278)), (e303), ((hF301.1 19 rfl).trans ((hF277.1 19 rfl).trans ((hF8.1 19 rfl).trans (ex_sy1)))), ((hF301.1 28 rfl).trans ((hF277.1 28 rfl).trans ((hF8.1 28 rfl).trans (ex_na1)))), ((hF301.1 29 rfl).trans ((hF277.1 29 rfl).trans ((hF8.1 29 rfl).trans (fx_29)))), ((hF301.1 52 rfl).trans ((hF277.1 52 rfl).trans ((hF8.1 52 rfl).trans (fx_52)))), by omega, by omega, by omega, by omega, by omega, by omega, by omega, by first | exact Or.inl (by omega)⟩
            · have _q := h321
              exact absurd h321 (by omega)
          · have _q : True := trivial
            exfalso
            omega
      · have _q : True := trivial
        exfalso
        omega
set_option maxRecDepth 20000 in
set_option maxHeartbeats 4000000 in
theorem c_readLink_at_156p {X : jX} {d : Nat} {Vs : Nat → Prop} {sb pb : Int} (hvb : VB Vs sb) {c0 c1 : jC} {G : Nat → Int} {A : Nat → Nat → Int} {T : jH} {ln le at0 fk tk0 sy na li vi lk0 : Int} (hd : 8 ≤ d + 1) (hW : Wk G A) (e_ln : G 9 = ln) (e_le : A 4 (ln).toNat = le) (e_at0 : G 10 = at0) (e_fk : G 16 = fk) (e_tk0 : G 11 = tk0) (e_sy : G 19 = sy) (e_na : G 28 = na) (e_li : G 3 = li) (e_vi : G 29 = vi) (e_lk0 : G 52 = lk0) (i_LT : LT G A) (i_SV : SV Vs sb G A) (i_PQ : PQ Vs sb pb G A) (p_0 : fk = 0) (p_1 : ln < li) (p_2 : at0 ≤ le) (p_3 : sy ≤ na + 2) (p_4 : vi ≤ sy) (p_5 : sb ≤ sy) : ∀ (L : jL) (Gx : Nat → Int) (Ax : Nat → Nat → Int) (s at1 tk1 fk1 sy1 na1 : Int), jGet L 0 = some (.ref 66) → jGet L 1 = some (.int (i32 s)) → Wk Gx Ax → Fr [9, 10, 11, 12, 13, 14, 16, 17, 18, 19, 28, 29, 52] [6, 7, 8, 9, 10, 11, 12, 14, 34, 35] G A Gx Ax → Fx sr (sy) A Ax → Fx [14] (vi) A Ax → Fx [34, 35] (lk0) A Ax → Gx 10 = at1 → Gx 11 = tk1 → Gx 16 = fk1 → Gx 19 = sy1 → Gx 28 = na1 → Gx 9 = ln → Gx 29 = vi → Gx 52 = lk0 → ((-2147483648 : Int) ≤ s ∧ s ≤ 2147483647) → (1 ≤ fk1) → (at0 ≤ at1) → (at1 ≤ le) → (sy ≤ sy1) → (sy1 ≤ na1 + 2) → wj X d jm310 (156, L, [], rV c0 c1 Gx Ax T) (fun o V_q => ∃ (G_q : Nat → Int) (A_q : Nat → Nat → Int) (ln2 : Int) (at2 : Int) (fk2 : Int) (sy2 : Int) (na2 : Int) (vi2 : Int) (lk2 : Int), V_q = rV c0 c1 G_q A_q T ∧ o = .inl none ∧ Wk G_q A_q ∧ Fr [9, 10, 11, 12, 13, 14, 16, 17, 18, 19, 28, 29, 52] [6, 7, 8, 9, 10, 11, 12, 14, 34, 35] G A G_q A_q ∧ Fx sr (sy) A A_q ∧ Fx [14] (vi) A A_q ∧ Fx [34, 35] (lk0) A A_q ∧ G_q 9 = ln2 ∧ G_q 10 = at2 ∧ G_q 16 = fk2 ∧ G_q 19 = sy2 ∧ G_q 28 = na2 ∧ G_q 29 = vi2 ∧ G_q 52 = lk2 ∧ (at0 ≤ at2) ∧ (at2 ≤ le) ∧ (sy ≤ sy2) ∧ (sy2 ≤ na2 + 2) ∧ (vi2 ≤ sy2) ∧ (ln ≤ ln2) ∧ (ln2 ≤ li) ∧ (((1 ≤ fk2)) ∨ ((fk2 = 0) ∧ (ln2 = ln + 1) ∧ (sy2 = sy + 1) ∧ (vi2 = vi + 1) ∧ (lk2 = lk0 + 1) ∧ (SW (Vu Vs sy) (sy2) (vi2) A_q) ∧ (PQ (Vu Vs sy) (sy2) (pb) (fun _ => 0) A_q) ∧ (LK A_q (sy) (lk0))))) := by
  have hF0 : Fr [9, 10, 11, 12, 13, 14, 16, 17, 18, 19, 28, 29, 52] [6, 7, 8, 9, 10, 11, 12, 14, 34, 35] G A G A := Fr_rf
  have hS0 : Fx sr (sy) A A := Fx_rf
  have hV0 : Fx [14] (vi) A A := Fx_rf
  have hL0 : Fx [34, 35] (lk0) A A := Fx_rf
  have b_ln : (0 : Int) ≤ ln ∧ ln ≤ 3000 := e_ln ▸ hW.1 9
  have b_le : (0 : Int) ≤ le ∧ le ≤ 3000 := e_le ▸ hW.2 4 _
  have b_at0 : (0 : Int) ≤ at0 ∧ at0 ≤ 3002 := e_at0 ▸ hW.1 10
  have b_fk : (0 : Int) ≤ fk ∧ fk ≤ 6 := e_fk ▸ hW.1 16
  have b_tk0 : (0 : Int) ≤ tk0 ∧ tk0 ≤ 5 := e_tk0 ▸ hW.1 11
  have b_sy : (0 : Int) ≤ sy ∧ sy ≤ 202 := e_sy ▸ hW.1 19
  have b_na : (0 : Int) ≤ na ∧ na ≤ 200 := e_na ▸ hW.1 28
  have b_li : (0 : Int) ≤ li ∧ li ≤ 3000 := e_li ▸ hW.1 3
  have b_vi : (0 : Int) ≤ vi ∧ vi ≤ 202 := e_vi ▸ hW.1 29
  have b_lk0 : (0 : Int) ≤ lk0 ∧ lk0 ≤ 12 := e_lk0 ▸ hW.1 52
  intro L Gx Ax s at1 tk1 fk1 sy1 na1 gL_0 gL_1 hWx hFx hSx hVx hLx ex_at1 ex_tk1 ex_fk1 ex_sy1 ex_na1 fx_9 fx_29 fx_52 rx_s iv_0 iv_1 iv_2 iv_3 iv_4
  have b_at1 : (0 : Int) ≤ at1 ∧ at1 ≤ 3002 := ex_at1 ▸ hWx.1 10
  have b_tk1 : (0 : Int) ≤ tk1 ∧ tk1 ≤ 5 := ex_tk1 ▸ hWx.1 11
  have b_fk1 : (0 : Int) ≤ fk1 ∧ fk1 ≤ 6 := ex_fk1 ▸ hWx.1 16
  have b_sy1 : (0 : Int) ≤ sy1 ∧ sy1 ≤ 202 := ex_sy1 ▸ hWx.1 19
  have b_na1 : (0 : Int) ≤ na1 ∧ na1 ≤ 200 := ex_na1 ▸ hWx.1 28
  refine jx_ld (pc_q := 157) (l_q := L) (st_q := [.ref 66]) rfl (jl_aloadn gL_0) ?_
  refine jr_get (pc_q := 160) (i := 54) (v := .ref 102) rfl rfl (by decide) rfl rfl ?_
  refine jx_ld (pc_q := 161) (l_q := L) (st_q := [.ref 66, .ref 102]) rfl (jl_aloadn gL_0) ?_
  refine jr_get (pc_q := 164) (i := 52) (v := .int (i32 (lk0))) rfl rfl (by decide) (rFv_eq (by decide) (show Gx 52 = lk0 from (fx_52))) rfl ?_
  refine jx_ld (pc_q := 165) (l_q := L) (st_q := [.ref 66, .int (i32 (lk0)), .ref 102]) rfl (jl_aloadn gL_0) ?_
  refine jx_ar (pc_q := 166) (st_q := [.int (i32 (0)), .ref 66, .int (i32 (lk0)), .ref 102]) rfl rfl rfl rfl ?_
  refine jx_ar (pc_q := 167) (st_q := [.int (i32 (5)), .int (i32 (0)), .ref 66, .int (i32 (lk0)), .ref 102]) rfl rfl rfl rfl ?_
  have b322 : (-2147483648 : Int) ≤ Gx 13 ∧ Gx 13 ≤ 2147483647 := hWx.1 13
  refine jx_vr (pc_q := 170) (as := [.int (i32 (0)), .int (i32 (5))]) (st := [.int (i32 (lk0)), .ref 102]) rfl rfl rfl rfl ⟨rfl, rfl, Nat.le_of_ble_eq_true rfl⟩ rfl rfl (c_needNumber2 (dd := d) (hd := by omega) (hW := hWx) (lo := 0) (hi := 5) (ln := ln) (e_ln := show Gx 9 = ln from (fx_9)) (le := le) (e_le := show Ax 4 (ln).toNat = le from (congrFun (hFx.2 4 rfl) _).trans (e_le)) (at0 := at1) (e_at0 := show Gx 10 = at1 from (ex_at1)) (fk := fk1) (e_fk := show Gx 16 = fk1 from (ex_fk1)) (tk0 := tk1) (e_tk0 := show Gx 11 = tk1 from (ex_tk1)) (tn := Gx 13) (e_tn := show Gx 13 = Gx 13 from rfl)  (h_lo := ⟨(by decide), (by decide)⟩) (h_hi := ⟨(by decide), (by decide)⟩)  (p_0 := by omega)) (fun o V_q hq => ?_)
  obtain ⟨G323, A324, r325, at2_326, tk2_327, fk2_328, rfl, rfl, hW329, hF330, b331, e332, e333, e334, p335, p336, q337⟩ := hq
  have hF338 := Fr_tr hFx hF330 (Fr_sub (by decide)) (Fr_sub (by decide))
  have hS339 := Fx_f hSx hF330 (by decide)
  have hV340 := Fx_f hVx hF330 (by decide)
  have hL341 := Fx_f hLx hF330 (by decide)
  have bat2_326 : (0 : Int) ≤ at2_326 ∧ at2_326 ≤ 3002 := e332 ▸ hW329.1 10
  have ztk2_327 := tz_b tk2_327
  have btk2_327 : (0 : Int) ≤ tk2_327 ∧ tk2_327 ≤ 5 := e333 ▸ hW329.1 11
  have bfk2_328 : (0 : Int) ≤ fk2_328 ∧ fk2_328 ≤ 6 := e334 ▸ hW329.1 16
  refine .inr ⟨_, rfl, ?_⟩
  rcases q337 with ⟨a342, a343, a344, a345⟩ | ⟨a346, a347, a348, a349, a350, a351, a352⟩
  · have _q : True := trivial
    refine jr_st (pc_q := 171) (i := 35) (m := 13) (z := lk0) (y := r325) rfl (by decide) rfl (by decide) (by omega) (by omega) rfl ?_
    have hW354 : Wk G323 (uA A324 35 (lk0).toNat (r325)) := Wk_a hW329 (show (-2147483648 : Int) ≤ r325 by omega) (show r325 ≤ (2147483647 : Int) by omega)
    have hF355 := Fr_a (z := r325) (k := 35) (n := (lk0).toNat) hF338 (by decide)
    obtain ⟨A353, eA353⟩ : ∃ q, q = uA A324 35 (lk0).toNat (r325) := ⟨_, rfl⟩
    rw [← eA353]
    rw [← eA353] at hW354 hF355
    have q356 : A353 35 (lk0).toNat = r325 := by rw [eA353]; exact uA_eq
    have hS357 : Fx sr (sy) A A353 := eA353 ▸ Fx_n hS339 rfl
    have hV358 : Fx [14] (vi) A A353 := eA353 ▸ Fx_n hV340 rfl
    have hL359 : Fx [34, 35] (lk0) A A353 := eA353 ▸ Fx_a hL341 (z := lk0) (by omega) (by omega)
    refine jx_ld (pc_q := 172) (l_q := L) (st_q := [.ref 66]) rfl (jl_aloadn gL_0) ?_
    refine jx_ld (pc_q := 173) (l_q := L) (st_q := [.ref 66, .ref 66]) rfl (jl_aloadn gL_0) ?_
    refine jx_ar (pc_q := 175) (st_q := [.int (i32 (58)), .ref 66, .ref 66]) rfl rfl rfl rfl ?_
    have b360 : (-2147483648 : Int) ≤ G323 13 ∧ G323 13 ≤ 2147483647 := hW329.1 13
    refine jx_vr (pc_q := 178) (as := [.int (i32 (58))]) (st := [.ref 66]) rfl rfl rfl rfl ⟨rfl, rfl, Nat.le_of_ble_eq_true rfl⟩ rfl rfl (c_is (dd := d) (hd := by omega) (hW := hW354) (k := 58) (tk := tk2_327) (e_tk := show G323 11 = tk2_327 from (e333)) (tn := G323 13) (e_tn := show G323 13 = G323 13 from rfl)  (h_k := ⟨(by decide), (by decide)⟩)  ) (fun o V_q hq => ?_)
    obtain ⟨r361, rfl, rfl, b362, q363⟩ := hq
    refine .inr ⟨_, rfl, ?_⟩
    rcases q363 with ⟨rfl, a364, a365, a366⟩ | rfl
    · have _q : True := trivial
      refine jx_vr (pc_q := 181) (as := [.int (i32 (1))]) (st := []) rfl rfl rfl rfl ⟨rfl, rfl, Nat.le_of_ble_eq_true rfl⟩ rfl rfl (c_need (dd := d) (hd := by omega) (hW := hW354) (g := 1) (ln := ln) (e_ln := show G323 9 = ln from ((hF330.1 9 rfl).trans (fx_9))) (le := le) (e_le := show A353 4 (ln).toNat = le from (congrFun (((congrFun eA353 4).trans (uA_ne (by decide))).trans ((hF330.2 4 rfl).trans (hFx.2 4 rfl))) _).trans (e_le)) (at0 := at2_326) (e_at0 := show G323 10 = at2_326 from (e332)) (fk := fk2_328) (e_fk := show G323 16 = fk2_328 from (e334)) (tk0 := tk2_327) (e_tk0 := show G323 11 = tk2_327 from (e333))  (h_g := ⟨(by decide), (by decide)⟩)  (p_0 := by omega)) (fun o V_q hq => ?_)
      obtain ⟨G367, A368, at2_369, tk2_370, fk2_371, rfl, rfl, hW372, hF373, e374, e375, e376, p377, p378, q379⟩ := hq
      have hF380 := Fr_tr hF355 hF373 (Fr_sub (by decide)) (Fr_sub (by decide))
      have hS381 := Fx_f hS357 hF373 (by decide)
      have hV382 := Fx_f hV358 hF373 (by decide)
      have hL383 := Fx_f hL359 hF373 (by decide)
      have bat2_369 : (0 : Int) ≤ at2_369 ∧ at2_369 ≤ 3002 := e374 ▸ hW372.1 10
      have ztk2_370 := tz_b tk2_370
      have btk2_370 : (0 : Int) ≤ tk2_370 ∧ tk2_370 ≤ 5 := e375 ▸ hW372.1 11
      have bfk2_371 : (0 : Int) ≤ fk2_371 ∧ fk2_371 ≤ 6 := e376 ▸ hW372.1 16
      refine .inl ⟨rfl, ?_⟩
      rcases q379 with ⟨a384, a385, a386, a387⟩ | ⟨a388, a389, a390, a391⟩
      · have _q : True := trivial
        refine jx_ld (pc_q := 182) (l_q := L) (st_q := [.ref 66]) rfl (jl_aloadn gL_0) ?_
        refine jx_vr (pc_q := 185) (as := []) (st := []) rfl rfl rfl rfl ⟨rfl, rfl, Nat.le_of_ble_eq_true rfl⟩ rfl rfl (c_endLine (dd := d) (hd := by omega) (hW := hW372)  (ln := ln) (e_ln := show G367 9 = ln from ((hF373.1 9 rfl).trans ((hF330.1 9 rfl).trans (fx_9)))) (li := li) (e_li := show G367 3 = li from ((hF373.1 3 rfl).trans ((hF330.1 3 rfl).trans ((hFx.1 3 rfl).trans (e_li))))) (fk := fk2_371) (e_fk := show G367 16 = fk2_371 from (e376)) (tk0 := tk2_370) (e_tk0 := show G367 11 = tk2_370 from (e375))    (p_0 := by omega)) (fun o V_q hq => ?_)
        obtain ⟨G392, A393, ln2_394, fk2_395, rfl, rfl, hW396, hF397, e398, e399, q400⟩ := hq
        have hF401 := Fr_tr hF380 hF397 (Fr_sub (by decide)) (Fr_sub (by decide))
        have hS402 := Fx_f hS381 hF397 (by decide)
        have hV403 := Fx_f hV382 hF397 (by decide)
        have hL404 := Fx_f hL383 hF397 (by decide)
        have bln2_394 : (0 : Int) ≤ ln2_394 ∧ ln2_394 ≤ 3000 := e398 ▸ hW396.1 9
        have bfk2_395 : (0 : Int) ≤ fk2_395 ∧ fk2_395 ≤ 6 := e399 ▸ hW396.1 16
        refine .inl ⟨rfl, ?_⟩
        rcases q400 with ⟨a405, a406, a407, a408, a409⟩ | ⟨a410, a411⟩
        · have _q : True := trivial
          exfalso
          omega
        · have _q : True := trivial
          refine jx_ld (pc_q := 186) (l_q := L) (st_q := [.ref 66]) rfl (jl_aloadn gL_0) ?_
          refine jx_vr (pc_q := 189) (as := []) (st := []) rfl rfl rfl rfl ⟨rfl, rfl, Nat.le_of_ble_eq_true rfl⟩ rfl rfl (c_bad (dd := d) (hd := by omega) (hW := hW396)  (fk := fk2_395) (e_fk := show G392 16 = fk2_395 from (e399))    ) (fun o V_q hq => ?_)
          obtain ⟨r412, rfl, rfl, b413, q414⟩ := hq
          refine .inr ⟨_, rfl, ?_⟩
          rcases q414 with ⟨rfl, a415⟩ | ⟨rfl, a416⟩
          · have _q : True := trivial
            refine jx_if_ne (pc_q := 192) (tg := 217) rfl rfl rfl (by decide) (by decide) (fun h417 => ?_) (fun h417 => ?_)
            · have _q := h417
              refine jx_rt (v := none) rfl rfl rfl rfl rfl rfl ?_
              exact ⟨_, _, ln2_394, at2_369, fk2_395, sy1, na1, vi, lk0, rfl, rfl, hW396, hF401, hS402, hV403, hL404, (e398), ((hF397.1 10 rfl).trans (e374)), (e399), ((hF397.1 19 rfl).trans ((hF373.1 19 rfl).trans ((hF330.1 19 rfl).trans (ex_sy1)))), ((hF397.1 28 rfl).trans ((hF373.1 28 rfl).trans ((hF330.1 28 rfl).trans (ex_na1)))), ((hF397.1 29 rfl).trans ((hF373.1 29 rfl).trans ((hF330.1 29 rfl).trans (fx_29)))), ((hF397.1 52 rfl).trans ((hF373.1 52 rfl).trans ((hF330.1 52 rfl).trans (fx_52)))), by omega, by omega, by omega, by omega, by omega, by omega, by omega, by first | exact Or.inl (by omega)⟩
            · have _q := h417
              exact absurd h417 (by omega)
          · have _q : True := trivial
            exfalso
            omega
      · have _q : True := trivial
        exfalso
        omega
    · have _q : True := trivial
      refine jx_vr (pc_q := 181) (as := [.int (i32 (0))]) (st := []) rfl rfl rfl rfl ⟨rfl, rfl, Nat.le_of_ble_eq_true rfl⟩ rfl rfl (c_need (dd := d) (hd := by omega) (hW := hW354) (g := 0) (ln := ln) (e_ln := show G323 9 = ln from ((hF330.1 9 rfl).trans (fx_9))) (le := le) (e_le := show A353 4 (ln).toNat = le from (congrFun (((congrFun eA353 4).trans (uA_ne (by decide))).trans ((hF330.2 4 rfl).trans (hFx.2 4 rfl))) _).trans (e_le)) (at0 := at2_326) (e_at0 := show G323 10 = at2_326 from (e332)) (fk := fk2_328) (e_fk := show G323 16 = fk2_328 from (e334)) (tk0 := tk2_327) (e_tk0 := show G323 11 = tk2_327 from (e333))  (h_g := ⟨(by decide), (by decide)⟩)  (p_0 := by omega)) (fun o V_q hq => ?_)
      obtain ⟨G418, A419, at2_420, tk2_421, fk2_422, rfl, rfl, hW423, hF424, e425, e426, e427, p428, p429, q430⟩ := hq
      have hF431 := Fr_tr hF355 hF424 (Fr_sub (by decide)) (Fr_sub (by decide))
      have hS432 := Fx_f hS357 hF424 (by decide)
      have hV433 := Fx_f hV358 hF424 (by decide)
      have hL434 := Fx_f hL359 hF424 (by decide)
      have bat2_420 : (0 : Int) ≤ at2_420 ∧ at2_420 ≤ 3002 := e425 ▸ hW423.1 10
      have ztk2_421 := tz_b tk2_421
      have btk2_421 : (0 : Int) ≤ tk2_421 ∧ tk2_421 ≤ 5 := e426 ▸ hW423.1 11
      have bfk2_422 : (0 : Int) ≤ fk2_422 ∧ fk2_422 ≤ 6 := e427 ▸ hW423.1 16
      refine .inl ⟨rfl, ?_⟩
      rcases q430 with ⟨a435, a436, a437, a438⟩ | ⟨a439, a440, a441, a442⟩
      · have _q : True := trivial
        refine jx_ld (pc_q := 182) (l_q := L) (st_q := [.ref 66]) rfl (jl_aloadn gL_0) ?_
        refine jx_vr (pc_q := 185) (as := []) (st := []) rfl rfl rfl rfl ⟨rfl, rfl, Nat.le_of_ble_eq_true rfl⟩ rfl rfl (c_endLine (dd := d) (hd := by omega) (hW := hW423)  (ln := ln) (e_ln := show G418 9 = ln from ((hF424.1 9 rfl).trans ((hF330.1 9 rfl).trans (fx_9)))) (li := li) (e_li := show G418 3 = li from ((hF424.1 3 rfl).trans ((hF330.1 3 rfl).trans ((hFx.1 3 rfl).trans (e_li))))) (fk := fk2_422) (e_fk := show G418 16 = fk2_422 from (e427)) (tk0 := tk2_421) (e_tk0 := show G418 11 = tk2_421 from (e426))    (p_0 := by omega)) (fun o V_q hq => ?_)
        obtain ⟨G443, A444, ln2_445, fk2_446, rfl, rfl, hW447, hF448, e449, e450, q451⟩ := hq
        have hF452 := Fr_tr hF431 hF448 (Fr_sub (by decide)) (Fr_sub (by decide))
        have hS453 := Fx_f hS432 hF448 (by decide)
        have hV454 := Fx_f hV433 hF448 (by decide)
        have hL455 := Fx_f hL434 hF448 (by decide)
        have bln2_445 : (0 : Int) ≤ ln2_445 ∧ ln2_445 ≤ 3000 := e449 ▸ hW447.1 9
        have bfk2_446 : (0 : Int) ≤ fk2_446 ∧ fk2_446 ≤ 6 := e450 ▸ hW447.1 16
        refine .inl ⟨rfl, ?_⟩
        rcases q451 with ⟨a456, a457, a458, a459, a460⟩ | ⟨a461, a462⟩
        · have _q : True := trivial
          exfalso
          omega
        · have _q : True := trivial
          refine jx_ld (pc_q := 186) (l_q := L) (st_q := [.ref 66]) rfl (jl_aloadn gL_0) ?_
          refine jx_vr (pc_q := 189) (as := []) (st := []) rfl rfl rfl rfl ⟨rfl, rfl, Nat.le_of_ble_eq_true rfl⟩ rfl rfl (c_bad (dd := d) (hd := by omega) (hW := hW447)  (fk := fk2_446) (e_fk := show G443 16 = fk2_446 from (e450))    ) (fun o V_q hq => ?_)
          obtain ⟨r463, rfl, rfl, b464, q465⟩ := hq
          refine .inr ⟨_, rfl, ?_⟩
          rcases q465 with ⟨rfl, a466⟩ | ⟨rfl, a467⟩
          · have _q : True := trivial
            refine jx_if_ne (pc_q := 192) (tg := 217) rfl rfl rfl (by decide) (by decide) (fun h468 => ?_) (fun h468 => ?_)
            · have _q := h468
              refine jx_rt (v := none) rfl rfl rfl rfl rfl rfl ?_
              exact ⟨_, _, ln2_445, at2_420, fk2_446, sy1, na1, vi, lk0, rfl, rfl, hW447, hF452, hS453, hV454, hL455, (e449), ((hF448.1 10 rfl).trans (e425)), (e450), ((hF448.1 19 rfl).trans ((hF424.1 19 rfl).trans ((hF330.1 19 rfl).trans (ex_sy1)))), ((hF448.1 28 rfl).trans ((hF424.1 28 rfl).trans ((hF330.1 28 rfl).trans (ex_na1)))), ((hF448.1 29 rfl).trans ((hF424.1 29 rfl).trans ((hF330.1 29 rfl).trans (fx_29)))), ((hF448.1 52 rfl).trans ((hF424.1 52 rfl).trans ((hF330.1 52 rfl).trans (fx_52)))), by omega, by omega, by omega, by omega, by omega, by omega, by omega, by first | exact Or.inl (by omega)⟩
            · have _q := h468
              exact absurd h468 (by omega)
          · have _q : True := trivial
            exfalso
            omega
      · have _q : True := trivial
        exfalso
        omega
  · have _q : True := trivial
    exfalso
    omega
set_option maxRecDepth 20000 in
set_option maxHeartbeats 4000000 in
theorem c_readLink_at_106 {X : jX} {d : Nat} {Vs : Nat → Prop} {sb pb : Int} (hvb : VB Vs sb) {c0 c1 : jC} {G : Nat → Int} {A : Nat → Nat → Int} {T : jH} {ln le at0 fk tk0 sy na li vi lk0 : Int} (hd : 8 ≤ d + 1) (hW : Wk G A) (e_ln : G 9 = ln) (e_le : A 4 (ln).toNat = le) (e_at0 : G 10 = at0) (e_fk : G 16 = fk) (e_tk0 : G 11 = tk0) (e_sy : G 19 = sy) (e_na : G 28 = na) (e_li : G 3 = li) (e_vi : G 29 = vi) (e_lk0 : G 52 = lk0) (i_LT : LT G A) (i_SV : SV Vs sb G A) (i_PQ : PQ Vs sb pb G A) (p_0 : fk = 0) (p_1 : ln < li) (p_2 : at0 ≤ le) (p_3 : sy ≤ na + 2) (p_4 : vi ≤ sy) (p_5 : sb ≤ sy) : ∀ (L : jL) (Gx : Nat → Int) (Ax : Nat → Nat → Int) (s at1 tk1 fk1 sy1 na1 tn1 kp1 fr1 : Int), jGet L 0 = some (.ref 66) → jGet L 1 = some (.int (i32 s)) → Wk Gx Ax → Fr [9, 10, 11, 12, 13, 14, 16, 17, 18, 19, 28, 29, 52] [6, 7, 8, 9, 10, 11, 12, 14, 34, 35] G A Gx Ax → Fx sr (sy) A Ax → Fx [14] (vi) A Ax → Fx [34, 35] (lk0) A Ax → Gx 10 = at1 → Gx 11 = tk1 → Gx 16 = fk1 → Gx 19 = sy1 → Gx 28 = na1 → Gx 13 = tn1 → Ax 7 (sy).toNat = kp1 → Ax 34 (lk0).toNat = fr1 → Gx 9 = ln → Gx 29 = vi → Gx 52 = lk0 → ((-2147483648 : Int) ≤ s ∧ s ≤ 2147483647) → (fk1 = 0) → (at0 ≤ at1) → (at1 ≤ le) → (sy1 = sy + 1) → (sy1 ≤ na1 + 2) → (s = sy) → (lk0 ≤ 11) → (kp1 = 11) → (0 ≤ fr1 ∧ fr1 ≤ 5) → wj X d jm310 (106, L, [], rV c0 c1 Gx Ax T) (fun o V_q => ∃ (G_q : Nat → Int) (A_q : Nat → Nat → Int) (ln2 : Int) (at2 : Int) (fk2 : Int) (sy2 : Int) (na2 : Int) (vi2 : Int) (lk2 : Int), V_q = rV c0 c1 G_q A_q T ∧ o = .inl none ∧ Wk G_q A_q ∧ Fr [9, 10, 11, 12, 13, 14, 16, 17, 18, 19, 28, 29, 52] [6, 7, 8, 9, 10, 11, 12, 14, 34, 35] G A G_q A_q ∧ Fx sr (sy) A A_q ∧ Fx [14] (vi) A A_q ∧ Fx [34, 35] (lk0) A A_q ∧ G_q 9 = ln2 ∧ G_q 10 = at2 ∧ G_q 16 = fk2 ∧ G_q 19 = sy2 ∧ G_q 28 = na2 ∧ G_q 29 = vi2 ∧ G_q 52 = lk2 ∧ (at0 ≤ at2) ∧ (at2 ≤ le) ∧ (sy ≤ sy2) ∧ (sy2 ≤ na2 + 2) ∧ (vi2 ≤ sy2) ∧ (ln ≤ ln2) ∧ (ln2 ≤ li) ∧ (((1 ≤ fk2)) ∨ ((fk2 = 0) ∧ (ln2 = ln + 1) ∧ (sy2 = sy + 1) ∧ (vi2 = vi + 1) ∧ (lk2 = lk0 + 1) ∧ (SW (Vu Vs sy) (sy2) (vi2) A_q) ∧ (PQ (Vu Vs sy) (sy2) (pb) (fun _ => 0) A_q) ∧ (LK A_q (sy) (lk0))))) := by
  have hF0 : Fr [9, 10, 11, 12, 13, 14, 16, 17, 18, 19, 28, 29, 52] [6, 7, 8, 9, 10, 11, 12, 14, 34, 35] G A G A := Fr_rf
  have hS0 : Fx sr (sy) A A := Fx_rf
  have hV0 : Fx [14] (vi) A A := Fx_rf
  have hL0 : Fx [34, 35] (lk0) A A := Fx_rf
  have b_ln : (0 : Int) ≤ ln ∧ ln ≤ 3000 := e_ln ▸ hW.1 9
  have b_le : (0 : Int) ≤ le ∧ le ≤ 3000 := e_le ▸ hW.2 4 _
  have b_at0 : (0 : Int) ≤ at0 ∧ at0 ≤ 3002 := e_at0 ▸ hW.1 10
  have b_fk : (0 : Int) ≤ fk ∧ fk ≤ 6 := e_fk ▸ hW.1 16
  have b_tk0 : (0 : Int) ≤ tk0 ∧ tk0 ≤ 5 := e_tk0 ▸ hW.1 11
  have b_sy : (0 : Int) ≤ sy ∧ sy ≤ 202 := e_sy ▸ hW.1 19
  have b_na : (0 : Int) ≤ na ∧ na ≤ 200 := e_na ▸ hW.1 28
  have b_li : (0 : Int) ≤ li ∧ li ≤ 3000 := e_li ▸ hW.1 3
  have b_vi : (0 : Int) ≤ vi ∧ vi ≤ 202 := e_vi ▸ hW.1 29
  have b_lk0 : (0 : Int) ≤ lk0 ∧ lk0 ≤ 12 := e_lk0 ▸ hW.1 52
  intro L Gx Ax s at1 tk1 fk1 sy1 na1 tn1 kp1 fr1 gL_0 gL_1 hWx hFx hSx hVx hLx ex_at1 ex_tk1 ex_fk1 ex_sy1 ex_na1 ex_tn1 ex_kp1 ex_fr1 fx_9 fx_29 fx_52 rx_s iv_0 iv_1 iv_2 iv_3 iv_4 iv_5 iv_6 iv_7 iv_8
  have b_at1 : (0 : Int) ≤ at1 ∧ at1 ≤ 3002 := ex_at1 ▸ hWx.1 10
  have b_tk1 : (0 : Int) ≤ tk1 ∧ tk1 ≤ 5 := ex_tk1 ▸ hWx.1 11
  have b_fk1 : (0 : Int) ≤ fk1 ∧ fk1 ≤ 6 := ex_fk1 ▸ hWx.1 16
  have b_sy1 : (0 : Int) ≤ sy1 ∧ sy1 ≤ 202 := ex_sy1 ▸ hWx.1 19
  have b_na1 : (0 : Int) ≤ na1 ∧ na1 ≤ 200 := ex_na1 ▸ hWx.1 28
  have b_tn1 : (-2147483648 : Int) ≤ tn1 ∧ tn1 ≤ 2147483647 := ex_tn1 ▸ hWx.1 13
  refine jx_ld (pc_q := 107) (l_q := L) (st_q := [.ref 66]) rfl (jl_aloadn gL_0) ?_
  refine jx_ld (pc_q := 108) (l_q := L) (st_q := [.ref 66, .ref 66]) rfl (jl_aloadn gL_0) ?_
  refine jx_ar (pc_q := 110) (st_q := [.int (i32 (23)), .ref 66, .ref 66]) rfl rfl rfl rfl ?_
  refine jx_vr (pc_q := 113) (as := [.int (i32 (23))]) (st := [.ref 66]) rfl rfl rfl rfl ⟨rfl, rfl, Nat.le_of_ble_eq_true rfl⟩ rfl rfl (c_isKey (dd := d) (hd := by omega) (hW := hWx) (k := 23) (tk := tk1) (e_tk := show Gx 11 = tk1 from (ex_tk1)) (tn := tn1) (e_tn := show Gx 13 = tn1 from (ex_tn1))  (h_k := ⟨(by decide), (by decide)⟩)  ) (fun o V_q hq => ?_)
  obtain ⟨r469, rfl, rfl, b470, q471⟩ := hq
  refine .inr ⟨_, rfl, ?_⟩
  rcases q471 with ⟨rfl, a472, a473, a474⟩ | rfl
  · have _q : True := trivial
    refine jx_vr (pc_q := 116) (as := [.int (i32 (1))]) (st := []) rfl rfl rfl rfl ⟨rfl, rfl, Nat.le_of_ble_eq_true rfl⟩ rfl rfl (c_need (dd := d) (hd := by omega) (hW := hWx) (g := 1) (ln := ln) (e_ln := show Gx 9 = ln from (fx_9)) (le := le) (e_le := show Ax 4 (ln).toNat = le from (congrFun (hFx.2 4 rfl) _).trans (e_le)) (at0 := at1) (e_at0 := show Gx 10 = at1 from (ex_at1)) (fk := fk1) (e_fk := show Gx 16 = fk1 from (ex_fk1)) (tk0 := tk1) (e_tk0 := show Gx 11 = tk1 from (ex_tk1))  (h_g := ⟨(by decide), (by decide)⟩)  (p_0 := by omega)) (fun o V_q hq => ?_)
    obtain ⟨G475, A476, at2_477, tk2_478, fk2_479, rfl, rfl, hW480, hF481, e482, e483, e484, p485, p486, q487⟩ := hq
    have hF488 := Fr_tr hFx hF481 (Fr_sub (by decide)) (Fr_sub (by decide))
    have hS489 := Fx_f hSx hF481 (by decide)
    have hV490 := Fx_f hVx hF481 (by decide)
    have hL491 := Fx_f hLx hF481 (by decide)
    have bat2_477 : (0 : Int) ≤ at2_477 ∧ at2_477 ≤ 3002 := e482 ▸ hW480.1 10
    have ztk2_478 := tz_b tk2_478
    have btk2_478 : (0 : Int) ≤ tk2_478 ∧ tk2_478 ≤ 5 := e483 ▸ hW480.1 11
    have bfk2_479 : (0 : Int) ≤ fk2_479 ∧ fk2_479 ≤ 6 := e484 ▸ hW480.1 16
    refine .inl ⟨rfl, ?_⟩
    rcases q487 with ⟨a492, a493, a494, a495⟩ | ⟨a496, a497, a498, a499⟩
    · have _q : True := trivial
      refine jx_ld (pc_q := 117) (l_q := L) (st_q := [.ref 66]) rfl (jl_aloadn gL_0) ?_
      refine jx_vr (pc_q := 120) (as := []) (st := []) rfl rfl rfl rfl ⟨rfl, rfl, Nat.le_of_ble_eq_true rfl⟩ rfl rfl (c_bad (dd := d) (hd := by omega) (hW := hW480)  (fk := fk2_479) (e_fk := show G475 16 = fk2_479 from (e484))    ) (fun o V_q hq => ?_)
      obtain ⟨r500, rfl, rfl, b501, q502⟩ := hq
      refine .inr ⟨_, rfl, ?_⟩
      rcases q502 with ⟨rfl, a503⟩ | ⟨rfl, a504⟩
      · have _q : True := trivial
        refine jx_if_ne (pc_q := 123) (tg := 156) rfl rfl rfl (by decide) (by decide) (fun h505 => ?_) (fun h505 => ?_)
        · have _q := h505
          exact c_readLink_at_156p (X := X) (d := d) (Vs := Vs) (sb := sb) (pb := pb) (hvb := hvb) (c0 := c0) (c1 := c1) (G := G) (A := A) (T := T) (ln := ln) (le := le) (at0 := at0) (fk := fk) (tk0 := tk0) (sy := sy) (na := na) (li := li) (vi := vi) (lk0 := lk0) (hd := hd) (hW := hW) (e_ln := e_ln) (e_le := e_le) (e_at0 := e_at0) (e_fk := e_fk) (e_tk0 := e_tk0) (e_sy := e_sy) (e_na := e_na) (e_li := e_li) (e_vi := e_vi) (e_lk0 := e_lk0) (i_LT := i_LT) (i_SV := i_SV) (i_PQ := i_PQ) (p_0 := p_0) (p_1 := p_1) (p_2 := p_2) (p_3 := p_3) (p_4 := p_4) (p_5 := p_5) L G475 A476 (s) (at2_477) (tk2_478) (fk2_479) (sy1) (na1) gL_0 gL_1 hW480 hF488 hS489 hV490 hL491 ((e482)) ((e483)) ((e484)) (((hF481.1 19 rfl).trans (ex_sy1))) (((hF481.1 28 rfl).trans (ex_na1))) (((hF481.1 9 rfl).trans (fx_9))) (((hF481.1 29 rfl).trans (fx_29))) (((hF481.1 52 rfl).trans (fx_52))) (by omega) (by omega) (by omega) (by omega) (by omega) (by omega)
        · have _q := h505
          exact absurd h505 (by omega)
      · have _q : True := trivial
        exfalso
        omega
    · have _q : True := trivial
      refine jx_ld (pc_q := 117) (l_q := L) (st_q := [.ref 66]) rfl (jl_aloadn gL_0) ?_
      refine jx_vr (pc_q := 120) (as := []) (st := []) rfl rfl rfl rfl ⟨rfl, rfl, Nat.le_of_ble_eq_true rfl⟩ rfl rfl (c_bad (dd := d) (hd := by omega) (hW := hW480)  (fk := fk2_479) (e_fk := show G475 16 = fk2_479 from (e484))    ) (fun o V_q hq => ?_)
      obtain ⟨r506, rfl, rfl, b507, q508⟩ := hq
      refine .inr ⟨_, rfl, ?_⟩
      rcases q508 with ⟨rfl, a509⟩ | ⟨rfl, a510⟩
      · have _q : True := trivial
        exfalso
        omega
      · have _q : True := trivial
        refine jx_if_ne (pc_q := 123) (tg := 156) rfl rfl rfl (by decide) (by decide) (fun h511 => ?_) (fun h511 => ?_)
        · have _q := h511
          exact absurd h511 (by omega)
        · have _q := h511
          refine jx_ld (pc_q := 124) (l_q := L) (st_q := [.ref 66]) rfl (jl_aloadn gL_0) ?_
          refine jr_get (pc_q := 127) (i := 11) (v := .int (i32 (tk2_478))) rfl rfl (by decide) (rFv_eq (by decide) (show G475 11 = tk2_478 from (e483))) rfl ?_
          refine jx_ar (pc_q := 128) (st_q := [.int (i32 (3)), .int (i32 (tk2_478))]) rfl rfl rfl rfl ?_
          refine jx_icmp_ne (pc_q := 131) (tg := 156) rfl rfl rfl (Int.le_trans (by decide : (-2147483648 : Int) ≤ 0) btk2_478.1) (Int.le_trans btk2_478.2 (by decide : (5 : Int) ≤ 2147483647)) (by decide) (by decide) (fun h512 => ?_) (fun h512 => ?_)
          · have _q := h512
            exact c_readLink_at_156 (X := X) (d := d) (Vs := Vs) (sb := sb) (pb := pb) (hvb := hvb) (c0 := c0) (c1 := c1) (G := G) (A := A) (T := T) (ln := ln) (le := le) (at0 := at0) (fk := fk) (tk0 := tk0) (sy := sy) (na := na) (li := li) (vi := vi) (lk0 := lk0) (hd := hd) (hW := hW) (e_ln := e_ln) (e_le := e_le) (e_at0 := e_at0) (e_fk := e_fk) (e_tk0 := e_tk0) (e_sy := e_sy) (e_na := e_na) (e_li := e_li) (e_vi := e_vi) (e_lk0 := e_lk0) (i_LT := i_LT) (i_SV := i_SV) (i_PQ := i_PQ) (p_0 := p_0) (p_1 := p_1) (p_2 := p_2) (p_3 := p_3) (p_4 := p_4) (p_5 := p_5) L G475 A476 (s) (at2_477) (tk2_478) (fk2_479) (sy1) (na1) (G475 13) (kp1) (fr1) gL_0 gL_1 hW480 hF488 hS489 hV490 hL491 ((e482)) ((e483)) ((e484)) (((hF481.1 19 rfl).trans (ex_sy1))) (((hF481.1 28 rfl).trans (ex_na1))) (rfl) ((congrFun (hF481.2 7 rfl) _).trans (ex_kp1)) ((congrFun (hF481.2 34 rfl) _).trans (ex_fr1)) (((hF481.1 9 rfl).trans (fx_9))) (((hF481.1 29 rfl).trans (fx_29))) (((hF481.1 52 rfl).trans (fx_52))) (by omega) (by omega) (by omega) (by omega) (by omega) (by omega) (by omega) (by omega) (by omega) (by omega) (by omega)
          · have _q := h512
            refine jx_ld (pc_q := 132) (l_q := L) (st_q := [.ref 66]) rfl (jl_aloadn gL_0) ?_
            have b513 : (-2147483648 : Int) ≤ G475 13 ∧ G475 13 ≤ 2147483647 := hW480.1 13
            refine jr_get (pc_q := 135) (i := 13) (v := .int (i32 (G475 13))) rfl rfl (by decide) rfl rfl ?_
            refine jx_ld (pc_q := 136) (l_q := L) (st_q := [.ref 66, .int (i32 (G475 13))]) rfl (jl_aloadn gL_0) ?_
            refine jr_get (pc_q := 139) (i := 53) (v := .ref 101) rfl rfl (by decide) rfl rfl ?_
            refine jx_ld (pc_q := 140) (l_q := L) (st_q := [.ref 66, .ref 101, .int (i32 (G475 13))]) rfl (jl_aloadn gL_0) ?_
            refine jr_get (pc_q := 143) (i := 52) (v := .int (i32 (lk0))) rfl rfl (by decide) (rFv_eq (by decide) (show G475 52 = lk0 from ((hF481.1 52 rfl).trans (fx_52)))) rfl ?_
            refine jr_ldv (pc_q := 144) (i := 34) (m := 13) (z := lk0) (y := fr1) rfl (by decide) rfl (by decide) (Int.le_trans (by decide : (0 : Int) ≤ 0) b_lk0.1) (Int.lt_of_le_of_lt b_lk0.2 (by decide : (12 : Int) < ((13 : Nat) : Int))) rfl (show A476 34 (lk0).toNat = fr1 from (congrFun (hF481.2 34 rfl) _).trans (ex_fr1)) ?_
            refine jx_icmp_ne (pc_q := 147) (tg := 156) rfl rfl rfl (Int.le_trans (by decide : (-2147483648 : Int) ≤ -2147483648) b513.1) (Int.le_trans b513.2 (by decide : (2147483647 : Int) ≤ 2147483647)) (by omega) (by omega) (fun h514 => ?_) (fun h514 => ?_)
            · have _q := h514
              exact c_readLink_at_156 (X := X) (d := d) (Vs := Vs) (sb := sb) (pb := pb) (hvb := hvb) (c0 := c0) (c1 := c1) (G := G) (A := A) (T := T) (ln := ln) (le := le) (at0 := at0) (fk := fk) (tk0 := tk0) (sy := sy) (na := na) (li := li) (vi := vi) (lk0 := lk0) (hd := hd) (hW := hW) (e_ln := e_ln) (e_le := e_le) (e_at0 := e_at0) (e_fk := e_fk) (e_tk0 := e_tk0) (e_sy := e_sy) (e_na := e_na) (e_li := e_li) (e_vi := e_vi) (e_lk0 := e_lk0) (i_LT := i_LT) (i_SV := i_SV) (i_PQ := i_PQ) (p_0 := p_0) (p_1 := p_1) (p_2 := p_2) (p_3 := p_3) (p_4 := p_4) (p_5 := p_5) L G475 A476 (s) (at2_477) (tk2_478) (fk2_479) (sy1) (na1) (G475 13) (kp1) (fr1) gL_0 gL_1 hW480 hF488 hS489 hV490 hL491 ((e482)) ((e483)) ((e484)) (((hF481.1 19 rfl).trans (ex_sy1))) (((hF481.1 28 rfl).trans (ex_na1))) (rfl) ((congrFun (hF481.2 7 rfl) _).trans (ex_kp1)) ((congrFun (hF481.2 34 rfl) _).trans (ex_fr1)) (((hF481.1 9 rfl).trans (fx_9))) (((hF481.1 29 rfl).trans (fx_29))) (((hF481.1 52 rfl).trans (fx_52))) (by omega) (by omega) (by omega) (by omega) (by omega) (by omega) (by omega) (by omega) (by omega) (by omega) (by omega)
            · have _q := h514
              refine jx_ld (pc_q := 148) (l_q := L) (st_q := [.ref 66]) rfl (jl_aloadn gL_0) ?_
              refine jx_ar (pc_q := 149) (st_q := [.int (i32 (1)), .ref 66]) rfl rfl rfl rfl ?_
              refine jx_ld (pc_q := 150) (l_q := L) (st_q := [.ref 66, .int (i32 (1)), .ref 66]) rfl (jl_aloadn gL_0) ?_
              have b515 : (-3000 : Int) ≤ G475 12 ∧ G475 12 ≤ 3002 := hW480.1 12
              refine jr_get (pc_q := 153) (i := 12) (v := .int (i32 (G475 12))) rfl rfl (by decide) rfl rfl ?_
              refine jx_vr (pc_q := 156) (as := [.int (i32 (1)), .int (i32 (G475 12))]) (st := []) rfl rfl rfl rfl ⟨rfl, rfl, Nat.le_of_ble_eq_true rfl⟩ rfl rfl (c_fail (dd := d) (hd := by omega) (hW := hW480) (kind := 1) (place := G475 12) (fk := fk2_479) (e_fk := show G475 16 = fk2_479 from (e484))  (h_kind := ⟨(by decide), (by decide)⟩) (h_place := ⟨(Int.le_trans (by decide : (-2147483648 : Int) ≤ -3000) b515.1), (Int.le_trans b515.2 (by decide : (3002 : Int) ≤ 2147483647))⟩)  (p_0 := by omega) (p_1 := by omega)) (fun o V_q hq => ?_)
              obtain ⟨G516, A517, fk2_518, rfl, rfl, hW519, hF520, e521, p522, -⟩ := hq
              have hF524 := Fr_tr hF488 hF520 (Fr_sub (by decide)) (Fr_sub (by decide))
              have hS525 := Fx_f hS489 hF520 (by decide)
              have hV526 := Fx_f hV490 hF520 (by decide)
              have hL527 := Fx_f hL491 hF520 (by decide)
              have bfk2_518 : (0 : Int) ≤ fk2_518 ∧ fk2_518 ≤ 6 := e521 ▸ hW519.1 16
              refine .inl ⟨rfl, ?_⟩
              exact c_readLink_at_156p (X := X) (d := d) (Vs := Vs) (sb := sb) (pb := pb) (hvb := hvb) (c0 := c0) (c1 := c1) (G := G) (A := A) (T := T) (ln := ln) (le := le) (at0 := at0) (fk := fk) (tk0 := tk0) (sy := sy) (na := na) (li := li) (vi := vi) (lk0 := lk0) (hd := hd) (hW := hW) (e_ln := e_ln) (e_le := e_le) (e_at0 := e_at0) (e_fk := e_fk) (e_tk0 := e_tk0) (e_sy := e_sy) (e_na := e_na) (e_li := e_li) (e_vi := e_vi) (e_lk0 := e_lk0) (i_LT := i_LT) (i_SV := i_SV) (i_PQ := i_PQ) (p_0 := p_0) (p_1 := p_1) (p_2 := p_2) (p_3 := p_3) (p_4 := p_4) (p_5 := p_5) L G516 A517 (s) (at2_477) (tk2_478) (fk2_518) (sy1) (na1) gL_0 gL_1 hW519 hF524 hS525 hV526 hL527 (((hF520.1 10 rfl).trans (e482))) (((hF520.1 11 rfl).trans (e483))) ((e521)) (((hF520.1 19 rfl).trans ((hF481.1 19 rfl).trans (ex_sy1)))) (((hF520.1 28 rfl).trans ((hF481.1 28 rfl).trans (ex_na1)))) (((hF520.1 9 rfl).trans ((hF481.1 9 rfl).trans (fx_9)))) (((hF520.1 29 rfl).trans ((hF481.1 29 rfl).trans (fx_29)))) (((hF520.1 52 rfl).trans ((hF481.1 52 rfl).trans (fx_52)))) (by omega) (by omega) (by omega) (by omega) (by omega) (by omega)
  · have _q : True := trivial
    refine jx_vr (pc_q := 116) (as := [.int (i32 (0))]) (st := []) rfl rfl rfl rfl ⟨rfl, rfl, Nat.le_of_ble_eq_true rfl⟩ rfl rfl (c_need (dd := d) (hd := by omega) (hW := hWx) (g := 0) (ln := ln) (e_ln := show Gx 9 = ln from (fx_9)) (le := le) (e_le := show Ax 4 (ln).toNat = le from (congrFun (hFx.2 4 rfl) _).trans (e_le)) (at0 := at1) (e_at0 := show Gx 10 = at1 from (ex_at1)) (fk := fk1) (e_fk := show Gx 16 = fk1 from (ex_fk1)) (tk0 := tk1) (e_tk0 := show Gx 11 = tk1 from (ex_tk1))  (h_g := ⟨(by decide), (by decide)⟩)  (p_0 := by omega)) (fun o V_q hq => ?_)
    obtain ⟨G528, A529, at2_530, tk2_531, fk2_532, rfl, rfl, hW533, hF534, e535, e536, e537, p538, p539, q540⟩ := hq
    have hF541 := Fr_tr hFx hF534 (Fr_sub (by decide)) (Fr_sub (by decide))
    have hS542 := Fx_f hSx hF534 (by decide)
    have hV543 := Fx_f hVx hF534 (by decide)
    have hL544 := Fx_f hLx hF534 (by decide)
    have bat2_530 : (0 : Int) ≤ at2_530 ∧ at2_530 ≤ 3002 := e535 ▸ hW533.1 10
    have ztk2_531 := tz_b tk2_531
    have btk2_531 : (0 : Int) ≤ tk2_531 ∧ tk2_531 ≤ 5 := e536 ▸ hW533.1 11
    have bfk2_532 : (0 : Int) ≤ fk2_532 ∧ fk2_532 ≤ 6 := e537 ▸ hW533.1 16
    refine .inl ⟨rfl, ?_⟩
    rcases q540 with ⟨a545, a546, a547, a548⟩ | ⟨a549, a550, a551, a552⟩
    · have _q : True := trivial
      refine jx_ld (pc_q := 117) (l_q := L) (st_q := [.ref 66]) rfl (jl_aloadn gL_0) ?_
      refine jx_vr (pc_q := 120) (as := []) (st := []) rfl rfl rfl rfl ⟨rfl, rfl, Nat.le_of_ble_eq_true rfl⟩ rfl rfl (c_bad (dd := d) (hd := by omega) (hW := hW533)  (fk := fk2_532) (e_fk := show G528 16 = fk2_532 from (e537))    ) (fun o V_q hq => ?_)
      obtain ⟨r553, rfl, rfl, b554, q555⟩ := hq
      refine .inr ⟨_, rfl, ?_⟩
      rcases q555 with ⟨rfl, a556⟩ | ⟨rfl, a557⟩
      · have _q : True := trivial
        refine jx_if_ne (pc_q := 123) (tg := 156) rfl rfl rfl (by decide) (by decide) (fun h558 => ?_) (fun h558 => ?_)
        · have _q := h558
          exact c_readLink_at_156p (X := X) (d := d) (Vs := Vs) (sb := sb) (pb := pb) (hvb := hvb) (c0 := c0) (c1 := c1) (G := G) (A := A) (T := T) (ln := ln) (le := le) (at0 := at0) (fk := fk) (tk0 := tk0) (sy := sy) (na := na) (li := li) (vi := vi) (lk0 := lk0) (hd := hd) (hW := hW) (e_ln := e_ln) (e_le := e_le) (e_at0 := e_at0) (e_fk := e_fk) (e_tk0 := e_tk0) (e_sy := e_sy) (e_na := e_na) (e_li := e_li) (e_vi := e_vi) (e_lk0 := e_lk0) (i_LT := i_LT) (i_SV := i_SV) (i_PQ := i_PQ) (p_0 := p_0) (p_1 := p_1) (p_2 := p_2) (p_3 := p_3) (p_4 := p_4) (p_5 := p_5) L G528 A529 (s) (at2_530) (tk2_531) (fk2_532) (sy1) (na1) gL_0 gL_1 hW533 hF541 hS542 hV543 hL544 ((e535)) ((e536)) ((e537)) (((hF534.1 19 rfl).trans (ex_sy1))) (((hF534.1 28 rfl).trans (ex_na1))) (((hF534.1 9 rfl).trans (fx_9))) (((hF534.1 29 rfl).trans (fx_29))) (((hF534.1 52 rfl).trans (fx_52))) (by omega) (by omega) (by omega) (by omega) (by omega) (by omega)
        · have _q := h558
          exact absurd h558 (by omega)
      · have _q : True := trivial
        exfalso
        omega
    · have _q : True := trivial
      exfalso
      omega
set_option maxRecDepth 20000 in
set_option maxHeartbeats 4000000 in
theorem c_readLink_at_106p {X : jX} {d : Nat} {Vs : Nat → Prop} {sb pb : Int} (hvb : VB Vs sb) {c0 c1 : jC} {G : Nat → Int} {A : Nat → Nat → Int} {T : jH} {ln le at0 fk tk0 sy na li vi lk0 : Int} (hd : 8 ≤ d + 1) (hW : Wk G A) (e_ln : G 9 = ln) (e_le : A 4 (ln).toNat = le) (e_at0 : G 10 = at0) (e_fk : G 16 = fk) (e_tk0 : G 11 = tk0) (e_sy : G 19 = sy) (e_na : G 28 = na) (e_li : G 3 = li) (e_vi : G 29 = vi) (e_lk0 : G 52 = lk0) (i_LT : LT G A) (i_SV : SV Vs sb G A) (i_PQ : PQ Vs sb pb G A) (p_0 : fk = 0) (p_1 : ln < li) (p_2 : at0 ≤ le) (p_3 : sy ≤ na + 2) (p_4 : vi ≤ sy) (p_5 : sb ≤ sy) : ∀ (L : jL) (Gx : Nat → Int) (Ax : Nat → Nat → Int) (s at1 tk1 fk1 sy1 na1 : Int), jGet L 0 = some (.ref 66) → jGet L 1 = some (.int (i32 s)) → Wk Gx Ax → Fr [9, 10, 11, 12, 13, 14, 16, 17, 18, 19, 28, 29, 52] [6, 7, 8, 9, 10, 11, 12, 14, 34, 35] G A Gx Ax → Fx sr (sy) A Ax → Fx [14] (vi) A Ax → Fx [34, 35] (lk0) A Ax → Gx 10 = at1 → Gx 11 = tk1 → Gx 16 = fk1 → Gx 19 = sy1 → Gx 28 = na1 → Gx 9 = ln → Gx 29 = vi → Gx 52 = lk0 → ((-2147483648 : Int) ≤ s ∧ s ≤ 2147483647) → (1 ≤ fk1) → (at0 ≤ at1) → (at1 ≤ le) → (sy ≤ sy1) → (sy1 ≤ na1 + 2) → wj X d jm310 (106, L, [], rV c0 c1 Gx Ax T) (fun o V_q => ∃ (G_q : Nat → Int) (A_q : Nat → Nat → Int) (ln2 : Int) (at2 : Int) (fk2 : Int) (sy2 : Int) (na2 : Int) (vi2 : Int) (lk2 : Int), V_q = rV c0 c1 G_q A_q T ∧ o = .inl none ∧ Wk G_q A_q ∧ Fr [9, 10, 11, 12, 13, 14, 16, 17, 18, 19, 28, 29, 52] [6, 7, 8, 9, 10, 11, 12, 14, 34, 35] G A G_q A_q ∧ Fx sr (sy) A A_q ∧ Fx [14] (vi) A A_q ∧ Fx [34, 35] (lk0) A A_q ∧ G_q 9 = ln2 ∧ G_q 10 = at2 ∧ G_q 16 = fk2 ∧ G_q 19 = sy2 ∧ G_q 28 = na2 ∧ G_q 29 = vi2 ∧ G_q 52 = lk2 ∧ (at0 ≤ at2) ∧ (at2 ≤ le) ∧ (sy ≤ sy2) ∧ (sy2 ≤ na2 + 2) ∧ (vi2 ≤ sy2) ∧ (ln ≤ ln2) ∧ (ln2 ≤ li) ∧ (((1 ≤ fk2)) ∨ ((fk2 = 0) ∧ (ln2 = ln + 1) ∧ (sy2 = sy + 1) ∧ (vi2 = vi + 1) ∧ (lk2 = lk0 + 1) ∧ (SW (Vu Vs sy) (sy2) (vi2) A_q) ∧ (PQ (Vu Vs sy) (sy2) (pb) (fun _ => 0) A_q) ∧ (LK A_q (sy) (lk0))))) := by
  have hF0 : Fr [9, 10, 11, 12, 13, 14, 16, 17, 18, 19, 28, 29, 52] [6, 7, 8, 9, 10, 11, 12, 14, 34, 35] G A G A := Fr_rf
  have hS0 : Fx sr (sy) A A := Fx_rf
  have hV0 : Fx [14] (vi) A A := Fx_rf
  have hL0 : Fx [34, 35] (lk0) A A := Fx_rf
  have b_ln : (0 : Int) ≤ ln ∧ ln ≤ 3000 := e_ln ▸ hW.1 9
  have b_le : (0 : Int) ≤ le ∧ le ≤ 3000 := e_le ▸ hW.2 4 _
  have b_at0 : (0 : Int) ≤ at0 ∧ at0 ≤ 3002 := e_at0 ▸ hW.1 10
  have b_fk : (0 : Int) ≤ fk ∧ fk ≤ 6 := e_fk ▸ hW.1 16
  have b_tk0 : (0 : Int) ≤ tk0 ∧ tk0 ≤ 5 := e_tk0 ▸ hW.1 11
  have b_sy : (0 : Int) ≤ sy ∧ sy ≤ 202 := e_sy ▸ hW.1 19
  have b_na : (0 : Int) ≤ na ∧ na ≤ 200 := e_na ▸ hW.1 28
  have b_li : (0 : Int) ≤ li ∧ li ≤ 3000 := e_li ▸ hW.1 3
  have b_vi : (0 : Int) ≤ vi ∧ vi ≤ 202 := e_vi ▸ hW.1 29
  have b_lk0 : (0 : Int) ≤ lk0 ∧ lk0 ≤ 12 := e_lk0 ▸ hW.1 52
  intro L Gx Ax s at1 tk1 fk1 sy1 na1 gL_0 gL_1 hWx hFx hSx hVx hLx ex_at1 ex_tk1 ex_fk1 ex_sy1 ex_na1 fx_9 fx_29 fx_52 rx_s iv_0 iv_1 iv_2 iv_3 iv_4
  have b_at1 : (0 : Int) ≤ at1 ∧ at1 ≤ 3002 := ex_at1 ▸ hWx.1 10
  have b_tk1 : (0 : Int) ≤ tk1 ∧ tk1 ≤ 5 := ex_tk1 ▸ hWx.1 11
  have b_fk1 : (0 : Int) ≤ fk1 ∧ fk1 ≤ 6 := ex_fk1 ▸ hWx.1 16
  have b_sy1 : (0 : Int) ≤ sy1 ∧ sy1 ≤ 202 := ex_sy1 ▸ hWx.1 19
  have b_na1 : (0 : Int) ≤ na1 ∧ na1 ≤ 200 := ex_na1 ▸ hWx.1 28
  refine jx_ld (pc_q := 107) (l_q := L) (st_q := [.ref 66]) rfl (jl_aloadn gL_0) ?_
  refine jx_ld (pc_q := 108) (l_q := L) (st_q := [.ref 66, .ref 66]) rfl (jl_aloadn gL_0) ?_
  refine jx_ar (pc_q := 110) (st_q := [.int (i32 (23)), .ref 66, .ref 66]) rfl rfl rfl rfl ?_
  have b559 : (-2147483648 : Int) ≤ Gx 13 ∧ Gx 13 ≤ 2147483647 := hWx.1 13
  refine jx_vr (pc_q := 113) (as := [.int (i32 (23))]) (st := [.ref 66]) rfl rfl rfl rfl ⟨rfl, rfl, Nat.le_of_ble_eq_true rfl⟩ rfl rfl (c_isKey (dd := d) (hd := by omega) (hW := hWx) (k := 23) (tk := tk1) (e_tk := show Gx 11 = tk1 from (ex_tk1)) (tn := Gx 13) (e_tn := show Gx 13 = Gx 13 from rfl)  (h_k := ⟨(by decide), (by decide)⟩)  ) (fun o V_q hq => ?_)
  obtain ⟨r560, rfl, rfl, b561, q562⟩ := hq
  refine .inr ⟨_, rfl, ?_⟩
  rcases q562 with ⟨rfl, a563, a564, a565⟩ | rfl
  · have _q : True := trivial
    refine jx_vr (pc_q := 116) (as := [.int (i32 (1))]) (st := []) rfl rfl rfl rfl ⟨rfl, rfl, Nat.le_of_ble_eq_true rfl⟩ rfl rfl (c_need (dd := d) (hd := by omega) (hW := hWx) (g := 1) (ln := ln) (e_ln := show Gx 9 = ln from (fx_9)) (le := le) (e_le := show Ax 4 (ln).toNat = le from (congrFun (hFx.2 4 rfl) _).trans (e_le)) (at0 := at1) (e_at0 := show Gx 10 = at1 from (ex_at1)) (fk := fk1) (e_fk := show Gx 16 = fk1 from (ex_fk1)) (tk0 := tk1) (e_tk0 := show Gx 11 = tk1 from (ex_tk1))  (h_g := ⟨(by decide), (by decide)⟩)  (p_0 := by omega)) (fun o V_q hq => ?_)
    obtain ⟨G566, A567, at2_568, tk2_569, fk2_570, rfl, rfl, hW571, hF572, e573, e574, e575, p576, p577, q578⟩ := hq
    have hF579 := Fr_tr hFx hF572 (Fr_sub (by decide)) (Fr_sub (by decide))
    have hS580 := Fx_f hSx hF572 (by decide)
    have hV581 := Fx_f hVx hF572 (by decide)
    have hL582 := Fx_f hLx hF572 (by decide)
    have bat2_568 : (0 : Int) ≤ at2_568 ∧ at2_568 ≤ 3002 := e573 ▸ hW571.1 10
    have ztk2_569 := tz_b tk2_569
    have btk2_569 : (0 : Int) ≤ tk2_569 ∧ tk2_569 ≤ 5 := e574 ▸ hW571.1 11
    have bfk2_570 : (0 : Int) ≤ fk2_570 ∧ fk2_570 ≤ 6 := e575 ▸ hW571.1 16
    refine .inl ⟨rfl, ?_⟩
    rcases q578 with ⟨a583, a584, a585, a586⟩ | ⟨a587, a588, a589, a590⟩
    · have _q : True := trivial
      refine jx_ld (pc_q := 117) (l_q := L) (st_q := [.ref 66]) rfl (jl_aloadn gL_0) ?_
      refine jx_vr (pc_q := 120) (as := []) (st := []) rfl rfl rfl rfl ⟨rfl, rfl, Nat.le_of_ble_eq_true rfl⟩ rfl rfl (c_bad (dd := d) (hd := by omega) (hW := hW571)  (fk := fk2_570) (e_fk := show G566 16 = fk2_570 from (e575))    ) (fun o V_q hq => ?_)
      obtain ⟨r591, rfl, rfl, b592, q593⟩ := hq
      refine .inr ⟨_, rfl, ?_⟩
      rcases q593 with ⟨rfl, a594⟩ | ⟨rfl, a595⟩
      · have _q : True := trivial
        refine jx_if_ne (pc_q := 123) (tg := 156) rfl rfl rfl (by decide) (by decide) (fun h596 => ?_) (fun h596 => ?_)
        · have _q := h596
          exact c_readLink_at_156p (X := X) (d := d) (Vs := Vs) (sb := sb) (pb := pb) (hvb := hvb) (c0 := c0) (c1 := c1) (G := G) (A := A) (T := T) (ln := ln) (le := le) (at0 := at0) (fk := fk) (tk0 := tk0) (sy := sy) (na := na) (li := li) (vi := vi) (lk0 := lk0) (hd := hd) (hW := hW) (e_ln := e_ln) (e_le := e_le) (e_at0 := e_at0) (e_fk := e_fk) (e_tk0 := e_tk0) (e_sy := e_sy) (e_na := e_na) (e_li := e_li) (e_vi := e_vi) (e_lk0 := e_lk0) (i_LT := i_LT) (i_SV := i_SV) (i_PQ := i_PQ) (p_0 := p_0) (p_1 := p_1) (p_2 := p_2) (p_3 := p_3) (p_4 := p_4) (p_5 := p_5) L G566 A567 (s) (at2_568) (tk2_569) (fk2_570) (sy1) (na1) gL_0 gL_1 hW571 hF579 hS580 hV581 hL582 ((e573)) ((e574)) ((e575)) (((hF572.1 19 rfl).trans (ex_sy1))) (((hF572.1 28 rfl).trans (ex_na1))) (((hF572.1 9 rfl).trans (fx_9))) (((hF572.1 29 rfl).trans (fx_29))) (((hF572.1 52 rfl).trans (fx_52))) (by omega) (by omega) (by omega) (by omega) (by omega) (by omega)
        · have _q := h596
          exact absurd h596 (by omega)
      · have _q : True := trivial
        exfalso
        omega
    · have _q : True := trivial
      exfalso
      omega
  · have _q : True := trivial
    refine jx_vr (pc_q := 116) (as := [.int (i32 (0))]) (st := []) rfl rfl rfl rfl ⟨rfl, rfl, Nat.le_of_ble_eq_true rfl⟩ rfl rfl (c_need (dd := d) (hd := by omega) (hW := hWx) (g := 0) (ln := ln) (e_ln := show Gx 9 = ln from (fx_9)) (le := le) (e_le := show Ax 4 (ln).toNat = le from (congrFun (hFx.2 4 rfl) _).trans (e_le)) (at0 := at1) (e_at0 := show Gx 10 = at1 from (ex_at1)) (fk := fk1) (e_fk := show Gx 16 = fk1 from (ex_fk1)) (tk0 := tk1) (e_tk0 := show Gx 11 = tk1 from (ex_tk1))  (h_g := ⟨(by decide), (by decide)⟩)  (p_0 := by omega)) (fun o V_q hq => ?_)
    obtain ⟨G597, A598, at2_599, tk2_600, fk2_601, rfl, rfl, hW602, hF603, e604, e605, e606, p607, p608, q609⟩ := hq
    have hF610 := Fr_tr hFx hF603 (Fr_sub (by decide)) (Fr_sub (by decide))
    have hS611 := Fx_f hSx hF603 (by decide)
    have hV612 := Fx_f hVx hF603 (by decide)
    have hL613 := Fx_f hLx hF603 (by decide)
    have bat2_599 : (0 : Int) ≤ at2_599 ∧ at2_599 ≤ 3002 := e604 ▸ hW602.1 10
    have ztk2_600 := tz_b tk2_600
    have btk2_600 : (0 : Int) ≤ tk2_600 ∧ tk2_600 ≤ 5 := e605 ▸ hW602.1 11
    have bfk2_601 : (0 : Int) ≤ fk2_601 ∧ fk2_601 ≤ 6 := e606 ▸ hW602.1 16
    refine .inl ⟨rfl, ?_⟩
    rcases q609 with ⟨a614, a615, a616, a617⟩ | ⟨a618, a619, a620, a621⟩
    · have _q : True := trivial
      refine jx_ld (pc_q := 117) (l_q := L) (st_q := [.ref 66]) rfl (jl_aloadn gL_0) ?_
      refine jx_vr (pc_q := 120) (as := []) (st := []) rfl rfl rfl rfl ⟨rfl, rfl, Nat.le_of_ble_eq_true rfl⟩ rfl rfl (c_bad (dd := d) (hd := by omega) (hW := hW602)  (fk := fk2_601) (e_fk := show G597 16 = fk2_601 from (e606))    ) (fun o V_q hq => ?_)
      obtain ⟨r622, rfl, rfl, b623, q624⟩ := hq
      refine .inr ⟨_, rfl, ?_⟩
      rcases q624 with ⟨rfl, a625⟩ | ⟨rfl, a626⟩
      · have _q : True := trivial
        refine jx_if_ne (pc_q := 123) (tg := 156) rfl rfl rfl (by decide) (by decide) (fun h627 => ?_) (fun h627 => ?_)
        · have _q := h627
          exact c_readLink_at_156p (X := X) (d := d) (Vs := Vs) (sb := sb) (pb := pb) (hvb := hvb) (c0 := c0) (c1 := c1) (G := G) (A := A) (T := T) (ln := ln) (le := le) (at0 := at0) (fk := fk) (tk0 := tk0) (sy := sy) (na := na) (li := li) (vi := vi) (lk0 := lk0) (hd := hd) (hW := hW) (e_ln := e_ln) (e_le := e_le) (e_at0 := e_at0) (e_fk := e_fk) (e_tk0 := e_tk0) (e_sy := e_sy) (e_na := e_na) (e_li := e_li) (e_vi := e_vi) (e_lk0 := e_lk0) (i_LT := i_LT) (i_SV := i_SV) (i_PQ := i_PQ) (p_0 := p_0) (p_1 := p_1) (p_2 := p_2) (p_3 := p_3) (p_4 := p_4) (p_5 := p_5) L G597 A598 (s) (at2_599) (tk2_600) (fk2_601) (sy1) (na1) gL_0 gL_1 hW602 hF610 hS611 hV612 hL613 ((e604)) ((e605)) ((e606)) (((hF603.1 19 rfl).trans (ex_sy1))) (((hF603.1 28 rfl).trans (ex_na1))) (((hF603.1 9 rfl).trans (fx_9))) (((hF603.1 29 rfl).trans (fx_29))) (((hF603.1 52 rfl).trans (fx_52))) (by omega) (by omega) (by omega) (by omega) (by omega) (by omega)
        · have _q := h627
          exact absurd h627 (by omega)
      · have _q : True := trivial
        exfalso
        omega
    · have _q : True := trivial
      exfalso
      omega
set_option maxRecDepth 20000 in
set_option maxHeartbeats 4000000 in
theorem c_readLink_at_81 {X : jX} {d : Nat} {Vs : Nat → Prop} {sb pb : Int} (hvb : VB Vs sb) {c0 c1 : jC} {G : Nat → Int} {A : Nat → Nat → Int} {T : jH} {ln le at0 fk tk0 sy na li vi lk0 : Int} (hd : 8 ≤ d + 1) (hW : Wk G A) (e_ln : G 9 = ln) (e_le : A 4 (ln).toNat = le) (e_at0 : G 10 = at0) (e_fk : G 16 = fk) (e_tk0 : G 11 = tk0) (e_sy : G 19 = sy) (e_na : G 28 = na) (e_li : G 3 = li) (e_vi : G 29 = vi) (e_lk0 : G 52 = lk0) (i_LT : LT G A) (i_SV : SV Vs sb G A) (i_PQ : PQ Vs sb pb G A) (p_0 : fk = 0) (p_1 : ln < li) (p_2 : at0 ≤ le) (p_3 : sy ≤ na + 2) (p_4 : vi ≤ sy) (p_5 : sb ≤ sy) : ∀ (L : jL) (Gx : Nat → Int) (Ax : Nat → Nat → Int) (s at1 tk1 fk1 sy1 na1 tn1 kp1 : Int), jGet L 0 = some (.ref 66) → jGet L 1 = some (.int (i32 s)) → Wk Gx Ax → Fr [9, 10, 11, 12, 13, 14, 16, 17, 18, 19, 28, 29, 52] [6, 7, 8, 9, 10, 11, 12, 14, 34, 35] G A Gx Ax → Fx sr (sy) A Ax → Fx [14] (vi) A Ax → Fx [34, 35] (lk0) A Ax → Gx 10 = at1 → Gx 11 = tk1 → Gx 16 = fk1 → Gx 19 = sy1 → Gx 28 = na1 → Gx 13 = tn1 → Ax 7 (sy).toNat = kp1 → Gx 9 = ln → Gx 29 = vi → Gx 52 = lk0 → ((-2147483648 : Int) ≤ s ∧ s ≤ 2147483647) → (fk1 = 0) → (at0 ≤ at1) → (at1 ≤ le) → (sy1 = sy + 1) → (sy1 ≤ na1 + 2) → (s = sy) → (lk0 ≤ 11) → (kp1 = 11) → wj X d jm310 (81, L, [], rV c0 c1 Gx Ax T) (fun o V_q => ∃ (G_q : Nat → Int) (A_q : Nat → Nat → Int) (ln2 : Int) (at2 : Int) (fk2 : Int) (sy2 : Int) (na2 : Int) (vi2 : Int) (lk2 : Int), V_q = rV c0 c1 G_q A_q T ∧ o = .inl none ∧ Wk G_q A_q ∧ Fr [9, 10, 11, 12, 13, 14, 16, 17, 18, 19, 28, 29, 52] [6, 7, 8, 9, 10, 11, 12, 14, 34, 35] G A G_q A_q ∧ Fx sr (sy) A A_q ∧ Fx [14] (vi) A A_q ∧ Fx [34, 35] (lk0) A A_q ∧ G_q 9 = ln2 ∧ G_q 10 = at2 ∧ G_q 16 = fk2 ∧ G_q 19 = sy2 ∧ G_q 28 = na2 ∧ G_q 29 = vi2 ∧ G_q 52 = lk2 ∧ (at0 ≤ at2) ∧ (at2 ≤ le) ∧ (sy ≤ sy2) ∧ (sy2 ≤ na2 + 2) ∧ (vi2 ≤ sy2) ∧ (ln ≤ ln2) ∧ (ln2 ≤ li) ∧ (((1 ≤ fk2)) ∨ ((fk2 = 0) ∧ (ln2 = ln + 1) ∧ (sy2 = sy + 1) ∧ (vi2 = vi + 1) ∧ (lk2 = lk0 + 1) ∧ (SW (Vu Vs sy) (sy2) (vi2) A_q) ∧ (PQ (Vu Vs sy) (sy2) (pb) (fun _ => 0) A_q) ∧ (LK A_q (sy) (lk0))))) := by
  have hF0 : Fr [9, 10, 11, 12, 13, 14, 16, 17, 18, 19, 28, 29, 52] [6, 7, 8, 9, 10, 11, 12, 14, 34, 35] G A G A := Fr_rf
  have hS0 : Fx sr (sy) A A := Fx_rf
  have hV0 : Fx [14] (vi) A A := Fx_rf
  have hL0 : Fx [34, 35] (lk0) A A := Fx_rf
  have b_ln : (0 : Int) ≤ ln ∧ ln ≤ 3000 := e_ln ▸ hW.1 9
  have b_le : (0 : Int) ≤ le ∧ le ≤ 3000 := e_le ▸ hW.2 4 _
  have b_at0 : (0 : Int) ≤ at0 ∧ at0 ≤ 3002 := e_at0 ▸ hW.1 10
  have b_fk : (0 : Int) ≤ fk ∧ fk ≤ 6 := e_fk ▸ hW.1 16
  have b_tk0 : (0 : Int) ≤ tk0 ∧ tk0 ≤ 5 := e_tk0 ▸ hW.1 11
  have b_sy : (0 : Int) ≤ sy ∧ sy ≤ 202 := e_sy ▸ hW.1 19
  have b_na : (0 : Int) ≤ na ∧ na ≤ 200 := e_na ▸ hW.1 28
  have b_li : (0 : Int) ≤ li ∧ li ≤ 3000 := e_li ▸ hW.1 3
  have b_vi : (0 : Int) ≤ vi ∧ vi ≤ 202 := e_vi ▸ hW.1 29
  have b_lk0 : (0 : Int) ≤ lk0 ∧ lk0 ≤ 12 := e_lk0 ▸ hW.1 52
  intro L Gx Ax s at1 tk1 fk1 sy1 na1 tn1 kp1 gL_0 gL_1 hWx hFx hSx hVx hLx ex_at1 ex_tk1 ex_fk1 ex_sy1 ex_na1 ex_tn1 ex_kp1 fx_9 fx_29 fx_52 rx_s iv_0 iv_1 iv_2 iv_3 iv_4 iv_5 iv_6 iv_7
  have b_at1 : (0 : Int) ≤ at1 ∧ at1 ≤ 3002 := ex_at1 ▸ hWx.1 10
  have b_tk1 : (0 : Int) ≤ tk1 ∧ tk1 ≤ 5 := ex_tk1 ▸ hWx.1 11
  have b_fk1 : (0 : Int) ≤ fk1 ∧ fk1 ≤ 6 := ex_fk1 ▸ hWx.1 16
  have b_sy1 : (0 : Int) ≤ sy1 ∧ sy1 ≤ 202 := ex_sy1 ▸ hWx.1 19
  have b_na1 : (0 : Int) ≤ na1 ∧ na1 ≤ 200 := ex_na1 ▸ hWx.1 28
  have b_tn1 : (-2147483648 : Int) ≤ tn1 ∧ tn1 ≤ 2147483647 := ex_tn1 ▸ hWx.1 13
  refine jx_ld (pc_q := 82) (l_q := L) (st_q := [.ref 66]) rfl (jl_aloadn gL_0) ?_
  refine jx_ld (pc_q := 83) (l_q := L) (st_q := [.ref 66, .ref 66]) rfl (jl_aloadn gL_0) ?_
  refine jx_ar (pc_q := 85) (st_q := [.int (i32 (22)), .ref 66, .ref 66]) rfl rfl rfl rfl ?_
  refine jx_vr (pc_q := 88) (as := [.int (i32 (22))]) (st := [.ref 66]) rfl rfl rfl rfl ⟨rfl, rfl, Nat.le_of_ble_eq_true rfl⟩ rfl rfl (c_isKey (dd := d) (hd := by omega) (hW := hWx) (k := 22) (tk := tk1) (e_tk := show Gx 11 = tk1 from (ex_tk1)) (tn := tn1) (e_tn := show Gx 13 = tn1 from (ex_tn1))  (h_k := ⟨(by decide), (by decide)⟩)  ) (fun o V_q hq => ?_)
  obtain ⟨r628, rfl, rfl, b629, q630⟩ := hq
  refine .inr ⟨_, rfl, ?_⟩
  rcases q630 with ⟨rfl, a631, a632, a633⟩ | rfl
  · have _q : True := trivial
    refine jx_vr (pc_q := 91) (as := [.int (i32 (1))]) (st := []) rfl rfl rfl rfl ⟨rfl, rfl, Nat.le_of_ble_eq_true rfl⟩ rfl rfl (c_need (dd := d) (hd := by omega) (hW := hWx) (g := 1) (ln := ln) (e_ln := show Gx 9 = ln from (fx_9)) (le := le) (e_le := show Ax 4 (ln).toNat = le from (congrFun (hFx.2 4 rfl) _).trans (e_le)) (at0 := at1) (e_at0 := show Gx 10 = at1 from (ex_at1)) (fk := fk1) (e_fk := show Gx 16 = fk1 from (ex_fk1)) (tk0 := tk1) (e_tk0 := show Gx 11 = tk1 from (ex_tk1))  (h_g := ⟨(by decide), (by decide)⟩)  (p_0 := by omega)) (fun o V_q hq => ?_)
    obtain ⟨G634, A635, at2_636, tk2_637, fk2_638, rfl, rfl, hW639, hF640, e641, e642, e643, p644, p645, q646⟩ := hq
    have hF647 := Fr_tr hFx hF640 (Fr_sub (by decide)) (Fr_sub (by decide))
    have hS648 := Fx_f hSx hF640 (by decide)
    have hV649 := Fx_f hVx hF640 (by decide)
    have hL650 := Fx_f hLx hF640 (by decide)
    have bat2_636 : (0 : Int) ≤ at2_636 ∧ at2_636 ≤ 3002 := e641 ▸ hW639.1 10
    have ztk2_637 := tz_b tk2_637
    have btk2_637 : (0 : Int) ≤ tk2_637 ∧ tk2_637 ≤ 5 := e642 ▸ hW639.1 11
    have bfk2_638 : (0 : Int) ≤ fk2_638 ∧ fk2_638 ≤ 6 := e643 ▸ hW639.1 16
    refine .inl ⟨rfl, ?_⟩
    rcases q646 with ⟨a651, a652, a653, a654⟩ | ⟨a655, a656, a657, a658⟩
    · have _q : True := trivial
      refine jx_ld (pc_q := 92) (l_q := L) (st_q := [.ref 66]) rfl (jl_aloadn gL_0) ?_
      refine jr_get (pc_q := 95) (i := 53) (v := .ref 101) rfl rfl (by decide) rfl rfl ?_
      refine jx_ld (pc_q := 96) (l_q := L) (st_q := [.ref 66, .ref 101]) rfl (jl_aloadn gL_0) ?_
      refine jr_get (pc_q := 99) (i := 52) (v := .int (i32 (lk0))) rfl rfl (by decide) (rFv_eq (by decide) (show G634 52 = lk0 from ((hF640.1 52 rfl).trans (fx_52)))) rfl ?_
      refine jx_ld (pc_q := 100) (l_q := L) (st_q := [.ref 66, .int (i32 (lk0)), .ref 101]) rfl (jl_aloadn gL_0) ?_
      refine jx_ar (pc_q := 101) (st_q := [.int (i32 (0)), .ref 66, .int (i32 (lk0)), .ref 101]) rfl rfl rfl rfl ?_
      refine jx_ar (pc_q := 102) (st_q := [.int (i32 (5)), .int (i32 (0)), .ref 66, .int (i32 (lk0)), .ref 101]) rfl rfl rfl rfl ?_
      have b659 : (-2147483648 : Int) ≤ G634 13 ∧ G634 13 ≤ 2147483647 := hW639.1 13
      refine jx_vr (pc_q := 105) (as := [.int (i32 (0)), .int (i32 (5))]) (st := [.int (i32 (lk0)), .ref 101]) rfl rfl rfl rfl ⟨rfl, rfl, Nat.le_of_ble_eq_true rfl⟩ rfl rfl (c_needNumber2 (dd := d) (hd := by omega) (hW := hW639) (lo := 0) (hi := 5) (ln := ln) (e_ln := show G634 9 = ln from ((hF640.1 9 rfl).trans (fx_9))) (le := le) (e_le := show A635 4 (ln).toNat = le from (congrFun ((hF640.2 4 rfl).trans (hFx.2 4 rfl)) _).trans (e_le)) (at0 := at2_636) (e_at0 := show G634 10 = at2_636 from (e641)) (fk := fk2_638) (e_fk := show G634 16 = fk2_638 from (e643)) (tk0 := tk2_637) (e_tk0 := show G634 11 = tk2_637 from (e642)) (tn := G634 13) (e_tn := show G634 13 = G634 13 from rfl)  (h_lo := ⟨(by decide), (by decide)⟩) (h_hi := ⟨(by decide), (by decide)⟩)  (p_0 := by omega)) (fun o V_q hq => ?_)
      obtain ⟨G660, A661, r662, at2_663, tk2_664, fk2_665, rfl, rfl, hW666, hF667, b668, e669, e670, e671, p672, p673, q674⟩ := hq
      have hF675 := Fr_tr hF647 hF667 (Fr_sub (by decide)) (Fr_sub (by decide))
      have hS676 := Fx_f hS648 hF667 (by decide)
      have hV677 := Fx_f hV649 hF667 (by decide)
      have hL678 := Fx_f hL650 hF667 (by decide)
      have bat2_663 : (0 : Int) ≤ at2_663 ∧ at2_663 ≤ 3002 := e669 ▸ hW666.1 10
      have ztk2_664 := tz_b tk2_664
      have btk2_664 : (0 : Int) ≤ tk2_664 ∧ tk2_664 ≤ 5 := e670 ▸ hW666.1 11
      have bfk2_665 : (0 : Int) ≤ fk2_665 ∧ fk2_665 ≤ 6 := e671 ▸ hW666.1 16
      refine .inr ⟨_, rfl, ?_⟩
      rcases q674 with ⟨a679, a680, a681, a682⟩ | ⟨a683, a684, a685, a686, a687, a688, a689⟩
      · have _q : True := trivial
        refine jr_st (pc_q := 106) (i := 34) (m := 13) (z := lk0) (y := r662) rfl (by decide) rfl (by decide) (by omega) (by omega) rfl ?_
        have hW691 : Wk G660 (uA A661 34 (lk0).toNat (r662)) := Wk_a hW666 (show (-2147483648 : Int) ≤ r662 by omega) (show r662 ≤ (2147483647 : Int) by omega)
        have hF692 := Fr_a (z := r662) (k := 34) (n := (lk0).toNat) hF675 (by decide)
        obtain ⟨A690, eA690⟩ : ∃ q, q = uA A661 34 (lk0).toNat (r662) := ⟨_, rfl⟩
        rw [← eA690]
        rw [← eA690] at hW691 hF692
        have q693 : A690 34 (lk0).toNat = r662 := by rw [eA690]; exact uA_eq
        have hS694 : Fx sr (sy) A A690 := eA690 ▸ Fx_n hS676 rfl
        have hV695 : Fx [14] (vi) A A690 := eA690 ▸ Fx_n hV677 rfl
        have hL696 : Fx [34, 35] (lk0) A A690 := eA690 ▸ Fx_a hL678 (z := lk0) (by omega) (by omega)
        exact c_readLink_at_106p (X := X) (d := d) (Vs := Vs) (sb := sb) (pb := pb) (hvb := hvb) (c0 := c0) (c1 := c1) (G := G) (A := A) (T := T) (ln := ln) (le := le) (at0 := at0) (fk := fk) (tk0 := tk0) (sy := sy) (na := na) (li := li) (vi := vi) (lk0 := lk0) (hd := hd) (hW := hW) (e_ln := e_ln) (e_le := e_le) (e_at0 := e_at0) (e_fk := e_fk) (e_tk0 := e_tk0) (e_sy := e_sy) (e_na := e_na) (e_li := e_li) (e_vi := e_vi) (e_lk0 := e_lk0) (i_LT := i_LT) (i_SV := i_SV) (i_PQ := i_PQ) (p_0 := p_0) (p_1 := p_1) (p_2 := p_2) (p_3 := p_3) (p_4 := p_4) (p_5 := p_5) L G660 A690 (s) (at2_663) (tk2_664) (fk2_665) (sy1) (na1) gL_0 gL_1 hW691 hF692 hS694 hV695 hL696 ((e669)) ((e670)) ((e671)) (((hF667.1 19 rfl).trans ((hF640.1 19 rfl).trans (ex_sy1)))) (((hF667.1 28 rfl).trans ((hF640.1 28 rfl).trans (ex_na1)))) (((hF667.1 9 rfl).trans ((hF640.1 9 rfl).trans (fx_9)))) (((hF667.1 29 rfl).trans ((hF640.1 29 rfl).trans (fx_29)))) (((hF667.1 52 rfl).trans ((hF640.1 52 rfl).trans (fx_52)))) (by omega) (by omega) (by omega) (by omega) (by omega) (by omega)
      · have _q : True := trivial
        exfalso
        omega
    · have _q : True := trivial
      refine jx_ld (pc_q := 92) (l_q := L) (st_q := [.ref 66]) rfl (jl_aloadn gL_0) ?_
      refine jr_get (pc_q := 95) (i := 53) (v := .ref 101) rfl rfl (by decide) rfl rfl ?_
      refine jx_ld (pc_q := 96) (l_q := L) (st_q := [.ref 66, .ref 101]) rfl (jl_aloadn gL_0) ?_
      refine jr_get (pc_q := 99) (i := 52) (v := .int (i32 (lk0))) rfl rfl (by decide) (rFv_eq (by decide) (show G634 52 = lk0 from ((hF640.1 52 rfl).trans (fx_52)))) rfl ?_
      refine jx_ld (pc_q := 100) (l_q := L) (st_q := [.ref 66, .int (i32 (lk0)), .ref 101]) rfl (jl_aloadn gL_0) ?_
      refine jx_ar (pc_q := 101) (st_q := [.int (i32 (0)), .ref 66, .int (i32 (lk0)), .ref 101]) rfl rfl rfl rfl ?_
      refine jx_ar (pc_q := 102) (st_q := [.int (i32 (5)), .int (i32 (0)), .ref 66, .int (i32 (lk0)), .ref 101]) rfl rfl rfl rfl ?_
      have b697 : (-2147483648 : Int) ≤ G634 13 ∧ G634 13 ≤ 2147483647 := hW639.1 13
      refine jx_vr (pc_q := 105) (as := [.int (i32 (0)), .int (i32 (5))]) (st := [.int (i32 (lk0)), .ref 101]) rfl rfl rfl rfl ⟨rfl, rfl, Nat.le_of_ble_eq_true rfl⟩ rfl rfl (c_needNumber2 (dd := d) (hd := by omega) (hW := hW639) (lo := 0) (hi := 5) (ln := ln) (e_ln := show G634 9 = ln from ((hF640.1 9 rfl).trans (fx_9))) (le := le) (e_le := show A635 4 (ln).toNat = le from (congrFun ((hF640.2 4 rfl).trans (hFx.2 4 rfl)) _).trans (e_le)) (at0 := at2_636) (e_at0 := show G634 10 = at2_636 from (e641)) (fk := fk2_638) (e_fk := show G634 16 = fk2_638 from (e643)) (tk0 := tk2_637) (e_tk0 := show G634 11 = tk2_637 from (e642)) (tn := G634 13) (e_tn := show G634 13 = G634 13 from rfl)  (h_lo := ⟨(by decide), (by decide)⟩) (h_hi := ⟨(by decide), (by decide)⟩)  (p_0 := by omega)) (fun o V_q hq => ?_)
      obtain ⟨G698, A699, r700, at2_701, tk2_702, fk2_703, rfl, rfl, hW704, hF705, b706, e707, e708, e709, p710, p711, q712⟩ := hq
      have hF713 := Fr_tr hF647 hF705 (Fr_sub (by decide)) (Fr_sub (by decide))
      have hS714 := Fx_f hS648 hF705 (by decide)
      have hV715 := Fx_f hV649 hF705 (by decide)
      have hL716 := Fx_f hL650 hF705 (by decide)
      have bat2_701 : (0 : Int) ≤ at2_701 ∧ at2_701 ≤ 3002 := e707 ▸ hW704.1 10
      have ztk2_702 := tz_b tk2_702
      have btk2_702 : (0 : Int) ≤ tk2_702 ∧ tk2_702 ≤ 5 := e708 ▸ hW704.1 11
      have bfk2_703 : (0 : Int) ≤ fk2_703 ∧ fk2_703 ≤ 6 := e709 ▸ hW704.1 16
      refine .inr ⟨_, rfl, ?_⟩
      rcases q712 with ⟨a717, a718, a719, a720⟩ | ⟨a721, a722, a723, a724, a725, a726, a727⟩
      · have _q : True := trivial
        refine jr_st (pc_q := 106) (i := 34) (m := 13) (z := lk0) (y := r700) rfl (by decide) rfl (by decide) (by omega) (by omega) rfl ?_
        have hW729 : Wk G698 (uA A699 34 (lk0).toNat (r700)) := Wk_a hW704 (show (-2147483648 : Int) ≤ r700 by omega) (show r700 ≤ (2147483647 : Int) by omega)
        have hF730 := Fr_a (z := r700) (k := 34) (n := (lk0).toNat) hF713 (by decide)
        obtain ⟨A728, eA728⟩ : ∃ q, q = uA A699 34 (lk0).toNat (r700) := ⟨_, rfl⟩
        rw [← eA728]
        rw [← eA728] at hW729 hF730
        have q731 : A728 34 (lk0).toNat = r700 := by rw [eA728]; exact uA_eq
        have hS732 : Fx sr (sy) A A728 := eA728 ▸ Fx_n hS714 rfl
        have hV733 : Fx [14] (vi) A A728 := eA728 ▸ Fx_n hV715 rfl
        have hL734 : Fx [34, 35] (lk0) A A728 := eA728 ▸ Fx_a hL716 (z := lk0) (by omega) (by omega)
        exact c_readLink_at_106p (X := X) (d := d) (Vs := Vs) (sb := sb) (pb := pb) (hvb := hvb) (c0 := c0) (c1 := c1) (G := G) (A := A) (T := T) (ln := ln) (le := le) (at0 := at0) (fk := fk) (tk0 := tk0) (sy := sy) (na := na) (li := li) (vi := vi) (lk0 := lk0) (hd := hd) (hW := hW) (e_ln := e_ln) (e_le := e_le) (e_at0 := e_at0) (e_fk := e_fk) (e_tk0 := e_tk0) (e_sy := e_sy) (e_na := e_na) (e_li := e_li) (e_vi := e_vi) (e_lk0 := e_lk0) (i_LT := i_LT) (i_SV := i_SV) (i_PQ := i_PQ) (p_0 := p_0) (p_1 := p_1) (p_2 := p_2) (p_3 := p_3) (p_4 := p_4) (p_5 := p_5) L G698 A728 (s) (at2_701) (tk2_702) (fk2_703) (sy1) (na1) gL_0 gL_1 hW729 hF730 hS732 hV733 hL734 ((e707)) ((e708)) ((e709)) (((hF705.1 19 rfl).trans ((hF640.1 19 rfl).trans (ex_sy1)))) (((hF705.1 28 rfl).trans ((hF640.1 28 rfl).trans (ex_na1)))) (((hF705.1 9 rfl).trans ((hF640.1 9 rfl).trans (fx_9)))) (((hF705.1 29 rfl).trans ((hF640.1 29 rfl).trans (fx_29)))) (((hF705.1 52 rfl).trans ((hF640.1 52 rfl).trans (fx_52)))) (by omega) (by omega) (by omega) (by omega) (by omega) (by omega)
      · have _q : True := trivial
        refine jr_st (pc_q := 106) (i := 34) (m := 13) (z := lk0) (y := r700) rfl (by decide) rfl (by decide) (by omega) (by omega) rfl ?_
        have hW736 : Wk G698 (uA A699 34 (lk0).toNat (r700)) := Wk_a hW704 (show (-2147483648 : Int) ≤ r700 by omega) (show r700 ≤ (2147483647 : Int) by omega)
        have hF737 := Fr_a (z := r700) (k := 34) (n := (lk0).toNat) hF713 (by decide)
        obtain ⟨A735, eA735⟩ : ∃ q, q = uA A699 34 (lk0).toNat (r700) := ⟨_, rfl⟩
        rw [← eA735]
        rw [← eA735] at hW736 hF737
        have q738 : A735 34 (lk0).toNat = r700 := by rw [eA735]; exact uA_eq
        have hS739 : Fx sr (sy) A A735 := eA735 ▸ Fx_n hS714 rfl
        have hV740 : Fx [14] (vi) A A735 := eA735 ▸ Fx_n hV715 rfl
        have hL741 : Fx [34, 35] (lk0) A A735 := eA735 ▸ Fx_a hL716 (z := lk0) (by omega) (by omega)
        exact c_readLink_at_106 (X := X) (d := d) (Vs := Vs) (sb := sb) (pb := pb) (hvb := hvb) (c0 := c0) (c1 := c1) (G := G) (A := A) (T := T) (ln := ln) (le := le) (at0 := at0) (fk := fk) (tk0 := tk0) (sy := sy) (na := na) (li := li) (vi := vi) (lk0 := lk0) (hd := hd) (hW := hW) (e_ln := e_ln) (e_le := e_le) (e_at0 := e_at0) (e_fk := e_fk) (e_tk0 := e_tk0) (e_sy := e_sy) (e_na := e_na) (e_li := e_li) (e_vi := e_vi) (e_lk0 := e_lk0) (i_LT := i_LT) (i_SV := i_SV) (i_PQ := i_PQ) (p_0 := p_0) (p_1 := p_1) (p_2 := p_2) (p_3 := p_3) (p_4 := p_4) (p_5 := p_5) L G698 A735 (s) (at2_701) (tk2_702) (fk2_703) (sy1) (na1) (G698 13) (kp1) (r700) gL_0 gL_1 hW736 hF737 hS739 hV740 hL741 ((e707)) ((e708)) ((e709)) (((hF705.1 19 rfl).trans ((hF640.1 19 rfl).trans (ex_sy1)))) (((hF705.1 28 rfl).trans ((hF640.1 28 rfl).trans (ex_na1)))) (rfl) ((congrFun (((congrFun eA735 7).trans (uA_ne (by decide))).trans ((hF705.2 7 rfl).trans (hF640.2 7 rfl))) _).trans (ex_kp1)) ((q738)) (((hF705.1 9 rfl).trans ((hF640.1 9 rfl).trans (fx_9)))) (((hF705.1 29 rfl).trans ((hF640.1 29 rfl).trans (fx_29)))) (((hF705.1 52 rfl).trans ((hF640.1 52 rfl).trans (fx_52)))) (by omega) (by omega) (by omega) (by omega) (by omega) (by omega) (by omega) (by omega) (by omega) (by omega)
  · have _q : True := trivial
    refine jx_vr (pc_q := 91) (as := [.int (i32 (0))]) (st := []) rfl rfl rfl rfl ⟨rfl, rfl, Nat.le_of_ble_eq_true rfl⟩ rfl rfl (c_need (dd := d) (hd := by omega) (hW := hWx) (g := 0) (ln := ln) (e_ln := show Gx 9 = ln from (fx_9)) (le := le) (e_le := show Ax 4 (ln).toNat = le from (congrFun (hFx.2 4 rfl) _).trans (e_le)) (at0 := at1) (e_at0 := show Gx 10 = at1 from (ex_at1)) (fk := fk1) (e_fk := show Gx 16 = fk1 from (ex_fk1)) (tk0 := tk1) (e_tk0 := show Gx 11 = tk1 from (ex_tk1))  (h_g := ⟨(by decide), (by decide)⟩)  (p_0 := by omega)) (fun o V_q hq => ?_)
    obtain ⟨G742, A743, at2_744, tk2_745, fk2_746, rfl, rfl, hW747, hF748, e749, e750, e751, p752, p753, q754⟩ := hq
    have hF755 := Fr_tr hFx hF748 (Fr_sub (by decide)) (Fr_sub (by decide))
    have hS756 := Fx_f hSx hF748 (by decide)
    have hV757 := Fx_f hVx hF748 (by decide)
    have hL758 := Fx_f hLx hF748 (by decide)
    have bat2_744 : (0 : Int) ≤ at2_744 ∧ at2_744 ≤ 3002 := e749 ▸ hW747.1 10
    have ztk2_745 := tz_b tk2_745
    have btk2_745 : (0 : Int) ≤ tk2_745 ∧ tk2_745 ≤ 5 := e750 ▸ hW747.1 11
    have bfk2_746 : (0 : Int) ≤ fk2_746 ∧ fk2_746 ≤ 6 := e751 ▸ hW747.1 16
    refine .inl ⟨rfl, ?_⟩
    rcases q754 with ⟨a759, a760, a761, a762⟩ | ⟨a763, a764, a765, a766⟩
    · have _q : True := trivial
      refine jx_ld (pc_q := 92) (l_q := L) (st_q := [.ref 66]) rfl (jl_aloadn gL_0) ?_
      refine jr_get (pc_q := 95) (i := 53) (v := .ref 101) rfl rfl (by decide) rfl rfl ?_
      refine jx_ld (pc_q := 96) (l_q := L) (st_q := [.ref 66, .ref 101]) rfl (jl_aloadn gL_0) ?_
      refine jr_get (pc_q := 99) (i := 52) (v := .int (i32 (lk0))) rfl rfl (by decide) (rFv_eq (by decide) (show G742 52 = lk0 from ((hF748.1 52 rfl).trans (fx_52)))) rfl ?_
      refine jx_ld (pc_q := 100) (l_q := L) (st_q := [.ref 66, .int (i32 (lk0)), .ref 101]) rfl (jl_aloadn gL_0) ?_
      refine jx_ar (pc_q := 101) (st_q := [.int (i32 (0)), .ref 66, .int (i32 (lk0)), .ref 101]) rfl rfl rfl rfl ?_
      refine jx_ar (pc_q := 102) (st_q := [.int (i32 (5)), .int (i32 (0)), .ref 66, .int (i32 (lk0)), .ref 101]) rfl rfl rfl rfl ?_
      have b767 : (-2147483648 : Int) ≤ G742 13 ∧ G742 13 ≤ 2147483647 := hW747.1 13
      refine jx_vr (pc_q := 105) (as := [.int (i32 (0)), .int (i32 (5))]) (st := [.int (i32 (lk0)), .ref 101]) rfl rfl rfl rfl ⟨rfl, rfl, Nat.le_of_ble_eq_true rfl⟩ rfl rfl (c_needNumber2 (dd := d) (hd := by omega) (hW := hW747) (lo := 0) (hi := 5) (ln := ln) (e_ln := show G742 9 = ln from ((hF748.1 9 rfl).trans (fx_9))) (le := le) (e_le := show A743 4 (ln).toNat = le from (congrFun ((hF748.2 4 rfl).trans (hFx.2 4 rfl)) _).trans (e_le)) (at0 := at2_744) (e_at0 := show G742 10 = at2_744 from (e749)) (fk := fk2_746) (e_fk := show G742 16 = fk2_746 from (e751)) (tk0 := tk2_745) (e_tk0 := show G742 11 = tk2_745 from (e750)) (tn := G742 13) (e_tn := show G742 13 = G742 13 from rfl)  (h_lo := ⟨(by decide), (by decide)⟩) (h_hi := ⟨(by decide), (by decide)⟩)  (p_0 := by omega)) (fun o V_q hq => ?_)
      obtain ⟨G768, A769, r770, at2_771, tk2_772, fk2_773, rfl, rfl, hW774, hF775, b776, e777, e778, e779, p780, p781, q782⟩ := hq
      have hF783 := Fr_tr hF755 hF775 (Fr_sub (by decide)) (Fr_sub (by decide))
      have hS784 := Fx_f hS756 hF775 (by decide)
      have hV785 := Fx_f hV757 hF775 (by decide)
      have hL786 := Fx_f hL758 hF775 (by decide)
      have bat2_771 : (0 : Int) ≤ at2_771 ∧ at2_771 ≤ 3002 := e777 ▸ hW774.1 10
      have ztk2_772 := tz_b tk2_772
      have btk2_772 : (0 : Int) ≤ tk2_772 ∧ tk2_772 ≤ 5 := e778 ▸ hW774.1 11
      have bfk2_773 : (0 : Int) ≤ fk2_773 ∧ fk2_773 ≤ 6 := e779 ▸ hW774.1 16
      refine .inr ⟨_, rfl, ?_⟩
      rcases q782 with ⟨a787, a788, a789, a790⟩ | ⟨a791, a792, a793, a794, a795, a796, a797⟩
      · have _q : True := trivial
        refine jr_st (pc_q := 106) (i := 34) (m := 13) (z := lk0) (y := r770) rfl (by decide) rfl (by decide) (by omega) (by omega) rfl ?_
        have hW799 : Wk G768 (uA A769 34 (lk0).toNat (r770)) := Wk_a hW774 (show (-2147483648 : Int) ≤ r770 by omega) (show r770 ≤ (2147483647 : Int) by omega)
        have hF800 := Fr_a (z := r770) (k := 34) (n := (lk0).toNat) hF783 (by decide)
        obtain ⟨A798, eA798⟩ : ∃ q, q = uA A769 34 (lk0).toNat (r770) := ⟨_, rfl⟩
        rw [← eA798]
        rw [← eA798] at hW799 hF800
        have q801 : A798 34 (lk0).toNat = r770 := by rw [eA798]; exact uA_eq
        have hS802 : Fx sr (sy) A A798 := eA798 ▸ Fx_n hS784 rfl
        have hV803 : Fx [14] (vi) A A798 := eA798 ▸ Fx_n hV785 rfl
        have hL804 : Fx [34, 35] (lk0) A A798 := eA798 ▸ Fx_a hL786 (z := lk0) (by omega) (by omega)
        exact c_readLink_at_106p (X := X) (d := d) (Vs := Vs) (sb := sb) (pb := pb) (hvb := hvb) (c0 := c0) (c1 := c1) (G := G) (A := A) (T := T) (ln := ln) (le := le) (at0 := at0) (fk := fk) (tk0 := tk0) (sy := sy) (na := na) (li := li) (vi := vi) (lk0 := lk0) (hd := hd) (hW := hW) (e_ln := e_ln) (e_le := e_le) (e_at0 := e_at0) (e_fk := e_fk) (e_tk0 := e_tk0) (e_sy := e_sy) (e_na := e_na) (e_li := e_li) (e_vi := e_vi) (e_lk0 := e_lk0) (i_LT := i_LT) (i_SV := i_SV) (i_PQ := i_PQ) (p_0 := p_0) (p_1 := p_1) (p_2 := p_2) (p_3 := p_3) (p_4 := p_4) (p_5 := p_5) L G768 A798 (s) (at2_771) (tk2_772) (fk2_773) (sy1) (na1) gL_0 gL_1 hW799 hF800 hS802 hV803 hL804 ((e777)) ((e778)) ((e779)) (((hF775.1 19 rfl).trans ((hF748.1 19 rfl).trans (ex_sy1)))) (((hF775.1 28 rfl).trans ((hF748.1 28 rfl).trans (ex_na1)))) (((hF775.1 9 rfl).trans ((hF748.1 9 rfl).trans (fx_9)))) (((hF775.1 29 rfl).trans ((hF748.1 29 rfl).trans (fx_29)))) (((hF775.1 52 rfl).trans ((hF748.1 52 rfl).trans (fx_52)))) (by omega) (by omega) (by omega) (by omega) (by omega) (by omega)
      · have _q : True := trivial
        exfalso
        omega
    · have _q : True := trivial
      exfalso
      omega
set_option maxRecDepth 20000 in
set_option maxHeartbeats 4000000 in
theorem c_readLink_at_81p {X : jX} {d : Nat} {Vs : Nat → Prop} {sb pb : Int} (hvb : VB Vs sb) {c0 c1 : jC} {G : Nat → Int} {A : Nat → Nat → Int} {T : jH} {ln le at0 fk tk0 sy na li vi lk0 : Int} (hd : 8 ≤ d + 1) (hW : Wk G A) (e_ln : G 9 = ln) (e_le : A 4 (ln).toNat = le) (e_at0 : G 10 = at0) (e_fk : G 16 = fk) (e_tk0 : G 11 = tk0) (e_sy : G 19 = sy) (e_na : G 28 = na) (e_li : G 3 = li) (e_vi : G 29 = vi) (e_lk0 : G 52 = lk0) (i_LT : LT G A) (i_SV : SV Vs sb G A) (i_PQ : PQ Vs sb pb G A) (p_0 : fk = 0) (p_1 : ln < li) (p_2 : at0 ≤ le) (p_3 : sy ≤ na + 2) (p_4 : vi ≤ sy) (p_5 : sb ≤ sy) : ∀ (L : jL) (Gx : Nat → Int) (Ax : Nat → Nat → Int) (s at1 tk1 fk1 sy1 na1 : Int), jGet L 0 = some (.ref 66) → jGet L 1 = some (.int (i32 s)) → Wk Gx Ax → Fr [9, 10, 11, 12, 13, 14, 16, 17, 18, 19, 28, 29, 52] [6, 7, 8, 9, 10, 11, 12, 14, 34, 35] G A Gx Ax → Fx sr (sy) A Ax → Fx [14] (vi) A Ax → Fx [34, 35] (lk0) A Ax → Gx 10 = at1 → Gx 11 = tk1 → Gx 16 = fk1 → Gx 19 = sy1 → Gx 28 = na1 → Gx 9 = ln → Gx 29 = vi → Gx 52 = lk0 → ((-2147483648 : Int) ≤ s ∧ s ≤ 2147483647) → (1 ≤ fk1) → (at0 ≤ at1) → (at1 ≤ le) → (sy ≤ sy1) → (sy1 ≤ na1 + 2) → wj X d jm310 (81, L, [], rV c0 c1 Gx Ax T) (fun o V_q => ∃ (G_q : Nat → Int) (A_q : Nat → Nat → Int) (ln2 : Int) (at2 : Int) (fk2 : Int) (sy2 : Int) (na2 : Int) (vi2 : Int) (lk2 : Int), V_q = rV c0 c1 G_q A_q T ∧ o = .inl none ∧ Wk G_q A_q ∧ Fr [9, 10, 11, 12, 13, 14, 16, 17, 18, 19, 28, 29, 52] [6, 7, 8, 9, 10, 11, 12, 14, 34, 35] G A G_q A_q ∧ Fx sr (sy) A A_q ∧ Fx [14] (vi) A A_q ∧ Fx [34, 35] (lk0) A A_q ∧ G_q 9 = ln2 ∧ G_q 10 = at2 ∧ G_q 16 = fk2 ∧ G_q 19 = sy2 ∧ G_q 28 = na2 ∧ G_q 29 = vi2 ∧ G_q 52 = lk2 ∧ (at0 ≤ at2) ∧ (at2 ≤ le) ∧ (sy ≤ sy2) ∧ (sy2 ≤ na2 + 2) ∧ (vi2 ≤ sy2) ∧ (ln ≤ ln2) ∧ (ln2 ≤ li) ∧ (((1 ≤ fk2)) ∨ ((fk2 = 0) ∧ (ln2 = ln + 1) ∧ (sy2 = sy + 1) ∧ (vi2 = vi + 1) ∧ (lk2 = lk0 + 1) ∧ (SW (Vu Vs sy) (sy2) (vi2) A_q) ∧ (PQ (Vu Vs sy) (sy2) (pb) (fun _ => 0) A_q) ∧ (LK A_q (sy) (lk0))))) := by
  have hF0 : Fr [9, 10, 11, 12, 13, 14, 16, 17, 18, 19, 28, 29, 52] [6, 7, 8, 9, 10, 11, 12, 14, 34, 35] G A G A := Fr_rf
  have hS0 : Fx sr (sy) A A := Fx_rf
  have hV0 : Fx [14] (vi) A A := Fx_rf
  have hL0 : Fx [34, 35] (lk0) A A := Fx_rf
  have b_ln : (0 : Int) ≤ ln ∧ ln ≤ 3000 := e_ln ▸ hW.1 9
  have b_le : (0 : Int) ≤ le ∧ le ≤ 3000 := e_le ▸ hW.2 4 _
  have b_at0 : (0 : Int) ≤ at0 ∧ at0 ≤ 3002 := e_at0 ▸ hW.1 10
  have b_fk : (0 : Int) ≤ fk ∧ fk ≤ 6 := e_fk ▸ hW.1 16
  have b_tk0 : (0 : Int) ≤ tk0 ∧ tk0 ≤ 5 := e_tk0 ▸ hW.1 11
  have b_sy : (0 : Int) ≤ sy ∧ sy ≤ 202 := e_sy ▸ hW.1 19
  have b_na : (0 : Int) ≤ na ∧ na ≤ 200 := e_na ▸ hW.1 28
  have b_li : (0 : Int) ≤ li ∧ li ≤ 3000 := e_li ▸ hW.1 3
  have b_vi : (0 : Int) ≤ vi ∧ vi ≤ 202 := e_vi ▸ hW.1 29
  have b_lk0 : (0 : Int) ≤ lk0 ∧ lk0 ≤ 12 := e_lk0 ▸ hW.1 52
  intro L Gx Ax s at1 tk1 fk1 sy1 na1 gL_0 gL_1 hWx hFx hSx hVx hLx ex_at1 ex_tk1 ex_fk1 ex_sy1 ex_na1 fx_9 fx_29 fx_52 rx_s iv_0 iv_1 iv_2 iv_3 iv_4
  have b_at1 : (0 : Int) ≤ at1 ∧ at1 ≤ 3002 := ex_at1 ▸ hWx.1 10
  have b_tk1 : (0 : Int) ≤ tk1 ∧ tk1 ≤ 5 := ex_tk1 ▸ hWx.1 11
  have b_fk1 : (0 : Int) ≤ fk1 ∧ fk1 ≤ 6 := ex_fk1 ▸ hWx.1 16
  have b_sy1 : (0 : Int) ≤ sy1 ∧ sy1 ≤ 202 := ex_sy1 ▸ hWx.1 19
  have b_na1 : (0 : Int) ≤ na1 ∧ na1 ≤ 200 := ex_na1 ▸ hWx.1 28
  refine jx_ld (pc_q := 82) (l_q := L) (st_q := [.ref 66]) rfl (jl_aloadn gL_0) ?_
  refine jx_ld (pc_q := 83) (l_q := L) (st_q := [.ref 66, .ref 66]) rfl (jl_aloadn gL_0) ?_
  refine jx_ar (pc_q := 85) (st_q := [.int (i32 (22)), .ref 66, .ref 66]) rfl rfl rfl rfl ?_
  have b805 : (-2147483648 : Int) ≤ Gx 13 ∧ Gx 13 ≤ 2147483647 := hWx.1 13
  refine jx_vr (pc_q := 88) (as := [.int (i32 (22))]) (st := [.ref 66]) rfl rfl rfl rfl ⟨rfl, rfl, Nat.le_of_ble_eq_true rfl⟩ rfl rfl (c_isKey (dd := d) (hd := by omega) (hW := hWx) (k := 22) (tk := tk1) (e_tk := show Gx 11 = tk1 from (ex_tk1)) (tn := Gx 13) (e_tn := show Gx 13 = Gx 13 from rfl)  (h_k := ⟨(by decide), (by decide)⟩)  ) (fun o V_q hq => ?_)
  obtain ⟨r806, rfl, rfl, b807, q808⟩ := hq
  refine .inr ⟨_, rfl, ?_⟩
  rcases q808 with ⟨rfl, a809, a810, a811⟩ | rfl
  · have _q : True := trivial
    refine jx_vr (pc_q := 91) (as := [.int (i32 (1))]) (st := []) rfl rfl rfl rfl ⟨rfl, rfl, Nat.le_of_ble_eq_true rfl⟩ rfl rfl (c_need (dd := d) (hd := by omega) (hW := hWx) (g := 1) (ln := ln) (e_ln := show Gx 9 = ln from (fx_9)) (le := le) (e_le := show Ax 4 (ln).toNat = le from (congrFun (hFx.2 4 rfl) _).trans (e_le)) (at0 := at1) (e_at0 := show Gx 10 = at1 from (ex_at1)) (fk := fk1) (e_fk := show Gx 16 = fk1 from (ex_fk1)) (tk0 := tk1) (e_tk0 := show Gx 11 = tk1 from (ex_tk1))  (h_g := ⟨(by decide), (by decide)⟩)  (p_0 := by omega)) (fun o V_q hq => ?_)
    obtain ⟨G812, A813, at2_814, tk2_815, fk2_816, rfl, rfl, hW817, hF818, e819, e820, e821, p822, p823, q824⟩ := hq
    have hF825 := Fr_tr hFx hF818 (Fr_sub (by decide)) (Fr_sub (by decide))
    have hS826 := Fx_f hSx hF818 (by decide)
    have hV827 := Fx_f hVx hF818 (by decide)
    have hL828 := Fx_f hLx hF818 (by decide)
    have bat2_814 : (0 : Int) ≤ at2_814 ∧ at2_814 ≤ 3002 := e819 ▸ hW817.1 10
    have ztk2_815 := tz_b tk2_815
    have btk2_815 : (0 : Int) ≤ tk2_815 ∧ tk2_815 ≤ 5 := e820 ▸ hW817.1 11
    have bfk2_816 : (0 : Int) ≤ fk2_816 ∧ fk2_816 ≤ 6 := e821 ▸ hW817.1 16
    refine .inl ⟨rfl, ?_⟩
    rcases q824 with ⟨a829, a830, a831, a832⟩ | ⟨a833, a834, a835, a836⟩
    · have _q : True := trivial
      refine jx_ld (pc_q := 92) (l_q := L) (st_q := [.ref 66]) rfl (jl_aloadn gL_0) ?_
      refine jr_get (pc_q := 95) (i := 53) (v := .ref 101) rfl rfl (by decide) rfl rfl ?_
      refine jx_ld (pc_q := 96) (l_q := L) (st_q := [.ref 66, .ref 101]) rfl (jl_aloadn gL_0) ?_
      refine jr_get (pc_q := 99) (i := 52) (v := .int (i32 (lk0))) rfl rfl (by decide) (rFv_eq (by decide) (show G812 52 = lk0 from ((hF818.1 52 rfl).trans (fx_52)))) rfl ?_
      refine jx_ld (pc_q := 100) (l_q := L) (st_q := [.ref 66, .int (i32 (lk0)), .ref 101]) rfl (jl_aloadn gL_0) ?_
      refine jx_ar (pc_q := 101) (st_q := [.int (i32 (0)), .ref 66, .int (i32 (lk0)), .ref 101]) rfl rfl rfl rfl ?_
      refine jx_ar (pc_q := 102) (st_q := [.int (i32 (5)), .int (i32 (0)), .ref 66, .int (i32 (lk0)), .ref 101]) rfl rfl rfl rfl ?_
      have b837 : (-2147483648 : Int) ≤ G812 13 ∧ G812 13 ≤ 2147483647 := hW817.1 13
      refine jx_vr (pc_q := 105) (as := [.int (i32 (0)), .int (i32 (5))]) (st := [.int (i32 (lk0)), .ref 101]) rfl rfl rfl rfl ⟨rfl, rfl, Nat.le_of_ble_eq_true rfl⟩ rfl rfl (c_needNumber2 (dd := d) (hd := by omega) (hW := hW817) (lo := 0) (hi := 5) (ln := ln) (e_ln := show G812 9 = ln from ((hF818.1 9 rfl).trans (fx_9))) (le := le) (e_le := show A813 4 (ln).toNat = le from (congrFun ((hF818.2 4 rfl).trans (hFx.2 4 rfl)) _).trans (e_le)) (at0 := at2_814) (e_at0 := show G812 10 = at2_814 from (e819)) (fk := fk2_816) (e_fk := show G812 16 = fk2_816 from (e821)) (tk0 := tk2_815) (e_tk0 := show G812 11 = tk2_815 from (e820)) (tn := G812 13) (e_tn := show G812 13 = G812 13 from rfl)  (h_lo := ⟨(by decide), (by decide)⟩) (h_hi := ⟨(by decide), (by decide)⟩)  (p_0 := by omega)) (fun o V_q hq => ?_)
      obtain ⟨G838, A839, r840, at2_841, tk2_842, fk2_843, rfl, rfl, hW844, hF845, b846, e847, e848, e849, p850, p851, q852⟩ := hq
      have hF853 := Fr_tr hF825 hF845 (Fr_sub (by decide)) (Fr_sub (by decide))
      have hS854 := Fx_f hS826 hF845 (by decide)
      have hV855 := Fx_f hV827 hF845 (by decide)
      have hL856 := Fx_f hL828 hF845 (by decide)
      have bat2_841 : (0 : Int) ≤ at2_841 ∧ at2_841 ≤ 3002 := e847 ▸ hW844.1 10
      have ztk2_842 := tz_b tk2_842
      have btk2_842 : (0 : Int) ≤ tk2_842 ∧ tk2_842 ≤ 5 := e848 ▸ hW844.1 11
      have bfk2_843 : (0 : Int) ≤ fk2_843 ∧ fk2_843 ≤ 6 := e849 ▸ hW844.1 16
      refine .inr ⟨_, rfl, ?_⟩
      rcases q852 with ⟨a857, a858, a859, a860⟩ | ⟨a861, a862, a863, a864, a865, a866, a867⟩
      · have _q : True := trivial
        refine jr_st (pc_q := 106) (i := 34) (m := 13) (z := lk0) (y := r840) rfl (by decide) rfl (by decide) (by omega) (by omega) rfl ?_
        have hW869 : Wk G838 (uA A839 34 (lk0).toNat (r840)) := Wk_a hW844 (show (-2147483648 : Int) ≤ r840 by omega) (show r840 ≤ (2147483647 : Int) by omega)
        have hF870 := Fr_a (z := r840) (k := 34) (n := (lk0).toNat) hF853 (by decide)
        obtain ⟨A868, eA868⟩ : ∃ q, q = uA A839 34 (lk0).toNat (r840) := ⟨_, rfl⟩
        rw [← eA868]
        rw [← eA868] at hW869 hF870
        have q871 : A868 34 (lk0).toNat = r840 := by rw [eA868]; exact uA_eq
        have hS872 : Fx sr (sy) A A868 := eA868 ▸ Fx_n hS854 rfl
        have hV873 : Fx [14] (vi) A A868 := eA868 ▸ Fx_n hV855 rfl
        have hL874 : Fx [34, 35] (lk0) A A868 := eA868 ▸ Fx_a hL856 (z := lk0) (by omega) (by omega)
        exact c_readLink_at_106p (X := X) (d := d) (Vs := Vs) (sb := sb) (pb := pb) (hvb := hvb) (c0 := c0) (c1 := c1) (G := G) (A := A) (T := T) (ln := ln) (le := le) (at0 := at0) (fk := fk) (tk0 := tk0) (sy := sy) (na := na) (li := li) (vi := vi) (lk0 := lk0) (hd := hd) (hW := hW) (e_ln := e_ln) (e_le := e_le) (e_at0 := e_at0) (e_fk := e_fk) (e_tk0 := e_tk0) (e_sy := e_sy) (e_na := e_na) (e_li := e_li) (e_vi := e_vi) (e_lk0 := e_lk0) (i_LT := i_LT) (i_SV := i_SV) (i_PQ := i_PQ) (p_0 := p_0) (p_1 := p_1) (p_2 := p_2) (p_3 := p_3) (p_4 := p_4) (p_5 := p_5) L G838 A868 (s) (at2_841) (tk2_842) (fk2_843) (sy1) (na1) gL_0 gL_1 hW869 hF870 hS872 hV873 hL874 ((e847)) ((e848)) ((e849)) (((hF845.1 19 rfl).trans ((hF818.1 19 rfl).trans (ex_sy1)))) (((hF845.1 28 rfl).trans ((hF818.1 28 rfl).trans (ex_na1)))) (((hF845.1 9 rfl).trans ((hF818.1 9 rfl).trans (fx_9)))) (((hF845.1 29 rfl).trans ((hF818.1 29 rfl).trans (fx_29)))) (((hF845.1 52 rfl).trans ((hF818.1 52 rfl).trans (fx_52)))) (by omega) (by omega) (by omega) (by omega) (by omega) (by omega)
      · have _q : True := trivial
        exfalso
        omega
    · have _q : True := trivial
      exfalso
      omega
  · have _q : True := trivial
    refine jx_vr (pc_q := 91) (as := [.int (i32 (0))]) (st := []) rfl rfl rfl rfl ⟨rfl, rfl, Nat.le_of_ble_eq_true rfl⟩ rfl rfl (c_need (dd := d) (hd := by omega) (hW := hWx) (g := 0) (ln := ln) (e_ln := show Gx 9 = ln from (fx_9)) (le := le) (e_le := show Ax 4 (ln).toNat = le from (congrFun (hFx.2 4 rfl) _).trans (e_le)) (at0 := at1) (e_at0 := show Gx 10 = at1 from (ex_at1)) (fk := fk1) (e_fk := show Gx 16 = fk1 from (ex_fk1)) (tk0 := tk1) (e_tk0 := show Gx 11 = tk1 from (ex_tk1))  (h_g := ⟨(by decide), (by decide)⟩)  (p_0 := by omega)) (fun o V_q hq => ?_)
    obtain ⟨G875, A876, at2_877, tk2_878, fk2_879, rfl, rfl, hW880, hF881, e882, e883, e884, p885, p886, q887⟩ := hq
    have hF888 := Fr_tr hFx hF881 (Fr_sub (by decide)) (Fr_sub (by decide))
    have hS889 := Fx_f hSx hF881 (by decide)
    have hV890 := Fx_f hVx hF881 (by decide)
    have hL891 := Fx_f hLx hF881 (by decide)
    have bat2_877 : (0 : Int) ≤ at2_877 ∧ at2_877 ≤ 3002 := e882 ▸ hW880.1 10
    have ztk2_878 := tz_b tk2_878
    have btk2_878 : (0 : Int) ≤ tk2_878 ∧ tk2_878 ≤ 5 := e883 ▸ hW880.1 11
    have bfk2_879 : (0 : Int) ≤ fk2_879 ∧ fk2_879 ≤ 6 := e884 ▸ hW880.1 16
    refine .inl ⟨rfl, ?_⟩
    rcases q887 with ⟨a892, a893, a894, a895⟩ | ⟨a896, a897, a898, a899⟩
    · have _q : True := trivial
      refine jx_ld (pc_q := 92) (l_q := L) (st_q := [.ref 66]) rfl (jl_aloadn gL_0) ?_
      refine jr_get (pc_q := 95) (i := 53) (v := .ref 101) rfl rfl (by decide) rfl rfl ?_
      refine jx_ld (pc_q := 96) (l_q := L) (st_q := [.ref 66, .ref 101]) rfl (jl_aloadn gL_0) ?_
      refine jr_get (pc_q := 99) (i := 52) (v := .int (i32 (lk0))) rfl rfl (by decide) (rFv_eq (by decide) (show G875 52 = lk0 from ((hF881.1 52 rfl).trans (fx_52)))) rfl ?_
      refine jx_ld (pc_q := 100) (l_q := L) (st_q := [.ref 66, .int (i32 (lk0)), .ref 101]) rfl (jl_aloadn gL_0) ?_
      refine jx_ar (pc_q := 101) (st_q := [.int (i32 (0)), .ref 66, .int (i32 (lk0)), .ref 101]) rfl rfl rfl rfl ?_
      refine jx_ar (pc_q := 102) (st_q := [.int (i32 (5)), .int (i32 (0)), .ref 66, .int (i32 (lk0)), .ref 101]) rfl rfl rfl rfl ?_
      have b900 : (-2147483648 : Int) ≤ G875 13 ∧ G875 13 ≤ 2147483647 := hW880.1 13
      refine jx_vr (pc_q := 105) (as := [.int (i32 (0)), .int (i32 (5))]) (st := [.int (i32 (lk0)), .ref 101]) rfl rfl rfl rfl ⟨rfl, rfl, Nat.le_of_ble_eq_true rfl⟩ rfl rfl (c_needNumber2 (dd := d) (hd := by omega) (hW := hW880) (lo := 0) (hi := 5) (ln := ln) (e_ln := show G875 9 = ln from ((hF881.1 9 rfl).trans (fx_9))) (le := le) (e_le := show A876 4 (ln).toNat = le from (congrFun ((hF881.2 4 rfl).trans (hFx.2 4 rfl)) _).trans (e_le)) (at0 := at2_877) (e_at0 := show G875 10 = at2_877 from (e882)) (fk := fk2_879) (e_fk := show G875 16 = fk2_879 from (e884)) (tk0 := tk2_878) (e_tk0 := show G875 11 = tk2_878 from (e883)) (tn := G875 13) (e_tn := show G875 13 = G875 13 from rfl)  (h_lo := ⟨(by decide), (by decide)⟩) (h_hi := ⟨(by decide), (by decide)⟩)  (p_0 := by omega)) (fun o V_q hq => ?_)
      obtain ⟨G901, A902, r903, at2_904, tk2_905, fk2_906, rfl, rfl, hW907, hF908, b909, e910, e911, e912, p913, p914, q915⟩ := hq
      have hF916 := Fr_tr hF888 hF908 (Fr_sub (by decide)) (Fr_sub (by decide))
      have hS917 := Fx_f hS889 hF908 (by decide)
      have hV918 := Fx_f hV890 hF908 (by decide)
      have hL919 := Fx_f hL891 hF908 (by decide)
      have bat2_904 : (0 : Int) ≤ at2_904 ∧ at2_904 ≤ 3002 := e910 ▸ hW907.1 10
      have ztk2_905 := tz_b tk2_905
      have btk2_905 : (0 : Int) ≤ tk2_905 ∧ tk2_905 ≤ 5 := e911 ▸ hW907.1 11
      have bfk2_906 : (0 : Int) ≤ fk2_906 ∧ fk2_906 ≤ 6 := e912 ▸ hW907.1 16
      refine .inr ⟨_, rfl, ?_⟩
      rcases q915 with ⟨a920, a921, a922, a923⟩ | ⟨a924, a925, a926, a927, a928, a929, a930⟩
      · have _q : True := trivial
        refine jr_st (pc_q := 106) (i := 34) (m := 13) (z := lk0) (y := r903) rfl (by decide) rfl (by decide) (by omega) (by omega) rfl ?_
        have hW932 : Wk G901 (uA A902 34 (lk0).toNat (r903)) := Wk_a hW907 (show (-2147483648 : Int) ≤ r903 by omega) (show r903 ≤ (2147483647 : Int) by omega)
        have hF933 := Fr_a (z := r903) (k := 34) (n := (lk0).toNat) hF916 (by decide)
        obtain ⟨A931, eA931⟩ : ∃ q, q = uA A902 34 (lk0).toNat (r903) := ⟨_, rfl⟩
        rw [← eA931]
        rw [← eA931] at hW932 hF933
        have q934 : A931 34 (lk0).toNat = r903 := by rw [eA931]; exact uA_eq
        have hS935 : Fx sr (sy) A A931 := eA931 ▸ Fx_n hS917 rfl
        have hV936 : Fx [14] (vi) A A931 := eA931 ▸ Fx_n hV918 rfl
        have hL937 : Fx [34, 35] (lk0) A A931 := eA931 ▸ Fx_a hL919 (z := lk0) (by omega) (by omega)
        exact c_readLink_at_106p (X := X) (d := d) (Vs := Vs) (sb := sb) (pb := pb) (hvb := hvb) (c0 := c0) (c1 := c1) (G := G) (A := A) (T := T) (ln := ln) (le := le) (at0 := at0) (fk := fk) (tk0 := tk0) (sy := sy) (na := na) (li := li) (vi := vi) (lk0 := lk0) (hd := hd) (hW := hW) (e_ln := e_ln) (e_le := e_le) (e_at0 := e_at0) (e_fk := e_fk) (e_tk0 := e_tk0) (e_sy := e_sy) (e_na := e_na) (e_li := e_li) (e_vi := e_vi) (e_lk0 := e_lk0) (i_LT := i_LT) (i_SV := i_SV) (i_PQ := i_PQ) (p_0 := p_0) (p_1 := p_1) (p_2 := p_2) (p_3 := p_3) (p_4 := p_4) (p_5 := p_5) L G901 A931 (s) (at2_904) (tk2_905) (fk2_906) (sy1) (na1) gL_0 gL_1 hW932 hF933 hS935 hV936 hL937 ((e910)) ((e911)) ((e912)) (((hF908.1 19 rfl).trans ((hF881.1 19 rfl).trans (ex_sy1)))) (((hF908.1 28 rfl).trans ((hF881.1 28 rfl).trans (ex_na1)))) (((hF908.1 9 rfl).trans ((hF881.1 9 rfl).trans (fx_9)))) (((hF908.1 29 rfl).trans ((hF881.1 29 rfl).trans (fx_29)))) (((hF908.1 52 rfl).trans ((hF881.1 52 rfl).trans (fx_52)))) (by omega) (by omega) (by omega) (by omega) (by omega) (by omega)
      · have _q : True := trivial
        exfalso
        omega
    · have _q : True := trivial
      exfalso
      omega
set_option maxRecDepth 20000 in
set_option maxHeartbeats 4000000 in
theorem c_readLink {X : jX} {dd : Nat} {Vs : Nat → Prop} {sb pb : Int} (hvb : VB Vs sb) {c0 c1 : jC} {G : Nat → Int} {A : Nat → Nat → Int} {T : jH} {ln le at0 fk tk0 sy na li vi lk0 : Int} (hd : 8 ≤ dd) (hW : Wk G A) (e_ln : G 9 = ln) (e_le : A 4 (ln).toNat = le) (e_at0 : G 10 = at0) (e_fk : G 16 = fk) (e_tk0 : G 11 = tk0) (e_sy : G 19 = sy) (e_na : G 28 = na) (e_li : G 3 = li) (e_vi : G 29 = vi) (e_lk0 : G 52 = lk0) (i_LT : LT G A) (i_SV : SV Vs sb G A) (i_PQ : PQ Vs sb pb G A) (p_0 : fk = 0) (p_1 : ln < li) (p_2 : at0 ≤ le) (p_3 : sy ≤ na + 2) (p_4 : vi ≤ sy) (p_5 : sb ≤ sy) : wk X dd 310 [.ref 66] (rV c0 c1 G A T) (fun o V_q => ∃ (G_q : Nat → Int) (A_q : Nat → Nat → Int) (ln2 : Int) (at2 : Int) (fk2 : Int) (sy2 : Int) (na2 : Int) (vi2 : Int) (lk2 : Int), V_q = rV c0 c1 G_q A_q T ∧ o = .inl none ∧ Wk G_q A_q ∧ Fr [9, 10, 11, 12, 13, 14, 16, 17, 18, 19, 28, 29, 52] [6, 7, 8, 9, 10, 11, 12, 14, 34, 35] G A G_q A_q ∧ Fx sr (sy) A A_q ∧ Fx [14] (vi) A A_q ∧ Fx [34, 35] (lk0) A A_q ∧ G_q 9 = ln2 ∧ G_q 10 = at2 ∧ G_q 16 = fk2 ∧ G_q 19 = sy2 ∧ G_q 28 = na2 ∧ G_q 29 = vi2 ∧ G_q 52 = lk2 ∧ (at0 ≤ at2) ∧ (at2 ≤ le) ∧ (sy ≤ sy2) ∧ (sy2 ≤ na2 + 2) ∧ (vi2 ≤ sy2) ∧ (ln ≤ ln2) ∧ (ln2 ≤ li) ∧ (((1 ≤ fk2)) ∨ ((fk2 = 0) ∧ (ln2 = ln + 1) ∧ (sy2 = sy + 1) ∧ (vi2 = vi + 1) ∧ (lk2 = lk0 + 1) ∧ (SW (Vu Vs sy) (sy2) (vi2) A_q) ∧ (PQ (Vu Vs sy) (sy2) (pb) (fun _ => 0) A_q) ∧ (LK A_q (sy) (lk0))))) := by
  obtain ⟨d, rfl⟩ : ∃ d, dd = d + 1 := ⟨dd - 1, by omega⟩
  refine wk_of (e := jm310) rfl (Nat.le_of_ble_eq_true rfl) ?_
  show wj X d jm310 (0, [(0, .ref 66)], [], rV c0 c1 G A T) _
  have hF0 : Fr [9, 10, 11, 12, 13, 14, 16, 17, 18, 19, 28, 29, 52] [6, 7, 8, 9, 10, 11, 12, 14, 34, 35] G A G A := Fr_rf
  have hS0 : Fx sr (sy) A A := Fx_rf
  have hV0 : Fx [14] (vi) A A := Fx_rf
  have hL0 : Fx [34, 35] (lk0) A A := Fx_rf
  have b_ln : (0 : Int) ≤ ln ∧ ln ≤ 3000 := e_ln ▸ hW.1 9
  have b_le : (0 : Int) ≤ le ∧ le ≤ 3000 := e_le ▸ hW.2 4 _
  have b_at0 : (0 : Int) ≤ at0 ∧ at0 ≤ 3002 := e_at0 ▸ hW.1 10
  have b_fk : (0 : Int) ≤ fk ∧ fk ≤ 6 := e_fk ▸ hW.1 16
  have b_tk0 : (0 : Int) ≤ tk0 ∧ tk0 ≤ 5 := e_tk0 ▸ hW.1 11
  have b_sy : (0 : Int) ≤ sy ∧ sy ≤ 202 := e_sy ▸ hW.1 19
  have b_na : (0 : Int) ≤ na ∧ na ≤ 200 := e_na ▸ hW.1 28
  have b_li : (0 : Int) ≤ li ∧ li ≤ 3000 := e_li ▸ hW.1 3
  have b_vi : (0 : Int) ≤ vi ∧ vi ≤ 202 := e_vi ▸ hW.1 29
  have b_lk0 : (0 : Int) ≤ lk0 ∧ lk0 ≤ 12 := e_lk0 ▸ hW.1 52
  refine jx_ld (pc_q := 1) (l_q := [(0, .ref 66)]) (st_q := [.ref 66]) rfl (jl_aloadn rfl) ?_
  refine jx_vr (pc_q := 4) (as := []) (st := []) rfl rfl rfl rfl ⟨rfl, rfl, Nat.le_of_ble_eq_true rfl⟩ rfl rfl (c_next (dd := d) (hd := by omega) (hW := hW)  (ln := ln) (e_ln := show G 9 = ln from (e_ln)) (le := le) (e_le := show A 4 (ln).toNat = le from (e_le)) (at0 := at0) (e_at0 := show G 10 = at0 from (e_at0))    (p_0 := by omega)) (fun o V_q hq => ?_)
  obtain ⟨G938, A939, at2_940, tk2_941, rfl, rfl, hW942, hF943, e944, e945, p946, p947, p948, -⟩ := hq
  have hF950 := Fr_tr hF0 hF943 (Fr_sub (by decide)) (Fr_sub (by decide))
  have hS951 := Fx_f hS0 hF943 (by decide)
  have hV952 := Fx_f hV0 hF943 (by decide)
  have hL953 := Fx_f hL0 hF943 (by decide)
  have bat2_940 : (0 : Int) ≤ at2_940 ∧ at2_940 ≤ 3002 := e944 ▸ hW942.1 10
  have ztk2_941 := tz_b tk2_941
  have btk2_941 : (0 : Int) ≤ tk2_941 ∧ tk2_941 ≤ 5 := e945 ▸ hW942.1 11
  refine .inl ⟨rfl, ?_⟩
  refine jx_ld (pc_q := 5) (l_q := [(0, .ref 66)]) (st_q := [.ref 66]) rfl (jl_aloadn rfl) ?_
  refine jr_get (pc_q := 8) (i := 11) (v := .int (i32 (tk2_941))) rfl rfl (by decide) (rFv_eq (by decide) (show G938 11 = tk2_941 from (e945))) rfl ?_
  refine jx_ar (pc_q := 9) (st_q := [.int (i32 (1)), .int (i32 (tk2_941))]) rfl rfl rfl rfl ?_
  refine jx_icmp_eq (pc_q := 12) (tg := 22) rfl rfl rfl (Int.le_trans (by decide : (-2147483648 : Int) ≤ 0) btk2_941.1) (Int.le_trans btk2_941.2 (by decide : (5 : Int) ≤ 2147483647)) (by decide) (by decide) (fun h954 => ?_) (fun h954 => ?_)
  · have _q := h954
    refine jx_ld (pc_q := 23) (l_q := [(0, .ref 66)]) (st_q := [.ref 66]) rfl (jl_aloadn rfl) ?_
    refine jx_ld (pc_q := 24) (l_q := [(0, .ref 66)]) (st_q := [.ref 66, .ref 66]) rfl (jl_aloadn rfl) ?_
    refine jr_get (pc_q := 27) (i := 14) (v := .long (i64 (G938 14))) rfl rfl (by decide) rfl rfl ?_
    obtain ⟨y955, ey955⟩ : ∃ q : Int64, q = i64 (G938 14) := ⟨_, rfl⟩
    rw [← ey955]
    refine jx_vr (pc_q := 30) (as := [.long (y955)]) (st := []) rfl rfl rfl rfl ⟨rfl, rfl, Nat.le_of_ble_eq_true rfl⟩ rfl rfl (c_isTaken (dd := d) (hd := by omega) (hW := hW942) (nm := y955) (sy := sy) (e_sy := show G938 19 = sy from ((hF943.1 19 rfl).trans (e_sy)))    ) (fun o V_q hq => ?_)
    obtain ⟨r956, rfl, rfl, b957, -⟩ := hq
    refine .inr ⟨_, rfl, ?_⟩
    refine jx_if_eq (pc_q := 33) (tg := 42) rfl rfl rfl (Int.le_trans (by decide : (-2147483648 : Int) ≤ 0) b957.1) (Int.le_trans b957.2 (by decide : (1 : Int) ≤ 2147483647)) (fun h959 => ?_) (fun h959 => ?_)
    · have _q := h959
      refine jx_ld (pc_q := 43) (l_q := [(0, .ref 66)]) (st_q := [.ref 66]) rfl (jl_aloadn rfl) ?_
      refine jx_vr (pc_q := 46) (as := []) (st := []) rfl rfl rfl rfl ⟨rfl, rfl, Nat.le_of_ble_eq_true rfl⟩ rfl rfl (c_bad (dd := d) (hd := by omega) (hW := hW942)  (fk := fk) (e_fk := show G938 16 = fk from ((hF943.1 16 rfl).trans (e_fk)))    ) (fun o V_q hq => ?_)
      obtain ⟨r960, rfl, rfl, b961, q962⟩ := hq
      refine .inr ⟨_, rfl, ?_⟩
      rcases q962 with ⟨rfl, a963⟩ | ⟨rfl, a964⟩
      · have _q : True := trivial
        exfalso
        omega
      · have _q : True := trivial
        refine jx_if_ne (pc_q := 49) (tg := 68) rfl rfl rfl (by decide) (by decide) (fun h965 => ?_) (fun h965 => ?_)
        · have _q := h965
          exact absurd h965 (by omega)
        · have _q := h965
          refine jx_ld (pc_q := 50) (l_q := [(0, .ref 66)]) (st_q := [.ref 66]) rfl (jl_aloadn rfl) ?_
          refine jr_get (pc_q := 53) (i := 52) (v := .int (i32 (lk0))) rfl rfl (by decide) (rFv_eq (by decide) (show G938 52 = lk0 from ((hF943.1 52 rfl).trans (e_lk0)))) rfl ?_
          refine jx_ar (pc_q := 55) (st_q := [.int (i32 (12)), .int (i32 (lk0))]) rfl rfl rfl rfl ?_
          refine jx_icmp_ne (pc_q := 58) (tg := 68) rfl rfl rfl (Int.le_trans (by decide : (-2147483648 : Int) ≤ 0) b_lk0.1) (Int.le_trans b_lk0.2 (by decide : (12 : Int) ≤ 2147483647)) (by decide) (by decide) (fun h966 => ?_) (fun h966 => ?_)
          · have _q := h966
            refine jx_ld (pc_q := 69) (l_q := [(0, .ref 66)]) (st_q := [.ref 66]) rfl (jl_aloadn rfl) ?_
            refine jx_ar (pc_q := 71) (st_q := [.int (i32 (11)), .ref 66]) rfl rfl rfl rfl ?_
            refine jx_ar (pc_q := 72) (st_q := [.int (i32 (0)), .int (i32 (11)), .ref 66]) rfl rfl rfl rfl ?_
            refine jx_vr (pc_q := 75) (as := [.int (i32 (11)), .int (i32 (0))]) (st := []) rfl rfl rfl rfl ⟨rfl, rfl, Nat.le_of_ble_eq_true rfl⟩ rfl rfl (c_newName (dd := d) (hd := by omega) (hW := hW942) (kind := 11) (many := 0) (sy := sy) (e_sy := show G938 19 = sy from ((hF943.1 19 rfl).trans (e_sy))) (na := na) (e_na := show G938 28 = na from ((hF943.1 28 rfl).trans (e_na))) (fk := fk) (e_fk := show G938 16 = fk from ((hF943.1 16 rfl).trans (e_fk)))  (h_kind := ⟨(by decide), (by decide)⟩) (h_many := ⟨(by decide), (by decide)⟩)  (p_0 := by omega) (p_1 := by omega)) (fun o V_q hq => ?_)
            obtain ⟨G967, A968, r969, sy2_970, na2_971, fk2_972, yk2_973, rfl, rfl, hW974, hF975, hQ976, b977, e978, e979, e980, e981, q982⟩ := hq
            have hF983 := Fr_tr hF950 hF975 (Fr_sub (by decide)) (Fr_sub (by decide))
            have hS984 := Fx_tr hS951 hQ976 (by omega)
            have hV985 := Fx_f hV952 hF975 (by decide)
            have hL986 := Fx_f hL953 hF975 (by decide)
            have bsy2_970 : (0 : Int) ≤ sy2_970 ∧ sy2_970 ≤ 202 := e978 ▸ hW974.1 19
            have bna2_971 : (0 : Int) ≤ na2_971 ∧ na2_971 ≤ 200 := e979 ▸ hW974.1 28
            have bfk2_972 : (0 : Int) ≤ fk2_972 ∧ fk2_972 ≤ 6 := e980 ▸ hW974.1 16
            have byk2_973 : (0 : Int) ≤ yk2_973 ∧ yk2_973 ≤ 14 := e981 ▸ hW974.2 7 _
            refine .inr ⟨_, rfl, ?_⟩
            rcases q982 with ⟨a993, a987, a988, a989, a990, a991, a992⟩ | ⟨rfl, a994, a995, a996⟩
            · have _q : True := trivial
              rw [a993]
              refine jx_ld (pc_q := 76) (l_q := jSto1 [(0, .ref 66)] 1 (.int (i32 (sy)))) (st_q := []) rfl rfl ?_
              obtain ⟨L997, eL997⟩ : ∃ q, q = jSto1 [(0, .ref 66)] 1 (.int (i32 (sy))) := ⟨_, rfl⟩
              rw [← eL997]
              have gL997_0 : jGet L997 0 = some (.ref 66) := eL997 ▸ jg_ne (by decide) (rfl : jGet [(0, .ref 66)] 0 = some (.ref 66)) rfl
              have gL997_1 : jGet L997 1 = some (.int (i32 (sy))) := eL997 ▸ jg_eq
              refine jx_ld (pc_q := 77) (l_q := L997) (st_q := [.ref 66]) rfl (jl_aloadn gL997_0) ?_
              refine jx_ar (pc_q := 78) (st_q := [.int (i32 (1)), .ref 66]) rfl rfl rfl rfl ?_
              refine jx_vr (pc_q := 81) (as := [.int (i32 (1))]) (st := []) rfl rfl rfl rfl ⟨rfl, rfl, Nat.le_of_ble_eq_true rfl⟩ rfl rfl (c_need (dd := d) (hd := by omega) (hW := hW974) (g := 1) (ln := ln) (e_ln := show G967 9 = ln from ((hF975.1 9 rfl).trans ((hF943.1 9 rfl).trans (e_ln)))) (le := le) (e_le := show A968 4 (ln).toNat = le from (congrFun ((hF975.2 4 rfl).trans (hF943.2 4 rfl)) _).trans (e_le)) (at0 := at2_940) (e_at0 := show G967 10 = at2_940 from ((hF975.1 10 rfl).trans (e944))) (fk := fk2_972) (e_fk := show G967 16 = fk2_972 from (e980)) (tk0 := tk2_941) (e_tk0 := show G967 11 = tk2_941 from ((hF975.1 11 rfl).trans (e945)))  (h_g := ⟨(by decide), (by decide)⟩)  (p_0 := by omega)) (fun o V_q hq => ?_)
              obtain ⟨G998, A999, at2_1000, tk2_1001, fk2_1002, rfl, rfl, hW1003, hF1004, e1005, e1006, e1007, p1008, p1009, q1010⟩ := hq
              have hF1011 := Fr_tr hF983 hF1004 (Fr_sub (by decide)) (Fr_sub (by decide))
              have hS1012 := Fx_f hS984 hF1004 (by decide)
              have hV1013 := Fx_f hV985 hF1004 (by decide)
              have hL1014 := Fx_f hL986 hF1004 (by decide)
              have sf1015 : YD A999 (sy) (11) (0) := YD_fx (by omega) (by omega) (Sg_fr (sb := sy + 1) hF1004 (by decide)) a992
              have bat2_1000 : (0 : Int) ≤ at2_1000 ∧ at2_1000 ≤ 3002 := e1005 ▸ hW1003.1 10
              have ztk2_1001 := tz_b tk2_1001
              have btk2_1001 : (0 : Int) ≤ tk2_1001 ∧ tk2_1001 ≤ 5 := e1006 ▸ hW1003.1 11
              have bfk2_1002 : (0 : Int) ≤ fk2_1002 ∧ fk2_1002 ≤ 6 := e1007 ▸ hW1003.1 16
              refine .inl ⟨rfl, ?_⟩
              rcases q1010 with ⟨a1016, a1017, a1018, a1019⟩ | ⟨a1020, a1021, a1022, a1023⟩
              · have _q : True := trivial
                exact c_readLink_at_81p (X := X) (d := d) (Vs := Vs) (sb := sb) (pb := pb) (hvb := hvb) (c0 := c0) (c1 := c1) (G := G) (A := A) (T := T) (ln := ln) (le := le) (at0 := at0) (fk := fk) (tk0 := tk0) (sy := sy) (na := na) (li := li) (vi := vi) (lk0 := lk0) (hd := hd) (hW := hW) (e_ln := e_ln) (e_le := e_le) (e_at0 := e_at0) (e_fk := e_fk) (e_tk0 := e_tk0) (e_sy := e_sy) (e_na := e_na) (e_li := e_li) (e_vi := e_vi) (e_lk0 := e_lk0) (i_LT := i_LT) (i_SV := i_SV) (i_PQ := i_PQ) (p_0 := p_0) (p_1 := p_1) (p_2 := p_2) (p_3 := p_3) (p_4 := p_4) (p_5 := p_5) L997 G998 A999 (sy) (at2_1000) (tk2_1001) (fk2_1002) (sy2_970) (na2_971) gL997_0 gL997_1 hW1003 hF1011 hS1012 hV1013 hL1014 ((e1005)) ((e1006)) ((e1007)) (((hF1004.1 19 rfl).trans (e978))) (((hF1004.1 28 rfl).trans (e979))) (((hF1004.1 9 rfl).trans ((hF975.1 9 rfl).trans ((hF943.1 9 rfl).trans (e_ln))))) (((hF1004.1 29 rfl).trans ((hF975.1 29 rfl).trans ((hF943.1 29 rfl).trans (e_vi))))) (((hF1004.1 52 rfl).trans ((hF975.1 52 rfl).trans ((hF943.1 52 rfl).trans (e_lk0))))) (by omega) (by omega) (by omega) (by omega) (by omega) (by omega)
              · have _q : True := trivial
                exact c_readLink_at_81 (X := X) (d := d) (Vs := Vs) (sb := sb) (pb := pb) (hvb := hvb) (c0 := c0) (c1 := c1) (G := G) (A := A) (T := T) (ln := ln) (le := le) (at0 := at0) (fk := fk) (tk0 := tk0) (sy := sy) (na := na) (li := li) (vi := vi) (lk0 := lk0) (hd := hd) (hW := hW) (e_ln := e_ln) (e_le := e_le) (e_at0 := e_at0) (e_fk := e_fk) (e_tk0 := e_tk0) (e_sy := e_sy) (e_na := e_na) (e_li := e_li) (e_vi := e_vi) (e_lk0 := e_lk0) (i_LT := i_LT) (i_SV := i_SV) (i_PQ := i_PQ) (p_0 := p_0) (p_1 := p_1) (p_2 := p_2) (p_3 := p_3) (p_4 := p_4) (p_5 := p_5) L997 G998 A999 (sy) (at2_1000) (tk2_1001) (fk2_1002) (sy2_970) (na2_971) (G998 13) (yk2_973) gL997_0 gL997_1 hW1003 hF1011 hS1012 hV1013 hL1014 ((e1005)) ((e1006)) ((e1007)) (((hF1004.1 19 rfl).trans (e978))) (((hF1004.1 28 rfl).trans (e979))) (rfl) ((congrFun (hF1004.2 7 rfl) _).trans (e981)) (((hF1004.1 9 rfl).trans ((hF975.1 9 rfl).trans ((hF943.1 9 rfl).trans (e_ln))))) (((hF1004.1 29 rfl).trans ((hF975.1 29 rfl).trans ((hF943.1 29 rfl).trans (e_vi))))) (((hF1004.1 52 rfl).trans ((hF975.1 52 rfl).trans ((hF943.1 52 rfl).trans (e_lk0))))) (by omega) (by omega) (by omega) (by omega) (by omega) (by omega) (by omega) (by omega) (by omega)
            · have _q : True := trivial
              refine jx_ld (pc_q := 76) (l_q := jSto1 [(0, .ref 66)] 1 (.int (i32 (0)))) (st_q := []) rfl rfl ?_
              obtain ⟨L1024, eL1024⟩ : ∃ q, q = jSto1 [(0, .ref 66)] 1 (.int (i32 (0))) := ⟨_, rfl⟩
              rw [← eL1024]
              have gL1024_0 : jGet L1024 0 = some (.ref 66) := eL1024 ▸ jg_ne (by decide) (rfl : jGet [(0, .ref 66)] 0 = some (.ref 66)) rfl
              have gL1024_1 : jGet L1024 1 = some (.int (i32 (0))) := eL1024 ▸ jg_eq
              refine jx_ld (pc_q := 77) (l_q := L1024) (st_q := [.ref 66]) rfl (jl_aloadn gL1024_0) ?_
              refine jx_ar (pc_q := 78) (st_q := [.int (i32 (1)), .ref 66]) rfl rfl rfl rfl ?_
              refine jx_vr (pc_q := 81) (as := [.int (i32 (1))]) (st := []) rfl rfl rfl rfl ⟨rfl, rfl, Nat.le_of_ble_eq_true rfl⟩ rfl rfl (c_need (dd := d) (hd := by omega) (hW := hW974) (g := 1) (ln := ln) (e_ln := show G967 9 = ln from ((hF975.1 9 rfl).trans ((hF943.1 9 rfl).trans (e_ln)))) (le := le) (e_le := show A968 4 (ln).toNat = le from (congrFun ((hF975.2 4 rfl).trans (hF943.2 4 rfl)) _).trans (e_le)) (at0 := at2_940) (e_at0 := show G967 10 = at2_940 from ((hF975.1 10 rfl).trans (e944))) (fk := fk2_972) (e_fk := show G967 16 = fk2_972 from (e980)) (tk0 := tk2_941) (e_tk0 := show G967 11 = tk2_941 from ((hF975.1 11 rfl).trans (e945)))  (h_g := ⟨(by decide), (by decide)⟩)  (p_0 := by omega)) (fun o V_q hq => ?_)
              obtain ⟨G1025, A1026, at2_1027, tk2_1028, fk2_1029, rfl, rfl, hW1030, hF1031, e1032, e1033, e1034, p1035, p1036, q1037⟩ := hq
              have hF1038 := Fr_tr hF983 hF1031 (Fr_sub (by decide)) (Fr_sub (by decide))
              have hS1039 := Fx_f hS984 hF1031 (by decide)
              have hV1040 := Fx_f hV985 hF1031 (by decide)
              have hL1041 := Fx_f hL986 hF1031 (by decide)
              have bat2_1027 : (0 : Int) ≤ at2_1027 ∧ at2_1027 ≤ 3002 := e1032 ▸ hW1030.1 10
              have ztk2_1028 := tz_b tk2_1028
              have btk2_1028 : (0 : Int) ≤ tk2_1028 ∧ tk2_1028 ≤ 5 := e1033 ▸ hW1030.1 11
              have bfk2_1029 : (0 : Int) ≤ fk2_1029 ∧ fk2_1029 ≤ 6 := e1034 ▸ hW1030.1 16
              refine .inl ⟨rfl, ?_⟩
              rcases q1037 with ⟨a1042, a1043, a1044, a1045⟩ | ⟨a1046, a1047, a1048, a1049⟩
              · have _q : True := trivial
                exact c_readLink_at_81p (X := X) (d := d) (Vs := Vs) (sb := sb) (pb := pb) (hvb := hvb) (c0 := c0) (c1 := c1) (G := G) (A := A) (T := T) (ln := ln) (le := le) (at0 := at0) (fk := fk) (tk0 := tk0) (sy := sy) (na := na) (li := li) (vi := vi) (lk0 := lk0) (hd := hd) (hW := hW) (e_ln := e_ln) (e_le := e_le) (e_at0 := e_at0) (e_fk := e_fk) (e_tk0 := e_tk0) (e_sy := e_sy) (e_na := e_na) (e_li := e_li) (e_vi := e_vi) (e_lk0 := e_lk0) (i_LT := i_LT) (i_SV := i_SV) (i_PQ := i_PQ) (p_0 := p_0) (p_1 := p_1) (p_2 := p_2) (p_3 := p_3) (p_4 := p_4) (p_5 := p_5) L1024 G1025 A1026 (0) (at2_1027) (tk2_1028) (fk2_1029) (sy2_970) (na2_971) gL1024_0 gL1024_1 hW1030 hF1038 hS1039 hV1040 hL1041 ((e1032)) ((e1033)) ((e1034)) (((hF1031.1 19 rfl).trans (e978))) (((hF1031.1 28 rfl).trans (e979))) (((hF1031.1 9 rfl).trans ((hF975.1 9 rfl).trans ((hF943.1 9 rfl).trans (e_ln))))) (((hF1031.1 29 rfl).trans ((hF975.1 29 rfl).trans ((hF943.1 29 rfl).trans (e_vi))))) (((hF1031.1 52 rfl).trans ((hF975.1 52 rfl).trans ((hF943.1 52 rfl).trans (e_lk0))))) (by omega) (by omega) (by omega) (by omega) (by omega) (by omega)
              · have _q : True := trivial
                exfalso
                omega
          · have _q := h966
            refine jx_ld (pc_q := 59) (l_q := [(0, .ref 66)]) (st_q := [.ref 66]) rfl (jl_aloadn rfl) ?_
            refine jx_ar (pc_q := 61) (st_q := [.int (i32 (6)), .ref 66]) rfl rfl rfl rfl ?_
            refine jx_ld (pc_q := 62) (l_q := [(0, .ref 66)]) (st_q := [.ref 66, .int (i32 (6)), .ref 66]) rfl (jl_aloadn rfl) ?_
            have b1050 : (-3000 : Int) ≤ G938 12 ∧ G938 12 ≤ 3002 := hW942.1 12
            refine jr_get (pc_q := 65) (i := 12) (v := .int (i32 (G938 12))) rfl rfl (by decide) rfl rfl ?_
            refine jx_vr (pc_q := 68) (as := [.int (i32 (6)), .int (i32 (G938 12))]) (st := []) rfl rfl rfl rfl ⟨rfl, rfl, Nat.le_of_ble_eq_true rfl⟩ rfl rfl (c_fail (dd := d) (hd := by omega) (hW := hW942) (kind := 6) (place := G938 12) (fk := fk) (e_fk := show G938 16 = fk from ((hF943.1 16 rfl).trans (e_fk)))  (h_kind := ⟨(by decide), (by decide)⟩) (h_place := ⟨(Int.le_trans (by decide : (-2147483648 : Int) ≤ -3000) b1050.1), (Int.le_trans b1050.2 (by decide : (3002 : Int) ≤ 2147483647))⟩)  (p_0 := by omega) (p_1 := by omega)) (fun o V_q hq => ?_)
            obtain ⟨G1051, A1052, fk2_1053, rfl, rfl, hW1054, hF1055, e1056, p1057, -⟩ := hq
            have hF1059 := Fr_tr hF950 hF1055 (Fr_sub (by decide)) (Fr_sub (by decide))
            have hS1060 := Fx_f hS951 hF1055 (by decide)
            have hV1061 := Fx_f hV952 hF1055 (by decide)
            have hL1062 := Fx_f hL953 hF1055 (by decide)
            have bfk2_1053 : (0 : Int) ≤ fk2_1053 ∧ fk2_1053 ≤ 6 := e1056 ▸ hW1054.1 16
            refine .inl ⟨rfl, ?_⟩
            refine jx_ld (pc_q := 69) (l_q := [(0, .ref 66)]) (st_q := [.ref 66]) rfl (jl_aloadn rfl) ?_
            refine jx_ar (pc_q := 71) (st_q := [.int (i32 (11)), .ref 66]) rfl rfl rfl rfl ?_
            refine jx_ar (pc_q := 72) (st_q := [.int (i32 (0)), .int (i32 (11)), .ref 66]) rfl rfl rfl rfl ?_
            refine jx_vr (pc_q := 75) (as := [.int (i32 (11)), .int (i32 (0))]) (st := []) rfl rfl rfl rfl ⟨rfl, rfl, Nat.le_of_ble_eq_true rfl⟩ rfl rfl (c_newName (dd := d) (hd := by omega) (hW := hW1054) (kind := 11) (many := 0) (sy := sy) (e_sy := show G1051 19 = sy from ((hF1055.1 19 rfl).trans ((hF943.1 19 rfl).trans (e_sy)))) (na := na) (e_na := show G1051 28 = na from ((hF1055.1 28 rfl).trans ((hF943.1 28 rfl).trans (e_na)))) (fk := fk2_1053) (e_fk := show G1051 16 = fk2_1053 from (e1056))  (h_kind := ⟨(by decide), (by decide)⟩) (h_many := ⟨(by decide), (by decide)⟩)  (p_0 := by omega) (p_1 := by omega)) (fun o V_q hq => ?_)
            obtain ⟨G1063, A1064, r1065, sy2_1066, na2_1067, fk2_1068, yk2_1069, rfl, rfl, hW1070, hF1071, hQ1072, b1073, e1074, e1075, e1076, e1077, q1078⟩ := hq
            have hF1079 := Fr_tr hF1059 hF1071 (Fr_sub (by decide)) (Fr_sub (by decide))
            have hS1080 := Fx_tr hS1060 hQ1072 (by omega)
            have hV1081 := Fx_f hV1061 hF1071 (by decide)
            have hL1082 := Fx_f hL1062 hF1071 (by decide)
            have bsy2_1066 : (0 : Int) ≤ sy2_1066 ∧ sy2_1066 ≤ 202 := e1074 ▸ hW1070.1 19
            have bna2_1067 : (0 : Int) ≤ na2_1067 ∧ na2_1067 ≤ 200 := e1075 ▸ hW1070.1 28
            have bfk2_1068 : (0 : Int) ≤ fk2_1068 ∧ fk2_1068 ≤ 6 := e1076 ▸ hW1070.1 16
            have byk2_1069 : (0 : Int) ≤ yk2_1069 ∧ yk2_1069 ≤ 14 := e1077 ▸ hW1070.2 7 _
            refine .inr ⟨_, rfl, ?_⟩
            rcases q1078 with ⟨a1089, a1083, a1084, a1085, a1086, a1087, a1088⟩ | ⟨rfl, a1090, a1091, a1092⟩
            · have _q : True := trivial
              rw [a1089]
              exfalso
              omega
            · have _q : True := trivial
              refine jx_ld (pc_q := 76) (l_q := jSto1 [(0, .ref 66)] 1 (.int (i32 (0)))) (st_q := []) rfl rfl ?_
              obtain ⟨L1093, eL1093⟩ : ∃ q, q = jSto1 [(0, .ref 66)] 1 (.int (i32 (0))) := ⟨_, rfl⟩
              rw [← eL1093]
              have gL1093_0 : jGet L1093 0 = some (.ref 66) := eL1093 ▸ jg_ne (by decide) (rfl : jGet [(0, .ref 66)] 0 = some (.ref 66)) rfl
              have gL1093_1 : jGet L1093 1 = some (.int (i32 (0))) := eL1093 ▸ jg_eq
              refine jx_ld (pc_q := 77) (l_q := L1093) (st_q := [.ref 66]) rfl (jl_aloadn gL1093_0) ?_
              refine jx_ar (pc_q := 78) (st_q := [.int (i32 (1)), .ref 66]) rfl rfl rfl rfl ?_
              refine jx_vr (pc_q := 81) (as := [.int (i32 (1))]) (st := []) rfl rfl rfl rfl ⟨rfl, rfl, Nat.le_of_ble_eq_true rfl⟩ rfl rfl (c_need (dd := d) (hd := by omega) (hW := hW1070) (g := 1) (ln := ln) (e_ln := show G1063 9 = ln from ((hF1071.1 9 rfl).trans ((hF1055.1 9 rfl).trans ((hF943.1 9 rfl).trans (e_ln))))) (le := le) (e_le := show A1064 4 (ln).toNat = le from (congrFun ((hF1071.2 4 rfl).trans ((hF1055.2 4 rfl).trans (hF943.2 4 rfl))) _).trans (e_le)) (at0 := at2_940) (e_at0 := show G1063 10 = at2_940 from ((hF1071.1 10 rfl).trans ((hF1055.1 10 rfl).trans (e944)))) (fk := fk2_1068) (e_fk := show G1063 16 = fk2_1068 from (e1076)) (tk0 := tk2_941) (e_tk0 := show G1063 11 = tk2_941 from ((hF1071.1 11 rfl).trans ((hF1055.1 11 rfl).trans (e945))))  (h_g := ⟨(by decide), (by decide)⟩)  (p_0 := by omega)) (fun o V_q hq => ?_)
              obtain ⟨G1094, A1095, at2_1096, tk2_1097, fk2_1098, rfl, rfl, hW1099, hF1100, e1101, e1102, e1103, p1104, p1105, q1106⟩ := hq
              have hF1107 := Fr_tr hF1079 hF1100 (Fr_sub (by decide)) (Fr_sub (by decide))
              have hS1108 := Fx_f hS1080 hF1100 (by decide)
              have hV1109 := Fx_f hV1081 hF1100 (by decide)
              have hL1110 := Fx_f hL1082 hF1100 (by decide)
              have bat2_1096 : (0 : Int) ≤ at2_1096 ∧ at2_1096 ≤ 3002 := e1101 ▸ hW1099.1 10
              have ztk2_1097 := tz_b tk2_1097
              have btk2_1097 : (0 : Int) ≤ tk2_1097 ∧ tk2_1097 ≤ 5 := e1102 ▸ hW1099.1 11
              have bfk2_1098 : (0 : Int) ≤ fk2_1098 ∧ fk2_1098 ≤ 6 := e1103 ▸ hW1099.1 16
              refine .inl ⟨rfl, ?_⟩
              rcases q1106 with ⟨a1111, a1112, a1113, a1114⟩ | ⟨a1115, a1116, a1117, a1118⟩
              · have _q : True := trivial
                exact c_readLink_at_81p (X := X) (d := d) (Vs := Vs) (sb := sb) (pb := pb) (hvb := hvb) (c0 := c0) (c1 := c1) (G := G) (A := A) (T := T) (ln := ln) (le := le) (at0 := at0) (fk := fk) (tk0 := tk0) (sy := sy) (na := na) (li := li) (vi := vi) (lk0 := lk0) (hd := hd) (hW := hW) (e_ln := e_ln) (e_le := e_le) (e_at0 := e_at0) (e_fk := e_fk) (e_tk0 := e_tk0) (e_sy := e_sy) (e_na := e_na) (e_li := e_li) (e_vi := e_vi) (e_lk0 := e_lk0) (i_LT := i_LT) (i_SV := i_SV) (i_PQ := i_PQ) (p_0 := p_0) (p_1 := p_1) (p_2 := p_2) (p_3 := p_3) (p_4 := p_4) (p_5 := p_5) L1093 G1094 A1095 (0) (at2_1096) (tk2_1097) (fk2_1098) (sy2_1066) (na2_1067) gL1093_0 gL1093_1 hW1099 hF1107 hS1108 hV1109 hL1110 ((e1101)) ((e1102)) ((e1103)) (((hF1100.1 19 rfl).trans (e1074))) (((hF1100.1 28 rfl).trans (e1075))) (((hF1100.1 9 rfl).trans ((hF1071.1 9 rfl).trans ((hF1055.1 9 rfl).trans ((hF943.1 9 rfl).trans (e_ln)))))) (((hF1100.1 29 rfl).trans ((hF1071.1 29 rfl).trans ((hF1055.1 29 rfl).trans ((hF943.1 29 rfl).trans (e_vi)))))) (((hF1100.1 52 rfl).trans ((hF1071.1 52 rfl).trans ((hF1055.1 52 rfl).trans ((hF943.1 52 rfl).trans (e_lk0)))))) (by omega) (by omega) (by omega) (by omega) (by omega) (by omega)
              · have _q : True := trivial
                exfalso
                omega
    · have _q := h959
      refine jx_ld (pc_q := 34) (l_q := [(0, .ref 66)]) (st_q := [.ref 66]) rfl (jl_aloadn rfl) ?_
      refine jx_ar (pc_q := 35) (st_q := [.int (i32 (2)), .ref 66]) rfl rfl rfl rfl ?_
      refine jx_ld (pc_q := 36) (l_q := [(0, .ref 66)]) (st_q := [.ref 66, .int (i32 (2)), .ref 66]) rfl (jl_aloadn rfl) ?_
      have b1119 : (-3000 : Int) ≤ G938 12 ∧ G938 12 ≤ 3002 := hW942.1 12
      refine jr_get (pc_q := 39) (i := 12) (v := .int (i32 (G938 12))) rfl rfl (by decide) rfl rfl ?_
      refine jx_vr (pc_q := 42) (as := [.int (i32 (2)), .int (i32 (G938 12))]) (st := []) rfl rfl rfl rfl ⟨rfl, rfl, Nat.le_of_ble_eq_true rfl⟩ rfl rfl (c_fail (dd := d) (hd := by omega) (hW := hW942) (kind := 2) (place := G938 12) (fk := fk) (e_fk := show G938 16 = fk from ((hF943.1 16 rfl).trans (e_fk)))  (h_kind := ⟨(by decide), (by decide)⟩) (h_place := ⟨(Int.le_trans (by decide : (-2147483648 : Int) ≤ -3000) b1119.1), (Int.le_trans b1119.2 (by decide : (3002 : Int) ≤ 2147483647))⟩)  (p_0 := by omega) (p_1 := by omega)) (fun o V_q hq => ?_)
      obtain ⟨G1120, A1121, fk2_1122, rfl, rfl, hW1123, hF1124, e1125, p1126, -⟩ := hq
      have hF1128 := Fr_tr hF950 hF1124 (Fr_sub (by decide)) (Fr_sub (by decide))
      have hS1129 := Fx_f hS951 hF1124 (by decide)
      have hV1130 := Fx_f hV952 hF1124 (by decide)
      have hL1131 := Fx_f hL953 hF1124 (by decide)
      have bfk2_1122 : (0 : Int) ≤ fk2_1122 ∧ fk2_1122 ≤ 6 := e1125 ▸ hW1123.1 16
      refine .inl ⟨rfl, ?_⟩
      refine jx_ld (pc_q := 43) (l_q := [(0, .ref 66)]) (st_q := [.ref 66]) rfl (jl_aloadn rfl) ?_
      refine jx_vr (pc_q := 46) (as := []) (st := []) rfl rfl rfl rfl ⟨rfl, rfl, Nat.le_of_ble_eq_true rfl⟩ rfl rfl (c_bad (dd := d) (hd := by omega) (hW := hW1123)  (fk := fk2_1122) (e_fk := show G1120 16 = fk2_1122 from (e1125))    ) (fun o V_q hq => ?_)
      obtain ⟨r1132, rfl, rfl, b1133, q1134⟩ := hq
      refine .inr ⟨_, rfl, ?_⟩
      rcases q1134 with ⟨rfl, a1135⟩ | ⟨rfl, a1136⟩
      · have _q : True := trivial
        refine jx_if_ne (pc_q := 49) (tg := 68) rfl rfl rfl (by decide) (by decide) (fun h1137 => ?_) (fun h1137 => ?_)
        · have _q := h1137
          refine jx_ld (pc_q := 69) (l_q := [(0, .ref 66)]) (st_q := [.ref 66]) rfl (jl_aloadn rfl) ?_
          refine jx_ar (pc_q := 71) (st_q := [.int (i32 (11)), .ref 66]) rfl rfl rfl rfl ?_
          refine jx_ar (pc_q := 72) (st_q := [.int (i32 (0)), .int (i32 (11)), .ref 66]) rfl rfl rfl rfl ?_
          refine jx_vr (pc_q := 75) (as := [.int (i32 (11)), .int (i32 (0))]) (st := []) rfl rfl rfl rfl ⟨rfl, rfl, Nat.le_of_ble_eq_true rfl⟩ rfl rfl (c_newName (dd := d) (hd := by omega) (hW := hW1123) (kind := 11) (many := 0) (sy := sy) (e_sy := show G1120 19 = sy from ((hF1124.1 19 rfl).trans ((hF943.1 19 rfl).trans (e_sy)))) (na := na) (e_na := show G1120 28 = na from ((hF1124.1 28 rfl).trans ((hF943.1 28 rfl).trans (e_na)))) (fk := fk2_1122) (e_fk := show G1120 16 = fk2_1122 from (e1125))  (h_kind := ⟨(by decide), (by decide)⟩) (h_many := ⟨(by decide), (by decide)⟩)  (p_0 := by omega) (p_1 := by omega)) (fun o V_q hq => ?_)
          obtain ⟨G1138, A1139, r1140, sy2_1141, na2_1142, fk2_1143, yk2_1144, rfl, rfl, hW1145, hF1146, hQ1147, b1148, e1149, e1150, e1151, e1152, q1153⟩ := hq
          have hF1154 := Fr_tr hF1128 hF1146 (Fr_sub (by decide)) (Fr_sub (by decide))
          have hS1155 := Fx_tr hS1129 hQ1147 (by omega)
          have hV1156 := Fx_f hV1130 hF1146 (by decide)
          have hL1157 := Fx_f hL1131 hF1146 (by decide)
          have bsy2_1141 : (0 : Int) ≤ sy2_1141 ∧ sy2_1141 ≤ 202 := e1149 ▸ hW1145.1 19
          have bna2_1142 : (0 : Int) ≤ na2_1142 ∧ na2_1142 ≤ 200 := e1150 ▸ hW1145.1 28
          have bfk2_1143 : (0 : Int) ≤ fk2_1143 ∧ fk2_1143 ≤ 6 := e1151 ▸ hW1145.1 16
          have byk2_1144 : (0 : Int) ≤ yk2_1144 ∧ yk2_1144 ≤ 14 := e1152 ▸ hW1145.2 7 _
          refine .inr ⟨_, rfl, ?_⟩
          rcases q1153 with ⟨a1164, a1158, a1159, a1160, a1161, a1162, a1163⟩ | ⟨rfl, a1165, a1166, a1167⟩
          · have _q : True := trivial
            rw [a1164]
            exfalso
            omega
          · have _q : True := trivial
            refine jx_ld (pc_q := 76) (l_q := jSto1 [(0, .ref 66)] 1 (.int (i32 (0)))) (st_q := []) rfl rfl ?_
            obtain ⟨L1168, eL1168⟩ : ∃ q, q = jSto1 [(0, .ref 66)] 1 (.int (i32 (0))) := ⟨_, rfl⟩
            rw [← eL1168]
            have gL1168_0 : jGet L1168 0 = some (.ref 66) := eL1168 ▸ jg_ne (by decide) (rfl : jGet [(0, .ref 66)] 0 = some (.ref 66)) rfl
            have gL1168_1 : jGet L1168 1 = some (.int (i32 (0))) := eL1168 ▸ jg_eq
            refine jx_ld (pc_q := 77) (l_q := L1168) (st_q := [.ref 66]) rfl (jl_aloadn gL1168_0) ?_
            refine jx_ar (pc_q := 78) (st_q := [.int (i32 (1)), .ref 66]) rfl rfl rfl rfl ?_
            refine jx_vr (pc_q := 81) (as := [.int (i32 (1))]) (st := []) rfl rfl rfl rfl ⟨rfl, rfl, Nat.le_of_ble_eq_true rfl⟩ rfl rfl (c_need (dd := d) (hd := by omega) (hW := hW1145) (g := 1) (ln := ln) (e_ln := show G1138 9 = ln from ((hF1146.1 9 rfl).trans ((hF1124.1 9 rfl).trans ((hF943.1 9 rfl).trans (e_ln))))) (le := le) (e_le := show A1139 4 (ln).toNat = le from (congrFun ((hF1146.2 4 rfl).trans ((hF1124.2 4 rfl).trans (hF943.2 4 rfl))) _).trans (e_le)) (at0 := at2_940) (e_at0 := show G1138 10 = at2_940 from ((hF1146.1 10 rfl).trans ((hF1124.1 10 rfl).trans (e944)))) (fk := fk2_1143) (e_fk := show G1138 16 = fk2_1143 from (e1151)) (tk0 := tk2_941) (e_tk0 := show G1138 11 = tk2_941 from ((hF1146.1 11 rfl).trans ((hF1124.1 11 rfl).trans (e945))))  (h_g := ⟨(by decide), (by decide)⟩)  (p_0 := by omega)) (fun o V_q hq => ?_)
            obtain ⟨G1169, A1170, at2_1171, tk2_1172, fk2_1173, rfl, rfl, hW1174, hF1175, e1176, e1177, e1178, p1179, p1180, q1181⟩ := hq
            have hF1182 := Fr_tr hF1154 hF1175 (Fr_sub (by decide)) (Fr_sub (by decide))
            have hS1183 := Fx_f hS1155 hF1175 (by decide)
            have hV1184 := Fx_f hV1156 hF1175 (by decide)
            have hL1185 := Fx_f hL1157 hF1175 (by decide)
            have bat2_1171 : (0 : Int) ≤ at2_1171 ∧ at2_1171 ≤ 3002 := e1176 ▸ hW1174.1 10
            have ztk2_1172 := tz_b tk2_1172
            have btk2_1172 : (0 : Int) ≤ tk2_1172 ∧ tk2_1172 ≤ 5 := e1177 ▸ hW1174.1 11
            have bfk2_1173 : (0 : Int) ≤ fk2_1173 ∧ fk2_1173 ≤ 6 := e1178 ▸ hW1174.1 16
            refine .inl ⟨rfl, ?_⟩
            rcases q1181 with ⟨a1186, a1187, a1188, a1189⟩ | ⟨a1190, a1191, a1192, a1193⟩
            · have _q : True := trivial
              exact c_readLink_at_81p (X := X) (d := d) (Vs := Vs) (sb := sb) (pb := pb) (hvb := hvb) (c0 := c0) (c1 := c1) (G := G) (A := A) (T := T) (ln := ln) (le := le) (at0 := at0) (fk := fk) (tk0 := tk0) (sy := sy) (na := na) (li := li) (vi := vi) (lk0 := lk0) (hd := hd) (hW := hW) (e_ln := e_ln) (e_le := e_le) (e_at0 := e_at0) (e_fk := e_fk) (e_tk0 := e_tk0) (e_sy := e_sy) (e_na := e_na) (e_li := e_li) (e_vi := e_vi) (e_lk0 := e_lk0) (i_LT := i_LT) (i_SV := i_SV) (i_PQ := i_PQ) (p_0 := p_0) (p_1 := p_1) (p_2 := p_2) (p_3 := p_3) (p_4 := p_4) (p_5 := p_5) L1168 G1169 A1170 (0) (at2_1171) (tk2_1172) (fk2_1173) (sy2_1141) (na2_1142) gL1168_0 gL1168_1 hW1174 hF1182 hS1183 hV1184 hL1185 ((e1176)) ((e1177)) ((e1178)) (((hF1175.1 19 rfl).trans (e1149))) (((hF1175.1 28 rfl).trans (e1150))) (((hF1175.1 9 rfl).trans ((hF1146.1 9 rfl).trans ((hF1124.1 9 rfl).trans ((hF943.1 9 rfl).trans (e_ln)))))) (((hF1175.1 29 rfl).trans ((hF1146.1 29 rfl).trans ((hF1124.1 29 rfl).trans ((hF943.1 29 rfl).trans (e_vi)))))) (((hF1175.1 52 rfl).trans ((hF1146.1 52 rfl).trans ((hF1124.1 52 rfl).trans ((hF943.1 52 rfl).trans (e_lk0)))))) (by omega) (by omega) (by omega) (by omega) (by omega) (by omega)
            · have _q : True := trivial
              exfalso
              omega
        · have _q := h1137
          exact absurd h1137 (by omega)
      · have _q : True := trivial
        exfalso
        omega
  · have _q := h954
    refine jx_ld (pc_q := 13) (l_q := [(0, .ref 66)]) (st_q := [.ref 66]) rfl (jl_aloadn rfl) ?_
    refine jx_ar (pc_q := 14) (st_q := [.int (i32 (1)), .ref 66]) rfl rfl rfl rfl ?_
    refine jx_ld (pc_q := 15) (l_q := [(0, .ref 66)]) (st_q := [.ref 66, .int (i32 (1)), .ref 66]) rfl (jl_aloadn rfl) ?_
    have b1194 : (-3000 : Int) ≤ G938 12 ∧ G938 12 ≤ 3002 := hW942.1 12
    refine jr_get (pc_q := 18) (i := 12) (v := .int (i32 (G938 12))) rfl rfl (by decide) rfl rfl ?_
    refine jx_vr (pc_q := 21) (as := [.int (i32 (1)), .int (i32 (G938 12))]) (st := []) rfl rfl rfl rfl ⟨rfl, rfl, Nat.le_of_ble_eq_true rfl⟩ rfl rfl (c_fail (dd := d) (hd := by omega) (hW := hW942) (kind := 1) (place := G938 12) (fk := fk) (e_fk := show G938 16 = fk from ((hF943.1 16 rfl).trans (e_fk)))  (h_kind := ⟨(by decide), (by decide)⟩) (h_place := ⟨(Int.le_trans (by decide : (-2147483648 : Int) ≤ -3000) b1194.1), (Int.le_trans b1194.2 (by decide : (3002 : Int) ≤ 2147483647))⟩)  (p_0 := by omega) (p_1 := by omega)) (fun o V_q hq => ?_)
    obtain ⟨G1195, A1196, fk2_1197, rfl, rfl, hW1198, hF1199, e1200, p1201, -⟩ := hq
    have hF1203 := Fr_tr hF950 hF1199 (Fr_sub (by decide)) (Fr_sub (by decide))
    have hS1204 := Fx_f hS951 hF1199 (by decide)
    have hV1205 := Fx_f hV952 hF1199 (by decide)
    have hL1206 := Fx_f hL953 hF1199 (by decide)
    have bfk2_1197 : (0 : Int) ≤ fk2_1197 ∧ fk2_1197 ≤ 6 := e1200 ▸ hW1198.1 16
    refine .inl ⟨rfl, ?_⟩
    refine jx_rt (v := none) rfl rfl rfl rfl rfl rfl ?_
    exact ⟨_, _, ln, at2_940, fk2_1197, sy, na, vi, lk0, rfl, rfl, hW1198, hF1203, hS1204, hV1205, hL1206, ((hF1199.1 9 rfl).trans ((hF943.1 9 rfl).trans (e_ln))), ((hF1199.1 10 rfl).trans (e944)), (e1200), ((hF1199.1 19 rfl).trans ((hF943.1 19 rfl).trans (e_sy))), ((hF1199.1 28 rfl).trans ((hF943.1 28 rfl).trans (e_na))), ((hF1199.1 29 rfl).trans ((hF943.1 29 rfl).trans (e_vi))), ((hF1199.1 52 rfl).trans ((hF943.1 52 rfl).trans (e_lk0))), by omega, by omega, by omega, by omega, by omega, by omega, by omega, by first | exact Or.inl (by omega)⟩
