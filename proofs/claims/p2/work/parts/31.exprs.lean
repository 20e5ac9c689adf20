def RE (X : jX) (k : Nat) : Prop := ∀ ⦃dd : Nat⦄ ⦃c0 c1 : jC⦄ ⦃G : Nat → Int⦄ ⦃A : Nat → Nat → Int⦄ ⦃T : jH⦄ ⦃ln le at0 fk op0 nd tk0 : Int⦄ (hd : 6 * k + 10 ≤ dd) (hW : Wk G A) (e_ln : G 9 = ln) (e_le : A 4 (ln).toNat = le) (e_at0 : G 10 = at0) (e_fk : G 16 = fk) (e_op0 : G 15 = op0) (e_nd : G 31 = nd) (e_tk0 : G 11 = tk0) (p_0 : 0 ≤ op0) (p_1 : op0 ≤ 9) (p_2 : op0 ≤ 8 ∨ 1 ≤ fk) (p_3 : 9 - op0 ≤ (k : Int) ∨ 1 ≤ fk) (p_4 : nd ≤ 2 * at0 - tz tk0 + 50) (p_5 : at0 ≤ le), wk X dd 286 [.ref 66] (rV c0 c1 G A T) (fun o V' => ∃ (G' : Nat → Int) (A' : Nat → Nat → Int) (r : Int) (at2 : Int) (fk2 : Int) (op2 : Int) (nd2 : Int) (tk2 : Int), V' = rV c0 c1 G' A' T ∧ o = .inl (some (.int (i32 r))) ∧ Wk G' A' ∧ Fr [10, 11, 12, 13, 14, 15, 16, 17, 18, 31] [15, 16, 17, 18, 19, 20, 21, 22, 24, 28] G A G' A' ∧ ((-2147483648 : Int) ≤ r ∧ r ≤ 2147483647) ∧ G' 10 = at2 ∧ G' 16 = fk2 ∧ G' 15 = op2 ∧ G' 31 = nd2 ∧ G' 11 = tk2 ∧ (at0 ≤ at2) ∧ (at2 ≤ le) ∧ (nd ≤ nd2) ∧ (op2 = op0) ∧ (0 ≤ r) ∧ (r ≤ nd2) ∧ (((1 ≤ fk) ∧ (1 ≤ fk2) ∧ (nd2 = nd) ∧ (at2 = at0) ∧ (tk2 = tk0) ∧ (tz tk2 = tz tk0)) ∨ ((fk = 0) ∧ (1 ≤ fk2) ∧ (nd2 - nd ≤ (2 * at2 - tz tk2) - (2 * at0 - tz tk0) + 1)) ∨ ((fk = 0) ∧ (fk2 = 0) ∧ (nd2 - nd ≤ (2 * at2 - tz tk2) - (2 * at0 - tz tk0)))))
set_option maxRecDepth 20000 in
set_option maxHeartbeats 4000000 in
theorem c_readIndex {X : jX} {k : Nat} (hE : RE X k) {dd : Nat} {c0 c1 : jC} {G : Nat → Int} {A : Nat → Nat → Int} {T : jH} {ln le at0 fk op0 nd tk0 : Int} (hd : 6 * k + 12 ≤ dd) (hW : Wk G A) (e_ln : G 9 = ln) (e_le : A 4 (ln).toNat = le) (e_at0 : G 10 = at0) (e_fk : G 16 = fk) (e_op0 : G 15 = op0) (e_nd : G 31 = nd) (e_tk0 : G 11 = tk0) (p_0 : 0 ≤ op0) (p_1 : op0 ≤ 9) (p_2 : op0 ≤ 8 ∨ 1 ≤ fk) (p_3 : 9 - op0 ≤ ((k + 1 : Nat) : Int) ∨ 1 ≤ fk) (p_4 : nd ≤ 2 * at0 - tz tk0 + 50) (p_5 : at0 ≤ le) (p_6 : 1 ≤ tk0) (p_7 : op0 ≤ 8) (p_8 : fk = 0) : wk X dd 284 [.ref 66] (rV c0 c1 G A T) (fun o V' => ∃ (G' : Nat → Int) (A' : Nat → Nat → Int) (r : Int) (at2 : Int) (fk2 : Int) (op2 : Int) (nd2 : Int) (tk2 : Int), V' = rV c0 c1 G' A' T ∧ o = .inl (some (.int (i32 r))) ∧ Wk G' A' ∧ Fr [10, 11, 12, 13, 14, 15, 16, 17, 18, 31] [15, 16, 17, 18, 19, 20, 21, 22, 24, 28] G A G' A' ∧ ((-2147483648 : Int) ≤ r ∧ r ≤ 2147483647) ∧ G' 10 = at2 ∧ G' 16 = fk2 ∧ G' 15 = op2 ∧ G' 31 = nd2 ∧ G' 11 = tk2 ∧ (at0 ≤ at2) ∧ (at2 ≤ le) ∧ (nd ≤ nd2) ∧ (op2 = op0) ∧ (0 ≤ r) ∧ (r ≤ nd2) ∧ (((fk = 0) ∧ (1 ≤ fk2) ∧ (nd2 - nd ≤ (2 * at2 - tz tk2) - (2 * at0 - tz tk0) + 1)) ∨ ((fk = 0) ∧ (fk2 = 0) ∧ (nd2 - nd ≤ (2 * at2 - tz tk2) - (2 * at0 - tz tk0))))) := by
  obtain ⟨d, rfl⟩ : ∃ d, dd = d + 1 := ⟨dd - 1, by omega⟩
  refine wk_of (e := jm284) rfl (Nat.le_of_ble_eq_true rfl) ?_
  show wj X d jm284 (0, [(0, .ref 66)], [], rV c0 c1 G A T) _
  have hF0 : Fr [10, 11, 12, 13, 14, 15, 16, 17, 18, 31] [15, 16, 17, 18, 19, 20, 21, 22, 24, 28] G A G A := Fr_rf
  have b_ln : (0 : Int) ≤ ln ∧ ln ≤ 3000 := e_ln ▸ hW.1 9
  have b_le : (0 : Int) ≤ le ∧ le ≤ 3000 := e_le ▸ hW.2 4 _
  have b_at0 : (0 : Int) ≤ at0 ∧ at0 ≤ 3002 := e_at0 ▸ hW.1 10
  have b_fk : (0 : Int) ≤ fk ∧ fk ≤ 6 := e_fk ▸ hW.1 16
  have b_op0 : (-2147483648 : Int) ≤ op0 ∧ op0 ≤ 2147483647 := e_op0 ▸ hW.1 15
  have b_nd : (0 : Int) ≤ nd ∧ nd ≤ 6999 := e_nd ▸ hW.1 31
  have z_tk0 := tz_f tk0
  have b_tk0 : (0 : Int) ≤ tk0 ∧ tk0 ≤ 5 := e_tk0 ▸ hW.1 11
  refine jx_ld (pc' := 1) (l' := [(0, .ref 66)]) (st' := [.ref 66]) rfl (jl_aloadn rfl) ?_
  refine jx_vr (pc' := 4) (as := []) (st := []) rfl rfl rfl rfl ⟨rfl, rfl, Nat.le_of_ble_eq_true rfl⟩ rfl rfl (c_open (dd := d) (hd := by omega) (hW := hW)  (fk := fk) (e_fk := show G 16 = fk from (e_fk)) (op0 := op0) (e_op0 := show G 15 = op0 from (e_op0))    (p_0 := by omega)) (fun o V' hq => ?_)
  obtain ⟨G1, A2, fk2_3, op2_4, rfl, rfl, hW5, hF6, e7, e8, p9, q10⟩ := hq
  have hF11 := Fr_tr hF0 hF6 (Fr_sub (by decide)) (Fr_sub (by decide))
  have bfk2_3 : (0 : Int) ≤ fk2_3 ∧ fk2_3 ≤ 6 := e7 ▸ hW5.1 16
  have bop2_4 : (-2147483648 : Int) ≤ op2_4 ∧ op2_4 ≤ 2147483647 := e8 ▸ hW5.1 15
  refine .inl ⟨rfl, ?_⟩
  rcases q10 with a12 | ⟨a13, a14, a15⟩
  · have _q : True := trivial
    refine jx_ld (pc' := 5) (l' := [(0, .ref 66)]) (st' := [.ref 66]) rfl (jl_aloadn rfl) ?_
    refine jx_ar (pc' := 6) (st' := [.int (i32 (1)), .ref 66]) rfl rfl rfl rfl ?_
    refine jx_vr (pc' := 9) (as := [.int (i32 (1))]) (st := []) rfl rfl rfl rfl ⟨rfl, rfl, Nat.le_of_ble_eq_true rfl⟩ rfl rfl (c_need (dd := d) (hd := by omega) (hW := hW5) (g := 1) (ln := ln) (e_ln := show G1 9 = ln from ((hF6.1 9 rfl).trans (e_ln))) (le := le) (e_le := show A2 4 (ln).toNat = le from (congrFun (hF6.2 4 rfl) _).trans (e_le)) (at0 := at0) (e_at0 := show G1 10 = at0 from ((hF6.1 10 rfl).trans (e_at0))) (fk := fk2_3) (e_fk := show G1 16 = fk2_3 from (e7)) (tk0 := tk0) (e_tk0 := show G1 11 = tk0 from ((hF6.1 11 rfl).trans (e_tk0)))  (h_g := by omega)  (p_0 := by omega)) (fun o V' hq => ?_)
    obtain ⟨G16, A17, at2_18, tk2_19, fk2_20, rfl, rfl, hW21, hF22, e23, e24, e25, p26, p27, q28⟩ := hq
    have hF29 := Fr_tr hF11 hF22 (Fr_sub (by decide)) (Fr_sub (by decide))
    have bat2_18 : (0 : Int) ≤ at2_18 ∧ at2_18 ≤ 3002 := e23 ▸ hW21.1 10
    have ztk2_19 := tz_b tk2_19
    have btk2_19 : (0 : Int) ≤ tk2_19 ∧ tk2_19 ≤ 5 := e24 ▸ hW21.1 11
    have bfk2_20 : (0 : Int) ≤ fk2_20 ∧ fk2_20 ≤ 6 := e25 ▸ hW21.1 16
    refine .inl ⟨rfl, ?_⟩
    rcases q28 with ⟨a30, a31, a32, a33⟩ | ⟨a34, a35, a36, a37⟩
    · have _q : True := trivial
      refine jx_ld (pc' := 10) (l' := [(0, .ref 66)]) (st' := [.ref 66]) rfl (jl_aloadn rfl) ?_
      refine jx_vr (pc' := 13) (as := []) (st := []) rfl rfl rfl rfl ⟨rfl, rfl, Nat.le_of_ble_eq_true rfl⟩ rfl rfl (hE (dd := d) (hd := by omega) (hW := hW21)  (ln := ln) (e_ln := show G16 9 = ln from ((hF22.1 9 rfl).trans ((hF6.1 9 rfl).trans (e_ln)))) (le := le) (e_le := show A17 4 (ln).toNat = le from (congrFun ((hF22.2 4 rfl).trans (hF6.2 4 rfl)) _).trans (e_le)) (at0 := at2_18) (e_at0 := show G16 10 = at2_18 from (e23)) (fk := fk2_20) (e_fk := show G16 16 = fk2_20 from (e25)) (op0 := op2_4) (e_op0 := show G16 15 = op2_4 from ((hF22.1 15 rfl).trans (e8))) (nd := nd) (e_nd := show G16 31 = nd from ((hF22.1 31 rfl).trans ((hF6.1 31 rfl).trans (e_nd)))) (tk0 := tk2_19) (e_tk0 := show G16 11 = tk2_19 from (e24))    (p_0 := by omega) (p_1 := by omega) (p_2 := by omega) (p_3 := by omega) (p_4 := by omega) (p_5 := by omega)) (fun o V' hq => ?_)
      obtain ⟨G38, A39, r40, at2_41, fk2_42, op2_43, nd2_44, tk2_45, rfl, rfl, hW46, hF47, b48, e49, e50, e51, e52, e53, p54, p55, p56, p57, p58, p59, q60⟩ := hq
      have hF61 := Fr_tr hF29 hF47 (Fr_sub (by decide)) (Fr_sub (by decide))
      have bat2_41 : (0 : Int) ≤ at2_41 ∧ at2_41 ≤ 3002 := e49 ▸ hW46.1 10
      have bfk2_42 : (0 : Int) ≤ fk2_42 ∧ fk2_42 ≤ 6 := e50 ▸ hW46.1 16
      have bop2_43 : (-2147483648 : Int) ≤ op2_43 ∧ op2_43 ≤ 2147483647 := e51 ▸ hW46.1 15
      have bnd2_44 : (0 : Int) ≤ nd2_44 ∧ nd2_44 ≤ 6999 := e52 ▸ hW46.1 31
      have ztk2_45 := tz_b tk2_45
      have btk2_45 : (0 : Int) ≤ tk2_45 ∧ tk2_45 ≤ 5 := e53 ▸ hW46.1 11
      refine .inr ⟨_, rfl, ?_⟩
      rcases q60 with ⟨a62, a63, a64, a65, a66, a67⟩ | ⟨a68, a69, a70⟩ | ⟨a71, a72, a73⟩
      · have _q : True := trivial
        refine jx_ld (pc' := 14) (l' := jSto1 [(0, .ref 66)] 1 (.int (i32 (r40)))) (st' := []) rfl rfl ?_
        obtain ⟨L74, eL74⟩ : ∃ q, q = jSto1 [(0, .ref 66)] 1 (.int (i32 (r40))) := ⟨_, rfl⟩
        rw [← eL74]
        have gL74_0 : jGet L74 0 = some (.ref 66) := eL74 ▸ jg_ne (by decide) (rfl : jGet [(0, .ref 66)] 0 = some (.ref 66)) rfl
        have gL74_1 : jGet L74 1 = some (.int (i32 (r40))) := eL74 ▸ jg_eq
        refine jx_ld (pc' := 15) (l' := L74) (st' := [.ref 66]) rfl (jl_aloadn gL74_0) ?_
        refine jx_ld (pc' := 16) (l' := L74) (st' := [.ref 66, .ref 66]) rfl (jl_aloadn gL74_0) ?_
        refine jx_ar (pc' := 18) (st' := [.int (i32 (93)), .ref 66, .ref 66]) rfl rfl rfl rfl ?_
        have b75 : (-2147483648 : Int) ≤ G38 13 ∧ G38 13 ≤ 2147483647 := hW46.1 13
        refine jx_vr (pc' := 21) (as := [.int (i32 (93))]) (st := [.ref 66]) rfl rfl rfl rfl ⟨rfl, rfl, Nat.le_of_ble_eq_true rfl⟩ rfl rfl (c_is (dd := d) (hd := by omega) (hW := hW46) (k := 93) (tk := tk2_45) (e_tk := show G38 11 = tk2_45 from (e53)) (tn := G38 13) (e_tn := show G38 13 = G38 13 from rfl)  (h_k := by omega)  ) (fun o V' hq => ?_)
        obtain ⟨r76, rfl, rfl, b77, q78⟩ := hq
        refine .inr ⟨_, rfl, ?_⟩
        rcases q78 with ⟨rfl, a79, a80, a81⟩ | rfl
        · have _q : True := trivial
          refine jx_vr (pc' := 24) (as := [.int (i32 (1))]) (st := []) rfl rfl rfl rfl ⟨rfl, rfl, Nat.le_of_ble_eq_true rfl⟩ rfl rfl (c_need (dd := d) (hd := by omega) (hW := hW46) (g := 1) (ln := ln) (e_ln := show G38 9 = ln from ((hF47.1 9 rfl).trans ((hF22.1 9 rfl).trans ((hF6.1 9 rfl).trans (e_ln))))) (le := le) (e_le := show A39 4 (ln).toNat = le from (congrFun ((hF47.2 4 rfl).trans ((hF22.2 4 rfl).trans (hF6.2 4 rfl))) _).trans (e_le)) (at0 := at2_41) (e_at0 := show G38 10 = at2_41 from (e49)) (fk := fk2_42) (e_fk := show G38 16 = fk2_42 from (e50)) (tk0 := tk2_45) (e_tk0 := show G38 11 = tk2_45 from (e53))  (h_g := by omega)  (p_0 := by omega)) (fun o V' hq => ?_)
          obtain ⟨G82, A83, at2_84, tk2_85, fk2_86, rfl, rfl, hW87, hF88, e89, e90, e91, p92, p93, q94⟩ := hq
          have hF95 := Fr_tr hF61 hF88 (Fr_sub (by decide)) (Fr_sub (by decide))
          have bat2_84 : (0 : Int) ≤ at2_84 ∧ at2_84 ≤ 3002 := e89 ▸ hW87.1 10
          have ztk2_85 := tz_b tk2_85
          have btk2_85 : (0 : Int) ≤ tk2_85 ∧ tk2_85 ≤ 5 := e90 ▸ hW87.1 11
          have bfk2_86 : (0 : Int) ≤ fk2_86 ∧ fk2_86 ≤ 6 := e91 ▸ hW87.1 16
          refine .inl ⟨rfl, ?_⟩
          rcases q94 with ⟨a96, a97, a98, a99⟩ | ⟨a100, a101, a102, a103⟩
          · have _q : True := trivial
            refine jx_ld (pc' := 25) (l' := L74) (st' := [.ref 66]) rfl (jl_aloadn gL74_0) ?_
            refine jx_ar (pc' := 26) (st' := [.ref 66, .ref 66]) rfl rfl rfl rfl ?_
            refine jr_get (pc' := 29) (i := 15) (v := .int (i32 (op2_43))) rfl rfl (by decide) (rFv_eq (by decide) (show G82 15 = op2_43 from ((hF88.1 15 rfl).trans (e51)))) rfl ?_
            refine jx_ar (pc' := 30) (st' := [.int (i32 (1)), .int (i32 (op2_43)), .ref 66]) rfl rfl rfl rfl ?_
            refine jx_sub (pc' := 31) rfl rfl ?_
            refine jr_put (pc' := 34) (i := 15) (z := (op2_43 - 1)) rfl rfl (by decide) rfl rfl rfl rfl rfl rfl ?_
            have hW104 : Wk (uG G82 15 ((op2_43 - 1))) A83 := Wk_g hW87 (show (-2147483648 : Int) ≤ (op2_43 - 1) by omega) (show (op2_43 - 1) ≤ (2147483647 : Int) by omega)
            have hF105 := Fr_g (z := (op2_43 - 1)) (i := 15) hF95 (by decide)
            refine jx_ld (pc' := 35) (l' := L74) (st' := [.int (i32 (r40))]) rfl (jl_iloadn gL74_1) ?_
            refine jx_rt (v := some (.int (i32 (r40)))) rfl rfl rfl rfl rfl rfl ?_
            have z106 := tz_f (tk2_85)
            exact ⟨_, _, _, at2_84, fk2_86, (op2_43 - 1), nd2_44, tk2_85, rfl, rfl, hW104, hF105, by omega, (e89), (e91), rfl, ((hF88.1 31 rfl).trans (e52)), (e90), by omega, by omega, by omega, by omega, by omega, by omega, by first | exact Or.inl (⟨by omega, by omega, by omega⟩) | exact Or.inr ((⟨by omega, by omega, by omega⟩))⟩
          · have _q : True := trivial
            exfalso
            omega
        · have _q : True := trivial
          refine jx_vr (pc' := 24) (as := [.int (i32 (0))]) (st := []) rfl rfl rfl rfl ⟨rfl, rfl, Nat.le_of_ble_eq_true rfl⟩ rfl rfl (c_need (dd := d) (hd := by omega) (hW := hW46) (g := 0) (ln := ln) (e_ln := show G38 9 = ln from ((hF47.1 9 rfl).trans ((hF22.1 9 rfl).trans ((hF6.1 9 rfl).trans (e_ln))))) (le := le) (e_le := show A39 4 (ln).toNat = le from (congrFun ((hF47.2 4 rfl).trans ((hF22.2 4 rfl).trans (hF6.2 4 rfl))) _).trans (e_le)) (at0 := at2_41) (e_at0 := show G38 10 = at2_41 from (e49)) (fk := fk2_42) (e_fk := show G38 16 = fk2_42 from (e50)) (tk0 := tk2_45) (e_tk0 := show G38 11 = tk2_45 from (e53))  (h_g := by omega)  (p_0 := by omega)) (fun o V' hq => ?_)
          obtain ⟨G107, A108, at2_109, tk2_110, fk2_111, rfl, rfl, hW112, hF113, e114, e115, e116, p117, p118, q119⟩ := hq
          have hF120 := Fr_tr hF61 hF113 (Fr_sub (by decide)) (Fr_sub (by decide))
          have bat2_109 : (0 : Int) ≤ at2_109 ∧ at2_109 ≤ 3002 := e114 ▸ hW112.1 10
          have ztk2_110 := tz_b tk2_110
          have btk2_110 : (0 : Int) ≤ tk2_110 ∧ tk2_110 ≤ 5 := e115 ▸ hW112.1 11
          have bfk2_111 : (0 : Int) ≤ fk2_111 ∧ fk2_111 ≤ 6 := e116 ▸ hW112.1 16
          refine .inl ⟨rfl, ?_⟩
          rcases q119 with ⟨a121, a122, a123, a124⟩ | ⟨a125, a126, a127, a128⟩
          · have _q : True := trivial
            refine jx_ld (pc' := 25) (l' := L74) (st' := [.ref 66]) rfl (jl_aloadn gL74_0) ?_
            refine jx_ar (pc' := 26) (st' := [.ref 66, .ref 66]) rfl rfl rfl rfl ?_
            refine jr_get (pc' := 29) (i := 15) (v := .int (i32 (op2_43))) rfl rfl (by decide) (rFv_eq (by decide) (show G107 15 = op2_43 from ((hF113.1 15 rfl).trans (e51)))) rfl ?_
            refine jx_ar (pc' := 30) (st' := [.int (i32 (1)), .int (i32 (op2_43)), .ref 66]) rfl rfl rfl rfl ?_
            refine jx_sub (pc' := 31) rfl rfl ?_
            refine jr_put (pc' := 34) (i := 15) (z := (op2_43 - 1)) rfl rfl (by decide) rfl rfl rfl rfl rfl rfl ?_
            have hW129 : Wk (uG G107 15 ((op2_43 - 1))) A108 := Wk_g hW112 (show (-2147483648 : Int) ≤ (op2_43 - 1) by omega) (show (op2_43 - 1) ≤ (2147483647 : Int) by omega)
            have hF130 := Fr_g (z := (op2_43 - 1)) (i := 15) hF120 (by decide)
            refine jx_ld (pc' := 35) (l' := L74) (st' := [.int (i32 (r40))]) rfl (jl_iloadn gL74_1) ?_
            refine jx_rt (v := some (.int (i32 (r40)))) rfl rfl rfl rfl rfl rfl ?_
            have z131 := tz_f (tk2_110)
            exact ⟨_, _, _, at2_109, fk2_111, (op2_43 - 1), nd2_44, tk2_110, rfl, rfl, hW129, hF130, by omega, (e114), (e116), rfl, ((hF113.1 31 rfl).trans (e52)), (e115), by omega, by omega, by omega, by omega, by omega, by omega, by first | exact Or.inl (⟨by omega, by omega, by omega⟩) | exact Or.inr ((⟨by omega, by omega, by omega⟩))⟩
          · have _q : True := trivial
            exfalso
            omega
      · have _q : True := trivial
        exfalso
        omega
      · have _q : True := trivial
        exfalso
        omega
    · have _q : True := trivial
      exfalso
      omega
  · have _q : True := trivial
    refine jx_ld (pc' := 5) (l' := [(0, .ref 66)]) (st' := [.ref 66]) rfl (jl_aloadn rfl) ?_
    refine jx_ar (pc' := 6) (st' := [.int (i32 (1)), .ref 66]) rfl rfl rfl rfl ?_
    refine jx_vr (pc' := 9) (as := [.int (i32 (1))]) (st := []) rfl rfl rfl rfl ⟨rfl, rfl, Nat.le_of_ble_eq_true rfl⟩ rfl rfl (c_need (dd := d) (hd := by omega) (hW := hW5) (g := 1) (ln := ln) (e_ln := show G1 9 = ln from ((hF6.1 9 rfl).trans (e_ln))) (le := le) (e_le := show A2 4 (ln).toNat = le from (congrFun (hF6.2 4 rfl) _).trans (e_le)) (at0 := at0) (e_at0 := show G1 10 = at0 from ((hF6.1 10 rfl).trans (e_at0))) (fk := fk2_3) (e_fk := show G1 16 = fk2_3 from (e7)) (tk0 := tk0) (e_tk0 := show G1 11 = tk0 from ((hF6.1 11 rfl).trans (e_tk0)))  (h_g := by omega)  (p_0 := by omega)) (fun o V' hq => ?_)
    obtain ⟨G132, A133, at2_134, tk2_135, fk2_136, rfl, rfl, hW137, hF138, e139, e140, e141, p142, p143, q144⟩ := hq
    have hF145 := Fr_tr hF11 hF138 (Fr_sub (by decide)) (Fr_sub (by decide))
    have bat2_134 : (0 : Int) ≤ at2_134 ∧ at2_134 ≤ 3002 := e139 ▸ hW137.1 10
    have ztk2_135 := tz_b tk2_135
    have btk2_135 : (0 : Int) ≤ tk2_135 ∧ tk2_135 ≤ 5 := e140 ▸ hW137.1 11
    have bfk2_136 : (0 : Int) ≤ fk2_136 ∧ fk2_136 ≤ 6 := e141 ▸ hW137.1 16
    refine .inl ⟨rfl, ?_⟩
    rcases q144 with ⟨a146, a147, a148, a149⟩ | ⟨a150, a151, a152, a153⟩
    · have _q : True := trivial
      refine jx_ld (pc' := 10) (l' := [(0, .ref 66)]) (st' := [.ref 66]) rfl (jl_aloadn rfl) ?_
      refine jx_vr (pc' := 13) (as := []) (st := []) rfl rfl rfl rfl ⟨rfl, rfl, Nat.le_of_ble_eq_true rfl⟩ rfl rfl (hE (dd := d) (hd := by omega) (hW := hW137)  (ln := ln) (e_ln := show G132 9 = ln from ((hF138.1 9 rfl).trans ((hF6.1 9 rfl).trans (e_ln)))) (le := le) (e_le := show A133 4 (ln).toNat = le from (congrFun ((hF138.2 4 rfl).trans (hF6.2 4 rfl)) _).trans (e_le)) (at0 := at2_134) (e_at0 := show G132 10 = at2_134 from (e139)) (fk := fk2_136) (e_fk := show G132 16 = fk2_136 from (e141)) (op0 := op2_4) (e_op0 := show G132 15 = op2_4 from ((hF138.1 15 rfl).trans (e8))) (nd := nd) (e_nd := show G132 31 = nd from ((hF138.1 31 rfl).trans ((hF6.1 31 rfl).trans (e_nd)))) (tk0 := tk2_135) (e_tk0 := show G132 11 = tk2_135 from (e140))    (p_0 := by omega) (p_1 := by omega) (p_2 := by omega) (p_3 := by omega) (p_4 := by omega) (p_5 := by omega)) (fun o V' hq => ?_)
      obtain ⟨G154, A155, r156, at2_157, fk2_158, op2_159, nd2_160, tk2_161, rfl, rfl, hW162, hF163, b164, e165, e166, e167, e168, e169, p170, p171, p172, p173, p174, p175, q176⟩ := hq
      have hF177 := Fr_tr hF145 hF163 (Fr_sub (by decide)) (Fr_sub (by decide))
      have bat2_157 : (0 : Int) ≤ at2_157 ∧ at2_157 ≤ 3002 := e165 ▸ hW162.1 10
      have bfk2_158 : (0 : Int) ≤ fk2_158 ∧ fk2_158 ≤ 6 := e166 ▸ hW162.1 16
      have bop2_159 : (-2147483648 : Int) ≤ op2_159 ∧ op2_159 ≤ 2147483647 := e167 ▸ hW162.1 15
      have bnd2_160 : (0 : Int) ≤ nd2_160 ∧ nd2_160 ≤ 6999 := e168 ▸ hW162.1 31
      have ztk2_161 := tz_b tk2_161
      have btk2_161 : (0 : Int) ≤ tk2_161 ∧ tk2_161 ≤ 5 := e169 ▸ hW162.1 11
      refine .inr ⟨_, rfl, ?_⟩
      rcases q176 with ⟨a178, a179, a180, a181, a182, a183⟩ | ⟨a184, a185, a186⟩ | ⟨a187, a188, a189⟩
      · have _q : True := trivial
        refine jx_ld (pc' := 14) (l' := jSto1 [(0, .ref 66)] 1 (.int (i32 (r156)))) (st' := []) rfl rfl ?_
        obtain ⟨L190, eL190⟩ : ∃ q, q = jSto1 [(0, .ref 66)] 1 (.int (i32 (r156))) := ⟨_, rfl⟩
        rw [← eL190]
        have gL190_0 : jGet L190 0 = some (.ref 66) := eL190 ▸ jg_ne (by decide) (rfl : jGet [(0, .ref 66)] 0 = some (.ref 66)) rfl
        have gL190_1 : jGet L190 1 = some (.int (i32 (r156))) := eL190 ▸ jg_eq
        refine jx_ld (pc' := 15) (l' := L190) (st' := [.ref 66]) rfl (jl_aloadn gL190_0) ?_
        refine jx_ld (pc' := 16) (l' := L190) (st' := [.ref 66, .ref 66]) rfl (jl_aloadn gL190_0) ?_
        refine jx_ar (pc' := 18) (st' := [.int (i32 (93)), .ref 66, .ref 66]) rfl rfl rfl rfl ?_
        have b191 : (-2147483648 : Int) ≤ G154 13 ∧ G154 13 ≤ 2147483647 := hW162.1 13
        refine jx_vr (pc' := 21) (as := [.int (i32 (93))]) (st := [.ref 66]) rfl rfl rfl rfl ⟨rfl, rfl, Nat.le_of_ble_eq_true rfl⟩ rfl rfl (c_is (dd := d) (hd := by omega) (hW := hW162) (k := 93) (tk := tk2_161) (e_tk := show G154 11 = tk2_161 from (e169)) (tn := G154 13) (e_tn := show G154 13 = G154 13 from rfl)  (h_k := by omega)  ) (fun o V' hq => ?_)
        obtain ⟨r192, rfl, rfl, b193, q194⟩ := hq
        refine .inr ⟨_, rfl, ?_⟩
        rcases q194 with ⟨rfl, a195, a196, a197⟩ | rfl
        · have _q : True := trivial
          refine jx_vr (pc' := 24) (as := [.int (i32 (1))]) (st := []) rfl rfl rfl rfl ⟨rfl, rfl, Nat.le_of_ble_eq_true rfl⟩ rfl rfl (c_need (dd := d) (hd := by omega) (hW := hW162) (g := 1) (ln := ln) (e_ln := show G154 9 = ln from ((hF163.1 9 rfl).trans ((hF138.1 9 rfl).trans ((hF6.1 9 rfl).trans (e_ln))))) (le := le) (e_le := show A155 4 (ln).toNat = le from (congrFun ((hF163.2 4 rfl).trans ((hF138.2 4 rfl).trans (hF6.2 4 rfl))) _).trans (e_le)) (at0 := at2_157) (e_at0 := show G154 10 = at2_157 from (e165)) (fk := fk2_158) (e_fk := show G154 16 = fk2_158 from (e166)) (tk0 := tk2_161) (e_tk0 := show G154 11 = tk2_161 from (e169))  (h_g := by omega)  (p_0 := by omega)) (fun o V' hq => ?_)
          obtain ⟨G198, A199, at2_200, tk2_201, fk2_202, rfl, rfl, hW203, hF204, e205, e206, e207, p208, p209, q210⟩ := hq
          have hF211 := Fr_tr hF177 hF204 (Fr_sub (by decide)) (Fr_sub (by decide))
          have bat2_200 : (0 : Int) ≤ at2_200 ∧ at2_200 ≤ 3002 := e205 ▸ hW203.1 10
          have ztk2_201 := tz_b tk2_201
          have btk2_201 : (0 : Int) ≤ tk2_201 ∧ tk2_201 ≤ 5 := e206 ▸ hW203.1 11
          have bfk2_202 : (0 : Int) ≤ fk2_202 ∧ fk2_202 ≤ 6 := e207 ▸ hW203.1 16
          refine .inl ⟨rfl, ?_⟩
          rcases q210 with ⟨a212, a213, a214, a215⟩ | ⟨a216, a217, a218, a219⟩
          · have _q : True := trivial
            refine jx_ld (pc' := 25) (l' := L190) (st' := [.ref 66]) rfl (jl_aloadn gL190_0) ?_
            refine jx_ar (pc' := 26) (st' := [.ref 66, .ref 66]) rfl rfl rfl rfl ?_
            refine jr_get (pc' := 29) (i := 15) (v := .int (i32 (op2_159))) rfl rfl (by decide) (rFv_eq (by decide) (show G198 15 = op2_159 from ((hF204.1 15 rfl).trans (e167)))) rfl ?_
            refine jx_ar (pc' := 30) (st' := [.int (i32 (1)), .int (i32 (op2_159)), .ref 66]) rfl rfl rfl rfl ?_
            refine jx_sub (pc' := 31) rfl rfl ?_
            refine jr_put (pc' := 34) (i := 15) (z := (op2_159 - 1)) rfl rfl (by decide) rfl rfl rfl rfl rfl rfl ?_
            have hW220 : Wk (uG G198 15 ((op2_159 - 1))) A199 := Wk_g hW203 (show (-2147483648 : Int) ≤ (op2_159 - 1) by omega) (show (op2_159 - 1) ≤ (2147483647 : Int) by omega)
            have hF221 := Fr_g (z := (op2_159 - 1)) (i := 15) hF211 (by decide)
            refine jx_ld (pc' := 35) (l' := L190) (st' := [.int (i32 (r156))]) rfl (jl_iloadn gL190_1) ?_
            refine jx_rt (v := some (.int (i32 (r156)))) rfl rfl rfl rfl rfl rfl ?_
            have z222 := tz_f (tk2_201)
            exact ⟨_, _, _, at2_200, fk2_202, (op2_159 - 1), nd2_160, tk2_201, rfl, rfl, hW220, hF221, by omega, (e205), (e207), rfl, ((hF204.1 31 rfl).trans (e168)), (e206), by omega, by omega, by omega, by omega, by omega, by omega, by first | exact Or.inl (⟨by omega, by omega, by omega⟩) | exact Or.inr ((⟨by omega, by omega, by omega⟩))⟩
          · have _q : True := trivial
            exfalso
            omega
        · have _q : True := trivial
          refine jx_vr (pc' := 24) (as := [.int (i32 (0))]) (st := []) rfl rfl rfl rfl ⟨rfl, rfl, Nat.le_of_ble_eq_true rfl⟩ rfl rfl (c_need (dd := d) (hd := by omega) (hW := hW162) (g := 0) (ln := ln) (e_ln := show G154 9 = ln from ((hF163.1 9 rfl).trans ((hF138.1 9 rfl).trans ((hF6.1 9 rfl).trans (e_ln))))) (le := le) (e_le := show A155 4 (ln).toNat = le from (congrFun ((hF163.2 4 rfl).trans ((hF138.2 4 rfl).trans (hF6.2 4 rfl))) _).trans (e_le)) (at0 := at2_157) (e_at0 := show G154 10 = at2_157 from (e165)) (fk := fk2_158) (e_fk := show G154 16 = fk2_158 from (e166)) (tk0 := tk2_161) (e_tk0 := show G154 11 = tk2_161 from (e169))  (h_g := by omega)  (p_0 := by omega)) (fun o V' hq => ?_)
          obtain ⟨G223, A224, at2_225, tk2_226, fk2_227, rfl, rfl, hW228, hF229, e230, e231, e232, p233, p234, q235⟩ := hq
          have hF236 := Fr_tr hF177 hF229 (Fr_sub (by decide)) (Fr_sub (by decide))
          have bat2_225 : (0 : Int) ≤ at2_225 ∧ at2_225 ≤ 3002 := e230 ▸ hW228.1 10
          have ztk2_226 := tz_b tk2_226
          have btk2_226 : (0 : Int) ≤ tk2_226 ∧ tk2_226 ≤ 5 := e231 ▸ hW228.1 11
          have bfk2_227 : (0 : Int) ≤ fk2_227 ∧ fk2_227 ≤ 6 := e232 ▸ hW228.1 16
          refine .inl ⟨rfl, ?_⟩
          rcases q235 with ⟨a237, a238, a239, a240⟩ | ⟨a241, a242, a243, a244⟩
          · have _q : True := trivial
            refine jx_ld (pc' := 25) (l' := L190) (st' := [.ref 66]) rfl (jl_aloadn gL190_0) ?_
            refine jx_ar (pc' := 26) (st' := [.ref 66, .ref 66]) rfl rfl rfl rfl ?_
            refine jr_get (pc' := 29) (i := 15) (v := .int (i32 (op2_159))) rfl rfl (by decide) (rFv_eq (by decide) (show G223 15 = op2_159 from ((hF229.1 15 rfl).trans (e167)))) rfl ?_
            refine jx_ar (pc' := 30) (st' := [.int (i32 (1)), .int (i32 (op2_159)), .ref 66]) rfl rfl rfl rfl ?_
            refine jx_sub (pc' := 31) rfl rfl ?_
            refine jr_put (pc' := 34) (i := 15) (z := (op2_159 - 1)) rfl rfl (by decide) rfl rfl rfl rfl rfl rfl ?_
            have hW245 : Wk (uG G223 15 ((op2_159 - 1))) A224 := Wk_g hW228 (show (-2147483648 : Int) ≤ (op2_159 - 1) by omega) (show (op2_159 - 1) ≤ (2147483647 : Int) by omega)
            have hF246 := Fr_g (z := (op2_159 - 1)) (i := 15) hF236 (by decide)
            refine jx_ld (pc' := 35) (l' := L190) (st' := [.int (i32 (r156))]) rfl (jl_iloadn gL190_1) ?_
            refine jx_rt (v := some (.int (i32 (r156)))) rfl rfl rfl rfl rfl rfl ?_
            have z247 := tz_f (tk2_226)
            exact ⟨_, _, _, at2_225, fk2_227, (op2_159 - 1), nd2_160, tk2_226, rfl, rfl, hW245, hF246, by omega, (e230), (e232), rfl, ((hF229.1 31 rfl).trans (e168)), (e231), by omega, by omega, by omega, by omega, by omega, by omega, by first | exact Or.inl (⟨by omega, by omega, by omega⟩) | exact Or.inr ((⟨by omega, by omega, by omega⟩))⟩
          · have _q : True := trivial
            exfalso
            omega
      · have _q : True := trivial
        exfalso
        omega
      · have _q : True := trivial
        exfalso
        omega
    · have _q : True := trivial
      refine jx_ld (pc' := 10) (l' := [(0, .ref 66)]) (st' := [.ref 66]) rfl (jl_aloadn rfl) ?_
      refine jx_vr (pc' := 13) (as := []) (st := []) rfl rfl rfl rfl ⟨rfl, rfl, Nat.le_of_ble_eq_true rfl⟩ rfl rfl (hE (dd := d) (hd := by omega) (hW := hW137)  (ln := ln) (e_ln := show G132 9 = ln from ((hF138.1 9 rfl).trans ((hF6.1 9 rfl).trans (e_ln)))) (le := le) (e_le := show A133 4 (ln).toNat = le from (congrFun ((hF138.2 4 rfl).trans (hF6.2 4 rfl)) _).trans (e_le)) (at0 := at2_134) (e_at0 := show G132 10 = at2_134 from (e139)) (fk := fk2_136) (e_fk := show G132 16 = fk2_136 from (e141)) (op0 := op2_4) (e_op0 := show G132 15 = op2_4 from ((hF138.1 15 rfl).trans (e8))) (nd := nd) (e_nd := show G132 31 = nd from ((hF138.1 31 rfl).trans ((hF6.1 31 rfl).trans (e_nd)))) (tk0 := tk2_135) (e_tk0 := show G132 11 = tk2_135 from (e140))    (p_0 := by omega) (p_1 := by omega) (p_2 := by omega) (p_3 := by omega) (p_4 := by omega) (p_5 := by omega)) (fun o V' hq => ?_)
      obtain ⟨G248, A249, r250, at2_251, fk2_252, op2_253, nd2_254, tk2_255, rfl, rfl, hW256, hF257, b258, e259, e260, e261, e262, e263, p264, p265, p266, p267, p268, p269, q270⟩ := hq
      have hF271 := Fr_tr hF145 hF257 (Fr_sub (by decide)) (Fr_sub (by decide))
      have bat2_251 : (0 : Int) ≤ at2_251 ∧ at2_251 ≤ 3002 := e259 ▸ hW256.1 10
      have bfk2_252 : (0 : Int) ≤ fk2_252 ∧ fk2_252 ≤ 6 := e260 ▸ hW256.1 16
      have bop2_253 : (-2147483648 : Int) ≤ op2_253 ∧ op2_253 ≤ 2147483647 := e261 ▸ hW256.1 15
      have bnd2_254 : (0 : Int) ≤ nd2_254 ∧ nd2_254 ≤ 6999 := e262 ▸ hW256.1 31
      have ztk2_255 := tz_b tk2_255
      have btk2_255 : (0 : Int) ≤ tk2_255 ∧ tk2_255 ≤ 5 := e263 ▸ hW256.1 11
      refine .inr ⟨_, rfl, ?_⟩
      rcases q270 with ⟨a272, a273, a274, a275, a276, a277⟩ | ⟨a278, a279, a280⟩ | ⟨a281, a282, a283⟩
      · have _q : True := trivial
        exfalso
        omega
      · have _q : True := trivial
        refine jx_ld (pc' := 14) (l' := jSto1 [(0, .ref 66)] 1 (.int (i32 (r250)))) (st' := []) rfl rfl ?_
        obtain ⟨L284, eL284⟩ : ∃ q, q = jSto1 [(0, .ref 66)] 1 (.int (i32 (r250))) := ⟨_, rfl⟩
        rw [← eL284]
        have gL284_0 : jGet L284 0 = some (.ref 66) := eL284 ▸ jg_ne (by decide) (rfl : jGet [(0, .ref 66)] 0 = some (.ref 66)) rfl
        have gL284_1 : jGet L284 1 = some (.int (i32 (r250))) := eL284 ▸ jg_eq
        refine jx_ld (pc' := 15) (l' := L284) (st' := [.ref 66]) rfl (jl_aloadn gL284_0) ?_
        refine jx_ld (pc' := 16) (l' := L284) (st' := [.ref 66, .ref 66]) rfl (jl_aloadn gL284_0) ?_
        refine jx_ar (pc' := 18) (st' := [.int (i32 (93)), .ref 66, .ref 66]) rfl rfl rfl rfl ?_
        have b285 : (-2147483648 : Int) ≤ G248 13 ∧ G248 13 ≤ 2147483647 := hW256.1 13
        refine jx_vr (pc' := 21) (as := [.int (i32 (93))]) (st := [.ref 66]) rfl rfl rfl rfl ⟨rfl, rfl, Nat.le_of_ble_eq_true rfl⟩ rfl rfl (c_is (dd := d) (hd := by omega) (hW := hW256) (k := 93) (tk := tk2_255) (e_tk := show G248 11 = tk2_255 from (e263)) (tn := G248 13) (e_tn := show G248 13 = G248 13 from rfl)  (h_k := by omega)  ) (fun o V' hq => ?_)
        obtain ⟨r286, rfl, rfl, b287, q288⟩ := hq
        refine .inr ⟨_, rfl, ?_⟩
        rcases q288 with ⟨rfl, a289, a290, a291⟩ | rfl
        · have _q : True := trivial
          refine jx_vr (pc' := 24) (as := [.int (i32 (1))]) (st := []) rfl rfl rfl rfl ⟨rfl, rfl, Nat.le_of_ble_eq_true rfl⟩ rfl rfl (c_need (dd := d) (hd := by omega) (hW := hW256) (g := 1) (ln := ln) (e_ln := show G248 9 = ln from ((hF257.1 9 rfl).trans ((hF138.1 9 rfl).trans ((hF6.1 9 rfl).trans (e_ln))))) (le := le) (e_le := show A249 4 (ln).toNat = le from (congrFun ((hF257.2 4 rfl).trans ((hF138.2 4 rfl).trans (hF6.2 4 rfl))) _).trans (e_le)) (at0 := at2_251) (e_at0 := show G248 10 = at2_251 from (e259)) (fk := fk2_252) (e_fk := show G248 16 = fk2_252 from (e260)) (tk0 := tk2_255) (e_tk0 := show G248 11 = tk2_255 from (e263))  (h_g := by omega)  (p_0 := by omega)) (fun o V' hq => ?_)
          obtain ⟨G292, A293, at2_294, tk2_295, fk2_296, rfl, rfl, hW297, hF298, e299, e300, e301, p302, p303, q304⟩ := hq
          have hF305 := Fr_tr hF271 hF298 (Fr_sub (by decide)) (Fr_sub (by decide))
          have bat2_294 : (0 : Int) ≤ at2_294 ∧ at2_294 ≤ 3002 := e299 ▸ hW297.1 10
          have ztk2_295 := tz_b tk2_295
          have btk2_295 : (0 : Int) ≤ tk2_295 ∧ tk2_295 ≤ 5 := e300 ▸ hW297.1 11
          have bfk2_296 : (0 : Int) ≤ fk2_296 ∧ fk2_296 ≤ 6 := e301 ▸ hW297.1 16
          refine .inl ⟨rfl, ?_⟩
          rcases q304 with ⟨a306, a307, a308, a309⟩ | ⟨a310, a311, a312, a313⟩
          · have _q : True := trivial
            refine jx_ld (pc' := 25) (l' := L284) (st' := [.ref 66]) rfl (jl_aloadn gL284_0) ?_
            refine jx_ar (pc' := 26) (st' := [.ref 66, .ref 66]) rfl rfl rfl rfl ?_
            refine jr_get (pc' := 29) (i := 15) (v := .int (i32 (op2_253))) rfl rfl (by decide) (rFv_eq (by decide) (show G292 15 = op2_253 from ((hF298.1 15 rfl).trans (e261)))) rfl ?_
            refine jx_ar (pc' := 30) (st' := [.int (i32 (1)), .int (i32 (op2_253)), .ref 66]) rfl rfl rfl rfl ?_
            refine jx_sub (pc' := 31) rfl rfl ?_
            refine jr_put (pc' := 34) (i := 15) (z := (op2_253 - 1)) rfl rfl (by decide) rfl rfl rfl rfl rfl rfl ?_
            have hW314 : Wk (uG G292 15 ((op2_253 - 1))) A293 := Wk_g hW297 (show (-2147483648 : Int) ≤ (op2_253 - 1) by omega) (show (op2_253 - 1) ≤ (2147483647 : Int) by omega)
            have hF315 := Fr_g (z := (op2_253 - 1)) (i := 15) hF305 (by decide)
            refine jx_ld (pc' := 35) (l' := L284) (st' := [.int (i32 (r250))]) rfl (jl_iloadn gL284_1) ?_
            refine jx_rt (v := some (.int (i32 (r250)))) rfl rfl rfl rfl rfl rfl ?_
            have z316 := tz_f (tk2_295)
            exact ⟨_, _, _, at2_294, fk2_296, (op2_253 - 1), nd2_254, tk2_295, rfl, rfl, hW314, hF315, by omega, (e299), (e301), rfl, ((hF298.1 31 rfl).trans (e262)), (e300), by omega, by omega, by omega, by omega, by omega, by omega, by first | exact Or.inl (⟨by omega, by omega, by omega⟩) | exact Or.inr ((⟨by omega, by omega, by omega⟩))⟩
          · have _q : True := trivial
            exfalso
            omega
        · have _q : True := trivial
          refine jx_vr (pc' := 24) (as := [.int (i32 (0))]) (st := []) rfl rfl rfl rfl ⟨rfl, rfl, Nat.le_of_ble_eq_true rfl⟩ rfl rfl (c_need (dd := d) (hd := by omega) (hW := hW256) (g := 0) (ln := ln) (e_ln := show G248 9 = ln from ((hF257.1 9 rfl).trans ((hF138.1 9 rfl).trans ((hF6.1 9 rfl).trans (e_ln))))) (le := le) (e_le := show A249 4 (ln).toNat = le from (congrFun ((hF257.2 4 rfl).trans ((hF138.2 4 rfl).trans (hF6.2 4 rfl))) _).trans (e_le)) (at0 := at2_251) (e_at0 := show G248 10 = at2_251 from (e259)) (fk := fk2_252) (e_fk := show G248 16 = fk2_252 from (e260)) (tk0 := tk2_255) (e_tk0 := show G248 11 = tk2_255 from (e263))  (h_g := by omega)  (p_0 := by omega)) (fun o V' hq => ?_)
          obtain ⟨G317, A318, at2_319, tk2_320, fk2_321, rfl, rfl, hW322, hF323, e324, e325, e326, p327, p328, q329⟩ := hq
          have hF330 := Fr_tr hF271 hF323 (Fr_sub (by decide)) (Fr_sub (by decide))
          have bat2_319 : (0 : Int) ≤ at2_319 ∧ at2_319 ≤ 3002 := e324 ▸ hW322.1 10
          have ztk2_320 := tz_b tk2_320
          have btk2_320 : (0 : Int) ≤ tk2_320 ∧ tk2_320 ≤ 5 := e325 ▸ hW322.1 11
          have bfk2_321 : (0 : Int) ≤ fk2_321 ∧ fk2_321 ≤ 6 := e326 ▸ hW322.1 16
          refine .inl ⟨rfl, ?_⟩
          rcases q329 with ⟨a331, a332, a333, a334⟩ | ⟨a335, a336, a337, a338⟩
          · have _q : True := trivial
            refine jx_ld (pc' := 25) (l' := L284) (st' := [.ref 66]) rfl (jl_aloadn gL284_0) ?_
            refine jx_ar (pc' := 26) (st' := [.ref 66, .ref 66]) rfl rfl rfl rfl ?_
            refine jr_get (pc' := 29) (i := 15) (v := .int (i32 (op2_253))) rfl rfl (by decide) (rFv_eq (by decide) (show G317 15 = op2_253 from ((hF323.1 15 rfl).trans (e261)))) rfl ?_
            refine jx_ar (pc' := 30) (st' := [.int (i32 (1)), .int (i32 (op2_253)), .ref 66]) rfl rfl rfl rfl ?_
            refine jx_sub (pc' := 31) rfl rfl ?_
            refine jr_put (pc' := 34) (i := 15) (z := (op2_253 - 1)) rfl rfl (by decide) rfl rfl rfl rfl rfl rfl ?_
            have hW339 : Wk (uG G317 15 ((op2_253 - 1))) A318 := Wk_g hW322 (show (-2147483648 : Int) ≤ (op2_253 - 1) by omega) (show (op2_253 - 1) ≤ (2147483647 : Int) by omega)
            have hF340 := Fr_g (z := (op2_253 - 1)) (i := 15) hF330 (by decide)
            refine jx_ld (pc' := 35) (l' := L284) (st' := [.int (i32 (r250))]) rfl (jl_iloadn gL284_1) ?_
            refine jx_rt (v := some (.int (i32 (r250)))) rfl rfl rfl rfl rfl rfl ?_
            have z341 := tz_f (tk2_320)
            exact ⟨_, _, _, at2_319, fk2_321, (op2_253 - 1), nd2_254, tk2_320, rfl, rfl, hW339, hF340, by omega, (e324), (e326), rfl, ((hF323.1 31 rfl).trans (e262)), (e325), by omega, by omega, by omega, by omega, by omega, by omega, by first | exact Or.inl (⟨by omega, by omega, by omega⟩) | exact Or.inr ((⟨by omega, by omega, by omega⟩))⟩
          · have _q : True := trivial
            exfalso
            omega
      · have _q : True := trivial
        refine jx_ld (pc' := 14) (l' := jSto1 [(0, .ref 66)] 1 (.int (i32 (r250)))) (st' := []) rfl rfl ?_
        obtain ⟨L342, eL342⟩ : ∃ q, q = jSto1 [(0, .ref 66)] 1 (.int (i32 (r250))) := ⟨_, rfl⟩
        rw [← eL342]
        have gL342_0 : jGet L342 0 = some (.ref 66) := eL342 ▸ jg_ne (by decide) (rfl : jGet [(0, .ref 66)] 0 = some (.ref 66)) rfl
        have gL342_1 : jGet L342 1 = some (.int (i32 (r250))) := eL342 ▸ jg_eq
        refine jx_ld (pc' := 15) (l' := L342) (st' := [.ref 66]) rfl (jl_aloadn gL342_0) ?_
        refine jx_ld (pc' := 16) (l' := L342) (st' := [.ref 66, .ref 66]) rfl (jl_aloadn gL342_0) ?_
        refine jx_ar (pc' := 18) (st' := [.int (i32 (93)), .ref 66, .ref 66]) rfl rfl rfl rfl ?_
        have b343 : (-2147483648 : Int) ≤ G248 13 ∧ G248 13 ≤ 2147483647 := hW256.1 13
        refine jx_vr (pc' := 21) (as := [.int (i32 (93))]) (st := [.ref 66]) rfl rfl rfl rfl ⟨rfl, rfl, Nat.le_of_ble_eq_true rfl⟩ rfl rfl (c_is (dd := d) (hd := by omega) (hW := hW256) (k := 93) (tk := tk2_255) (e_tk := show G248 11 = tk2_255 from (e263)) (tn := G248 13) (e_tn := show G248 13 = G248 13 from rfl)  (h_k := by omega)  ) (fun o V' hq => ?_)
        obtain ⟨r344, rfl, rfl, b345, q346⟩ := hq
        refine .inr ⟨_, rfl, ?_⟩
        rcases q346 with ⟨rfl, a347, a348, a349⟩ | rfl
        · have _q : True := trivial
          refine jx_vr (pc' := 24) (as := [.int (i32 (1))]) (st := []) rfl rfl rfl rfl ⟨rfl, rfl, Nat.le_of_ble_eq_true rfl⟩ rfl rfl (c_need (dd := d) (hd := by omega) (hW := hW256) (g := 1) (ln := ln) (e_ln := show G248 9 = ln from ((hF257.1 9 rfl).trans ((hF138.1 9 rfl).trans ((hF6.1 9 rfl).trans (e_ln))))) (le := le) (e_le := show A249 4 (ln).toNat = le from (congrFun ((hF257.2 4 rfl).trans ((hF138.2 4 rfl).trans (hF6.2 4 rfl))) _).trans (e_le)) (at0 := at2_251) (e_at0 := show G248 10 = at2_251 from (e259)) (fk := fk2_252) (e_fk := show G248 16 = fk2_252 from (e260)) (tk0 := tk2_255) (e_tk0 := show G248 11 = tk2_255 from (e263))  (h_g := by omega)  (p_0 := by omega)) (fun o V' hq => ?_)
          obtain ⟨G350, A351, at2_352, tk2_353, fk2_354, rfl, rfl, hW355, hF356, e357, e358, e359, p360, p361, q362⟩ := hq
          have hF363 := Fr_tr hF271 hF356 (Fr_sub (by decide)) (Fr_sub (by decide))
          have bat2_352 : (0 : Int) ≤ at2_352 ∧ at2_352 ≤ 3002 := e357 ▸ hW355.1 10
          have ztk2_353 := tz_b tk2_353
          have btk2_353 : (0 : Int) ≤ tk2_353 ∧ tk2_353 ≤ 5 := e358 ▸ hW355.1 11
          have bfk2_354 : (0 : Int) ≤ fk2_354 ∧ fk2_354 ≤ 6 := e359 ▸ hW355.1 16
          refine .inl ⟨rfl, ?_⟩
          rcases q362 with ⟨a364, a365, a366, a367⟩ | ⟨a368, a369, a370, a371⟩
          · have _q : True := trivial
            refine jx_ld (pc' := 25) (l' := L342) (st' := [.ref 66]) rfl (jl_aloadn gL342_0) ?_
            refine jx_ar (pc' := 26) (st' := [.ref 66, .ref 66]) rfl rfl rfl rfl ?_
            refine jr_get (pc' := 29) (i := 15) (v := .int (i32 (op2_253))) rfl rfl (by decide) (rFv_eq (by decide) (show G350 15 = op2_253 from ((hF356.1 15 rfl).trans (e261)))) rfl ?_
            refine jx_ar (pc' := 30) (st' := [.int (i32 (1)), .int (i32 (op2_253)), .ref 66]) rfl rfl rfl rfl ?_
            refine jx_sub (pc' := 31) rfl rfl ?_
            refine jr_put (pc' := 34) (i := 15) (z := (op2_253 - 1)) rfl rfl (by decide) rfl rfl rfl rfl rfl rfl ?_
            have hW372 : Wk (uG G350 15 ((op2_253 - 1))) A351 := Wk_g hW355 (show (-2147483648 : Int) ≤ (op2_253 - 1) by omega) (show (op2_253 - 1) ≤ (2147483647 : Int) by omega)
            have hF373 := Fr_g (z := (op2_253 - 1)) (i := 15) hF363 (by decide)
            refine jx_ld (pc' := 35) (l' := L342) (st' := [.int (i32 (r250))]) rfl (jl_iloadn gL342_1) ?_
            refine jx_rt (v := some (.int (i32 (r250)))) rfl rfl rfl rfl rfl rfl ?_
            have z374 := tz_f (tk2_353)
            exact ⟨_, _, _, at2_352, fk2_354, (op2_253 - 1), nd2_254, tk2_353, rfl, rfl, hW372, hF373, by omega, (e357), (e359), rfl, ((hF356.1 31 rfl).trans (e262)), (e358), by omega, by omega, by omega, by omega, by omega, by omega, by first | exact Or.inl (⟨by omega, by omega, by omega⟩) | exact Or.inr ((⟨by omega, by omega, by omega⟩))⟩
          · have _q : True := trivial
            refine jx_ld (pc' := 25) (l' := L342) (st' := [.ref 66]) rfl (jl_aloadn gL342_0) ?_
            refine jx_ar (pc' := 26) (st' := [.ref 66, .ref 66]) rfl rfl rfl rfl ?_
            refine jr_get (pc' := 29) (i := 15) (v := .int (i32 (op2_253))) rfl rfl (by decide) (rFv_eq (by decide) (show G350 15 = op2_253 from ((hF356.1 15 rfl).trans (e261)))) rfl ?_
            refine jx_ar (pc' := 30) (st' := [.int (i32 (1)), .int (i32 (op2_253)), .ref 66]) rfl rfl rfl rfl ?_
            refine jx_sub (pc' := 31) rfl rfl ?_
            refine jr_put (pc' := 34) (i := 15) (z := (op2_253 - 1)) rfl rfl (by decide) rfl rfl rfl rfl rfl rfl ?_
            have hW375 : Wk (uG G350 15 ((op2_253 - 1))) A351 := Wk_g hW355 (show (-2147483648 : Int) ≤ (op2_253 - 1) by omega) (show (op2_253 - 1) ≤ (2147483647 : Int) by omega)
            have hF376 := Fr_g (z := (op2_253 - 1)) (i := 15) hF363 (by decide)
            refine jx_ld (pc' := 35) (l' := L342) (st' := [.int (i32 (r250))]) rfl (jl_iloadn gL342_1) ?_
            refine jx_rt (v := some (.int (i32 (r250)))) rfl rfl rfl rfl rfl rfl ?_
            have z377 := tz_f (tk2_353)
            exact ⟨_, _, _, at2_352, fk2_354, (op2_253 - 1), nd2_254, tk2_353, rfl, rfl, hW375, hF376, by omega, (e357), (e359), rfl, ((hF356.1 31 rfl).trans (e262)), (e358), by omega, by omega, by omega, by omega, by omega, by omega, by first | exact Or.inl (⟨by omega, by omega, by omega⟩) | exact Or.inr ((⟨by omega, by omega, by omega⟩))⟩
        · have _q : True := trivial
          refine jx_vr (pc' := 24) (as := [.int (i32 (0))]) (st := []) rfl rfl rfl rfl ⟨rfl, rfl, Nat.le_of_ble_eq_true rfl⟩ rfl rfl (c_need (dd := d) (hd := by omega) (hW := hW256) (g := 0) (ln := ln) (e_ln := show G248 9 = ln from ((hF257.1 9 rfl).trans ((hF138.1 9 rfl).trans ((hF6.1 9 rfl).trans (e_ln))))) (le := le) (e_le := show A249 4 (ln).toNat = le from (congrFun ((hF257.2 4 rfl).trans ((hF138.2 4 rfl).trans (hF6.2 4 rfl))) _).trans (e_le)) (at0 := at2_251) (e_at0 := show G248 10 = at2_251 from (e259)) (fk := fk2_252) (e_fk := show G248 16 = fk2_252 from (e260)) (tk0 := tk2_255) (e_tk0 := show G248 11 = tk2_255 from (e263))  (h_g := by omega)  (p_0 := by omega)) (fun o V' hq => ?_)
          obtain ⟨G378, A379, at2_380, tk2_381, fk2_382, rfl, rfl, hW383, hF384, e385, e386, e387, p388, p389, q390⟩ := hq
          have hF391 := Fr_tr hF271 hF384 (Fr_sub (by decide)) (Fr_sub (by decide))
          have bat2_380 : (0 : Int) ≤ at2_380 ∧ at2_380 ≤ 3002 := e385 ▸ hW383.1 10
          have ztk2_381 := tz_b tk2_381
          have btk2_381 : (0 : Int) ≤ tk2_381 ∧ tk2_381 ≤ 5 := e386 ▸ hW383.1 11
          have bfk2_382 : (0 : Int) ≤ fk2_382 ∧ fk2_382 ≤ 6 := e387 ▸ hW383.1 16
          refine .inl ⟨rfl, ?_⟩
          rcases q390 with ⟨a392, a393, a394, a395⟩ | ⟨a396, a397, a398, a399⟩
          · have _q : True := trivial
            refine jx_ld (pc' := 25) (l' := L342) (st' := [.ref 66]) rfl (jl_aloadn gL342_0) ?_
            refine jx_ar (pc' := 26) (st' := [.ref 66, .ref 66]) rfl rfl rfl rfl ?_
            refine jr_get (pc' := 29) (i := 15) (v := .int (i32 (op2_253))) rfl rfl (by decide) (rFv_eq (by decide) (show G378 15 = op2_253 from ((hF384.1 15 rfl).trans (e261)))) rfl ?_
            refine jx_ar (pc' := 30) (st' := [.int (i32 (1)), .int (i32 (op2_253)), .ref 66]) rfl rfl rfl rfl ?_
            refine jx_sub (pc' := 31) rfl rfl ?_
            refine jr_put (pc' := 34) (i := 15) (z := (op2_253 - 1)) rfl rfl (by decide) rfl rfl rfl rfl rfl rfl ?_
            have hW400 : Wk (uG G378 15 ((op2_253 - 1))) A379 := Wk_g hW383 (show (-2147483648 : Int) ≤ (op2_253 - 1) by omega) (show (op2_253 - 1) ≤ (2147483647 : Int) by omega)
            have hF401 := Fr_g (z := (op2_253 - 1)) (i := 15) hF391 (by decide)
            refine jx_ld (pc' := 35) (l' := L342) (st' := [.int (i32 (r250))]) rfl (jl_iloadn gL342_1) ?_
            refine jx_rt (v := some (.int (i32 (r250)))) rfl rfl rfl rfl rfl rfl ?_
            have z402 := tz_f (tk2_381)
            exact ⟨_, _, _, at2_380, fk2_382, (op2_253 - 1), nd2_254, tk2_381, rfl, rfl, hW400, hF401, by omega, (e385), (e387), rfl, ((hF384.1 31 rfl).trans (e262)), (e386), by omega, by omega, by omega, by omega, by omega, by omega, by first | exact Or.inl (⟨by omega, by omega, by omega⟩) | exact Or.inr ((⟨by omega, by omega, by omega⟩))⟩
          · have _q : True := trivial
            exfalso
            omega
set_option maxRecDepth 20000 in
set_option maxHeartbeats 4000000 in
theorem c_readValue {X : jX} {k : Nat} (hE : RE X k) {dd : Nat} {c0 c1 : jC} {G : Nat → Int} {A : Nat → Nat → Int} {T : jH} {s place : Int} {ln le at0 fk op0 nd tk0 : Int} (hd : 6 * k + 13 ≤ dd) (hW : Wk G A) (e_ln : G 9 = ln) (e_le : A 4 (ln).toNat = le) (e_at0 : G 10 = at0) (e_fk : G 16 = fk) (e_op0 : G 15 = op0) (e_nd : G 31 = nd) (e_tk0 : G 11 = tk0) (h_s : (-2147483648 : Int) ≤ s ∧ s ≤ 2147483647) (h_place : (-2147483648 : Int) ≤ place ∧ place ≤ 2147483647) (p_0 : 0 ≤ op0) (p_1 : op0 ≤ 9) (p_2 : op0 ≤ 8 ∨ 1 ≤ fk) (p_3 : 9 - op0 ≤ ((k + 1 : Nat) : Int) ∨ 1 ≤ fk) (p_4 : nd ≤ 2 * at0 - tz tk0 + 50) (p_5 : at0 ≤ le) (p_6 : op0 ≤ 8) (p_7 : fk = 0) (p_8 : 0 ≤ s ∧ s ≤ 201) (p_9 : -3000 ≤ place ∧ place ≤ 3002) : wk X dd 289 [.ref 66, .int (i32 s), .int (i32 place)] (rV c0 c1 G A T) (fun o V' => ∃ (G' : Nat → Int) (A' : Nat → Nat → Int) (r : Int) (at2 : Int) (fk2 : Int) (op2 : Int) (nd2 : Int) (tk2 : Int), V' = rV c0 c1 G' A' T ∧ o = .inl (some (.int (i32 r))) ∧ Wk G' A' ∧ Fr [10, 11, 12, 13, 14, 15, 16, 17, 18, 31] [15, 16, 17, 18, 19, 20, 21, 22, 24, 28] G A G' A' ∧ ((-2147483648 : Int) ≤ r ∧ r ≤ 2147483647) ∧ G' 10 = at2 ∧ G' 16 = fk2 ∧ G' 15 = op2 ∧ G' 31 = nd2 ∧ G' 11 = tk2 ∧ (at0 ≤ at2) ∧ (at2 ≤ le) ∧ (nd ≤ nd2) ∧ (op2 = op0) ∧ (0 ≤ r) ∧ (r ≤ nd2) ∧ (((fk = 0) ∧ (1 ≤ fk2) ∧ (nd2 - nd ≤ (2 * at2 - tz tk2) - (2 * at0 - tz tk0) + 2)) ∨ ((fk = 0) ∧ (fk2 = 0) ∧ (nd2 - nd ≤ (2 * at2 - tz tk2) - (2 * at0 - tz tk0) + 1)))) := by
  obtain ⟨d, rfl⟩ : ∃ d, dd = d + 1 := ⟨dd - 1, by omega⟩
  refine wk_of (e := jm289) rfl (Nat.le_of_ble_eq_true rfl) ?_
  show wj X d jm289 (0, [(0, .ref 66), (1, .int (i32 (s))), (2, .int (i32 (place)))], [], rV c0 c1 G A T) _
  have hF0 : Fr [10, 11, 12, 13, 14, 15, 16, 17, 18, 31] [15, 16, 17, 18, 19, 20, 21, 22, 24, 28] G A G A := Fr_rf
  have b_ln : (0 : Int) ≤ ln ∧ ln ≤ 3000 := e_ln ▸ hW.1 9
  have b_le : (0 : Int) ≤ le ∧ le ≤ 3000 := e_le ▸ hW.2 4 _
  have b_at0 : (0 : Int) ≤ at0 ∧ at0 ≤ 3002 := e_at0 ▸ hW.1 10
  have b_fk : (0 : Int) ≤ fk ∧ fk ≤ 6 := e_fk ▸ hW.1 16
  have b_op0 : (-2147483648 : Int) ≤ op0 ∧ op0 ≤ 2147483647 := e_op0 ▸ hW.1 15
  have b_nd : (0 : Int) ≤ nd ∧ nd ≤ 6999 := e_nd ▸ hW.1 31
  have z_tk0 := tz_f tk0
  have b_tk0 : (0 : Int) ≤ tk0 ∧ tk0 ≤ 5 := e_tk0 ▸ hW.1 11
  refine jx_ld (pc' := 1) (l' := [(0, .ref 66), (1, .int (i32 (s))), (2, .int (i32 (place)))]) (st' := [.ref 66]) rfl (jl_aloadn rfl) ?_
  refine jx_ar (pc' := 3) (st' := [.int (i32 (91)), .ref 66]) rfl rfl rfl rfl ?_
  have b1 : (-2147483648 : Int) ≤ G 13 ∧ G 13 ≤ 2147483647 := hW.1 13
  refine jx_vr (pc' := 6) (as := [.int (i32 (91))]) (st := []) rfl rfl rfl rfl ⟨rfl, rfl, Nat.le_of_ble_eq_true rfl⟩ rfl rfl (c_is (dd := d) (hd := by omega) (hW := hW) (k := 91) (tk := tk0) (e_tk := show G 11 = tk0 from (e_tk0)) (tn := G 13) (e_tn := show G 13 = G 13 from rfl)  (h_k := by omega)  ) (fun o V' hq => ?_)
  obtain ⟨r2, rfl, rfl, b3, q4⟩ := hq
  refine .inr ⟨_, rfl, ?_⟩
  rcases q4 with ⟨rfl, a5, a6, a7⟩ | rfl
  · have _q : True := trivial
    refine jx_if_eq (pc' := 9) (tg := 44) rfl rfl rfl (by omega) (by omega) (fun h8 => ?_) (fun h8 => ?_)
    · have _q := h8
      exact absurd h8 (by omega)
    · have _q := h8
      refine jx_ld (pc' := 10) (l' := [(0, .ref 66), (1, .int (i32 (s))), (2, .int (i32 (place)))]) (st' := [.ref 66]) rfl (jl_aloadn rfl) ?_
      refine jr_get (pc' := 13) (i := 21) (v := .ref 74) rfl rfl (by decide) rfl rfl ?_
      refine jx_ld (pc' := 14) (l' := [(0, .ref 66), (1, .int (i32 (s))), (2, .int (i32 (place)))]) (st' := [.int (i32 (s)), .ref 74]) rfl (jl_iloadn rfl) ?_
      have b9 : (0 : Int) ≤ A 7 (s).toNat ∧ A 7 (s).toNat ≤ 14 := hW.2 7 _
      refine jr_ldv (pc' := 15) (i := 7) (m := 260) (z := s) (y := A 7 (s).toNat) rfl (by decide) rfl (by decide) (by omega) (by omega) rfl (show A 7 (s).toNat = A 7 (s).toNat from rfl) ?_
      refine jx_st (pc' := 18) (as := [.int (i32 (A 7 (s).toNat))]) (st := []) rfl rfl ⟨rfl, Nat.le_of_ble_eq_true rfl⟩ rfl rfl rfl (c_isArray (dd := d) (hd := by omega) (k := A 7 (s).toNat)   (h_k := by omega)  ) (fun o V' hq => ?_)
      obtain ⟨r10, rfl, rfl, b11, q12⟩ := hq
      refine .inr ⟨_, rfl, ?_⟩
      rcases q12 with rfl | rfl
      · have _q : True := trivial
        refine jx_if_ne (pc' := 21) (tg := 29) rfl rfl rfl (by omega) (by omega) (fun h13 => ?_) (fun h13 => ?_)
        · have _q := h13
          refine jx_ld (pc' := 30) (l' := [(0, .ref 66), (1, .int (i32 (s))), (2, .int (i32 (place)))]) (st' := [.ref 66]) rfl (jl_aloadn rfl) ?_
          refine jx_vr (pc' := 33) (as := []) (st := []) rfl rfl rfl rfl ⟨rfl, rfl, Nat.le_of_ble_eq_true rfl⟩ rfl rfl (c_readIndex (dd := d) (hE := hE) (hd := by omega) (hW := hW)  (ln := ln) (e_ln := show G 9 = ln from (e_ln)) (le := le) (e_le := show A 4 (ln).toNat = le from (e_le)) (at0 := at0) (e_at0 := show G 10 = at0 from (e_at0)) (fk := fk) (e_fk := show G 16 = fk from (e_fk)) (op0 := op0) (e_op0 := show G 15 = op0 from (e_op0)) (nd := nd) (e_nd := show G 31 = nd from (e_nd)) (tk0 := tk0) (e_tk0 := show G 11 = tk0 from (e_tk0))    (p_0 := by omega) (p_1 := by omega) (p_2 := by omega) (p_3 := by omega) (p_4 := by omega) (p_5 := by omega) (p_6 := by omega) (p_7 := by omega) (p_8 := by omega)) (fun o V' hq => ?_)
          obtain ⟨G14, A15, r16, at2_17, fk2_18, op2_19, nd2_20, tk2_21, rfl, rfl, hW22, hF23, b24, e25, e26, e27, e28, e29, p30, p31, p32, p33, p34, p35, q36⟩ := hq
          have hF37 := Fr_tr hF0 hF23 (Fr_sub (by decide)) (Fr_sub (by decide))
          have bat2_17 : (0 : Int) ≤ at2_17 ∧ at2_17 ≤ 3002 := e25 ▸ hW22.1 10
          have bfk2_18 : (0 : Int) ≤ fk2_18 ∧ fk2_18 ≤ 6 := e26 ▸ hW22.1 16
          have bop2_19 : (-2147483648 : Int) ≤ op2_19 ∧ op2_19 ≤ 2147483647 := e27 ▸ hW22.1 15
          have bnd2_20 : (0 : Int) ≤ nd2_20 ∧ nd2_20 ≤ 6999 := e28 ▸ hW22.1 31
          have ztk2_21 := tz_b tk2_21
          have btk2_21 : (0 : Int) ≤ tk2_21 ∧ tk2_21 ≤ 5 := e29 ▸ hW22.1 11
          refine .inr ⟨_, rfl, ?_⟩
          rcases q36 with ⟨a38, a39, a40⟩ | ⟨a41, a42, a43⟩
          · have _q : True := trivial
            refine jx_ld (pc' := 34) (l' := jSto1 [(0, .ref 66), (1, .int (i32 (s))), (2, .int (i32 (place)))] 3 (.int (i32 (r16)))) (st' := []) rfl rfl ?_
            obtain ⟨L44, eL44⟩ : ∃ q, q = jSto1 [(0, .ref 66), (1, .int (i32 (s))), (2, .int (i32 (place)))] 3 (.int (i32 (r16))) := ⟨_, rfl⟩
            rw [← eL44]
            have gL44_0 : jGet L44 0 = some (.ref 66) := eL44 ▸ jg_ne (by decide) (rfl : jGet [(0, .ref 66), (1, .int (i32 (s))), (2, .int (i32 (place)))] 0 = some (.ref 66)) rfl
            have gL44_1 : jGet L44 1 = some (.int (i32 (s))) := eL44 ▸ jg_ne (by decide) (rfl : jGet [(0, .ref 66), (1, .int (i32 (s))), (2, .int (i32 (place)))] 1 = some (.int (i32 (s)))) rfl
            have gL44_2 : jGet L44 2 = some (.int (i32 (place))) := eL44 ▸ jg_ne (by decide) (rfl : jGet [(0, .ref 66), (1, .int (i32 (s))), (2, .int (i32 (place)))] 2 = some (.int (i32 (place)))) rfl
            have gL44_3 : jGet L44 3 = some (.int (i32 (r16))) := eL44 ▸ jg_eq
            refine jx_ld (pc' := 35) (l' := L44) (st' := [.ref 66]) rfl (jl_aloadn gL44_0) ?_
            refine jx_ar (pc' := 36) (st' := [.int (i32 (3)), .ref 66]) rfl rfl rfl rfl ?_
            refine jx_ld (pc' := 37) (l' := L44) (st' := [.int (i32 (s)), .int (i32 (3)), .ref 66]) rfl (jl_iloadn gL44_1) ?_
            refine jx_ld (pc' := 38) (l' := L44) (st' := [.int (i32 (r16)), .int (i32 (s)), .int (i32 (3)), .ref 66]) rfl (jl_iloadn gL44_3) ?_
            refine jx_ar (pc' := 39) (st' := [.int (i32 (0)), .int (i32 (r16)), .int (i32 (s)), .int (i32 (3)), .ref 66]) rfl rfl rfl rfl ?_
            refine jx_ar (pc' := 40) (st' := [.int (i32 (0)), .int (i32 (0)), .int (i32 (r16)), .int (i32 (s)), .int (i32 (3)), .ref 66]) rfl rfl rfl rfl ?_
            refine jx_vr (pc' := 43) (as := [.int (i32 (3)), .int (i32 (s)), .int (i32 (r16)), .int (i32 (0)), .int (i32 (0))]) (st := []) rfl rfl rfl rfl ⟨rfl, rfl, Nat.le_of_ble_eq_true rfl⟩ rfl rfl (c_node (dd := d) (hd := by omega) (hW := hW22) (kind := 3) (a := s) (b := r16) (c := 0) (e := 0) (nd := nd2_20) (e_nd := show G14 31 = nd2_20 from (e28))  (h_kind := by omega) (h_a := by omega) (h_b := by omega) (h_c := by omega) (h_e := by omega)  (p_0 := by omega) (p_1 := by omega)) (fun o V' hq => ?_)
            obtain ⟨G45, A46, r47, nd2_48, rfl, rfl, hW49, hF50, b51, e52, p53, p54, -⟩ := hq
            have hF56 := Fr_tr hF37 hF50 (Fr_sub (by decide)) (Fr_sub (by decide))
            have bnd2_48 : (0 : Int) ≤ nd2_48 ∧ nd2_48 ≤ 6999 := e52 ▸ hW49.1 31
            refine .inr ⟨_, rfl, ?_⟩
            refine jx_rt (v := some (.int (i32 (r47)))) rfl rfl rfl rfl rfl rfl ?_
            have z57 := tz_f (tk2_21)
            exact ⟨_, _, _, at2_17, fk2_18, op2_19, nd2_48, tk2_21, rfl, rfl, hW49, hF56, by omega, ((hF50.1 10 rfl).trans (e25)), ((hF50.1 16 rfl).trans (e26)), ((hF50.1 15 rfl).trans (e27)), (e52), ((hF50.1 11 rfl).trans (e29)), by omega, by omega, by omega, by omega, by omega, by omega, by first | exact Or.inl (⟨by omega, by omega, by omega⟩) | exact Or.inr ((⟨by omega, by omega, by omega⟩))⟩
          · have _q : True := trivial
            refine jx_ld (pc' := 34) (l' := jSto1 [(0, .ref 66), (1, .int (i32 (s))), (2, .int (i32 (place)))] 3 (.int (i32 (r16)))) (st' := []) rfl rfl ?_
            obtain ⟨L58, eL58⟩ : ∃ q, q = jSto1 [(0, .ref 66), (1, .int (i32 (s))), (2, .int (i32 (place)))] 3 (.int (i32 (r16))) := ⟨_, rfl⟩
            rw [← eL58]
            have gL58_0 : jGet L58 0 = some (.ref 66) := eL58 ▸ jg_ne (by decide) (rfl : jGet [(0, .ref 66), (1, .int (i32 (s))), (2, .int (i32 (place)))] 0 = some (.ref 66)) rfl
            have gL58_1 : jGet L58 1 = some (.int (i32 (s))) := eL58 ▸ jg_ne (by decide) (rfl : jGet [(0, .ref 66), (1, .int (i32 (s))), (2, .int (i32 (place)))] 1 = some (.int (i32 (s)))) rfl
            have gL58_2 : jGet L58 2 = some (.int (i32 (place))) := eL58 ▸ jg_ne (by decide) (rfl : jGet [(0, .ref 66), (1, .int (i32 (s))), (2, .int (i32 (place)))] 2 = some (.int (i32 (place)))) rfl
            have gL58_3 : jGet L58 3 = some (.int (i32 (r16))) := eL58 ▸ jg_eq
            refine jx_ld (pc' := 35) (l' := L58) (st' := [.ref 66]) rfl (jl_aloadn gL58_0) ?_
            refine jx_ar (pc' := 36) (st' := [.int (i32 (3)), .ref 66]) rfl rfl rfl rfl ?_
            refine jx_ld (pc' := 37) (l' := L58) (st' := [.int (i32 (s)), .int (i32 (3)), .ref 66]) rfl (jl_iloadn gL58_1) ?_
            refine jx_ld (pc' := 38) (l' := L58) (st' := [.int (i32 (r16)), .int (i32 (s)), .int (i32 (3)), .ref 66]) rfl (jl_iloadn gL58_3) ?_
            refine jx_ar (pc' := 39) (st' := [.int (i32 (0)), .int (i32 (r16)), .int (i32 (s)), .int (i32 (3)), .ref 66]) rfl rfl rfl rfl ?_
            refine jx_ar (pc' := 40) (st' := [.int (i32 (0)), .int (i32 (0)), .int (i32 (r16)), .int (i32 (s)), .int (i32 (3)), .ref 66]) rfl rfl rfl rfl ?_
            refine jx_vr (pc' := 43) (as := [.int (i32 (3)), .int (i32 (s)), .int (i32 (r16)), .int (i32 (0)), .int (i32 (0))]) (st := []) rfl rfl rfl rfl ⟨rfl, rfl, Nat.le_of_ble_eq_true rfl⟩ rfl rfl (c_node (dd := d) (hd := by omega) (hW := hW22) (kind := 3) (a := s) (b := r16) (c := 0) (e := 0) (nd := nd2_20) (e_nd := show G14 31 = nd2_20 from (e28))  (h_kind := by omega) (h_a := by omega) (h_b := by omega) (h_c := by omega) (h_e := by omega)  (p_0 := by omega) (p_1 := by omega)) (fun o V' hq => ?_)
            obtain ⟨G59, A60, r61, nd2_62, rfl, rfl, hW63, hF64, b65, e66, p67, p68, -⟩ := hq
            have hF70 := Fr_tr hF37 hF64 (Fr_sub (by decide)) (Fr_sub (by decide))
            have bnd2_62 : (0 : Int) ≤ nd2_62 ∧ nd2_62 ≤ 6999 := e66 ▸ hW63.1 31
            refine .inr ⟨_, rfl, ?_⟩
            refine jx_rt (v := some (.int (i32 (r61)))) rfl rfl rfl rfl rfl rfl ?_
            have z71 := tz_f (tk2_21)
            exact ⟨_, _, _, at2_17, fk2_18, op2_19, nd2_62, tk2_21, rfl, rfl, hW63, hF70, by omega, ((hF64.1 10 rfl).trans (e25)), ((hF64.1 16 rfl).trans (e26)), ((hF64.1 15 rfl).trans (e27)), (e66), ((hF64.1 11 rfl).trans (e29)), by omega, by omega, by omega, by omega, by omega, by omega, by first | exact Or.inl (⟨by omega, by omega, by omega⟩) | exact Or.inr ((⟨by omega, by omega, by omega⟩))⟩
        · have _q := h13
          exact absurd h13 (by omega)
      · have _q : True := trivial
        refine jx_if_ne (pc' := 21) (tg := 29) rfl rfl rfl (by omega) (by omega) (fun h72 => ?_) (fun h72 => ?_)
        · have _q := h72
          exact absurd h72 (by omega)
        · have _q := h72
          refine jx_ld (pc' := 22) (l' := [(0, .ref 66), (1, .int (i32 (s))), (2, .int (i32 (place)))]) (st' := [.ref 66]) rfl (jl_aloadn rfl) ?_
          refine jx_ar (pc' := 23) (st' := [.int (i32 (4)), .ref 66]) rfl rfl rfl rfl ?_
          refine jx_ld (pc' := 24) (l' := [(0, .ref 66), (1, .int (i32 (s))), (2, .int (i32 (place)))]) (st' := [.int (i32 (place)), .int (i32 (4)), .ref 66]) rfl (jl_iloadn rfl) ?_
          refine jx_vr (pc' := 27) (as := [.int (i32 (4)), .int (i32 (place))]) (st := []) rfl rfl rfl rfl ⟨rfl, rfl, Nat.le_of_ble_eq_true rfl⟩ rfl rfl (c_fail (dd := d) (hd := by omega) (hW := hW) (kind := 4) (place := place) (fk := fk) (e_fk := show G 16 = fk from (e_fk))  (h_kind := by omega) (h_place := by omega)  (p_0 := by omega) (p_1 := by omega)) (fun o V' hq => ?_)
          obtain ⟨G73, A74, fk2_75, rfl, rfl, hW76, hF77, e78, p79, -⟩ := hq
          have hF81 := Fr_tr hF0 hF77 (Fr_sub (by decide)) (Fr_sub (by decide))
          have bfk2_75 : (0 : Int) ≤ fk2_75 ∧ fk2_75 ≤ 6 := e78 ▸ hW76.1 16
          refine .inl ⟨rfl, ?_⟩
          refine jx_ar (pc' := 28) (st' := [.int (i32 (0))]) rfl rfl rfl rfl ?_
          refine jx_rt (v := some (.int (i32 (0)))) rfl rfl rfl rfl rfl rfl ?_
          have z82 := tz_f (tk0)
          exact ⟨_, _, _, at0, fk2_75, op0, nd, tk0, rfl, rfl, hW76, hF81, by omega, ((hF77.1 10 rfl).trans (e_at0)), (e78), ((hF77.1 15 rfl).trans (e_op0)), ((hF77.1 31 rfl).trans (e_nd)), ((hF77.1 11 rfl).trans (e_tk0)), by omega, by omega, by omega, by omega, by omega, by omega, by first | exact Or.inl (⟨by omega, by omega, by omega⟩) | exact Or.inr ((⟨by omega, by omega, by omega⟩))⟩
  · have _q : True := trivial
    refine jx_if_eq (pc' := 9) (tg := 44) rfl rfl rfl (by omega) (by omega) (fun h83 => ?_) (fun h83 => ?_)
    · have _q := h83
      refine jx_ld (pc' := 45) (l' := [(0, .ref 66), (1, .int (i32 (s))), (2, .int (i32 (place)))]) (st' := [.ref 66]) rfl (jl_aloadn rfl) ?_
      refine jr_get (pc' := 48) (i := 21) (v := .ref 74) rfl rfl (by decide) rfl rfl ?_
      refine jx_ld (pc' := 49) (l' := [(0, .ref 66), (1, .int (i32 (s))), (2, .int (i32 (place)))]) (st' := [.int (i32 (s)), .ref 74]) rfl (jl_iloadn rfl) ?_
      have b84 : (0 : Int) ≤ A 7 (s).toNat ∧ A 7 (s).toNat ≤ 14 := hW.2 7 _
      refine jr_ldv (pc' := 50) (i := 7) (m := 260) (z := s) (y := A 7 (s).toNat) rfl (by decide) rfl (by decide) (by omega) (by omega) rfl (show A 7 (s).toNat = A 7 (s).toNat from rfl) ?_
      refine jx_st (pc' := 53) (as := [.int (i32 (A 7 (s).toNat))]) (st := []) rfl rfl ⟨rfl, Nat.le_of_ble_eq_true rfl⟩ rfl rfl rfl (c_isValue (dd := d) (hd := by omega) (k := A 7 (s).toNat)   (h_k := by omega)  ) (fun o V' hq => ?_)
      obtain ⟨r85, rfl, rfl, b86, q87⟩ := hq
      refine .inr ⟨_, rfl, ?_⟩
      rcases q87 with rfl | rfl
      · have _q : True := trivial
        refine jx_if_ne (pc' := 56) (tg := 64) rfl rfl rfl (by omega) (by omega) (fun h88 => ?_) (fun h88 => ?_)
        · have _q := h88
          refine jx_ld (pc' := 65) (l' := [(0, .ref 66), (1, .int (i32 (s))), (2, .int (i32 (place)))]) (st' := [.ref 66]) rfl (jl_aloadn rfl) ?_
          refine jx_ar (pc' := 66) (st' := [.int (i32 (2)), .ref 66]) rfl rfl rfl rfl ?_
          refine jx_ld (pc' := 67) (l' := [(0, .ref 66), (1, .int (i32 (s))), (2, .int (i32 (place)))]) (st' := [.int (i32 (s)), .int (i32 (2)), .ref 66]) rfl (jl_iloadn rfl) ?_
          refine jx_ar (pc' := 68) (st' := [.int (i32 (0)), .int (i32 (s)), .int (i32 (2)), .ref 66]) rfl rfl rfl rfl ?_
          refine jx_ar (pc' := 69) (st' := [.int (i32 (0)), .int (i32 (0)), .int (i32 (s)), .int (i32 (2)), .ref 66]) rfl rfl rfl rfl ?_
          refine jx_ar (pc' := 70) (st' := [.int (i32 (0)), .int (i32 (0)), .int (i32 (0)), .int (i32 (s)), .int (i32 (2)), .ref 66]) rfl rfl rfl rfl ?_
          refine jx_vr (pc' := 73) (as := [.int (i32 (2)), .int (i32 (s)), .int (i32 (0)), .int (i32 (0)), .int (i32 (0))]) (st := []) rfl rfl rfl rfl ⟨rfl, rfl, Nat.le_of_ble_eq_true rfl⟩ rfl rfl (c_node (dd := d) (hd := by omega) (hW := hW) (kind := 2) (a := s) (b := 0) (c := 0) (e := 0) (nd := nd) (e_nd := show G 31 = nd from (e_nd))  (h_kind := by omega) (h_a := by omega) (h_b := by omega) (h_c := by omega) (h_e := by omega)  (p_0 := by omega) (p_1 := by omega)) (fun o V' hq => ?_)
          obtain ⟨G89, A90, r91, nd2_92, rfl, rfl, hW93, hF94, b95, e96, p97, p98, -⟩ := hq
          have hF100 := Fr_tr hF0 hF94 (Fr_sub (by decide)) (Fr_sub (by decide))
          have bnd2_92 : (0 : Int) ≤ nd2_92 ∧ nd2_92 ≤ 6999 := e96 ▸ hW93.1 31
          refine .inr ⟨_, rfl, ?_⟩
          refine jx_rt (v := some (.int (i32 (r91)))) rfl rfl rfl rfl rfl rfl ?_
          have z101 := tz_f (tk0)
          exact ⟨_, _, _, at0, fk, op0, nd2_92, tk0, rfl, rfl, hW93, hF100, by omega, ((hF94.1 10 rfl).trans (e_at0)), ((hF94.1 16 rfl).trans (e_fk)), ((hF94.1 15 rfl).trans (e_op0)), (e96), ((hF94.1 11 rfl).trans (e_tk0)), by omega, by omega, by omega, by omega, by omega, by omega, by first | exact Or.inl (⟨by omega, by omega, by omega⟩) | exact Or.inr ((⟨by omega, by omega, by omega⟩))⟩
        · have _q := h88
          exact absurd h88 (by omega)
      · have _q : True := trivial
        refine jx_if_ne (pc' := 56) (tg := 64) rfl rfl rfl (by omega) (by omega) (fun h102 => ?_) (fun h102 => ?_)
        · have _q := h102
          exact absurd h102 (by omega)
        · have _q := h102
          refine jx_ld (pc' := 57) (l' := [(0, .ref 66), (1, .int (i32 (s))), (2, .int (i32 (place)))]) (st' := [.ref 66]) rfl (jl_aloadn rfl) ?_
          refine jx_ar (pc' := 58) (st' := [.int (i32 (4)), .ref 66]) rfl rfl rfl rfl ?_
          refine jx_ld (pc' := 59) (l' := [(0, .ref 66), (1, .int (i32 (s))), (2, .int (i32 (place)))]) (st' := [.int (i32 (place)), .int (i32 (4)), .ref 66]) rfl (jl_iloadn rfl) ?_
          refine jx_vr (pc' := 62) (as := [.int (i32 (4)), .int (i32 (place))]) (st := []) rfl rfl rfl rfl ⟨rfl, rfl, Nat.le_of_ble_eq_true rfl⟩ rfl rfl (c_fail (dd := d) (hd := by omega) (hW := hW) (kind := 4) (place := place) (fk := fk) (e_fk := show G 16 = fk from (e_fk))  (h_kind := by omega) (h_place := by omega)  (p_0 := by omega) (p_1 := by omega)) (fun o V' hq => ?_)
          obtain ⟨G103, A104, fk2_105, rfl, rfl, hW106, hF107, e108, p109, -⟩ := hq
          have hF111 := Fr_tr hF0 hF107 (Fr_sub (by decide)) (Fr_sub (by decide))
          have bfk2_105 : (0 : Int) ≤ fk2_105 ∧ fk2_105 ≤ 6 := e108 ▸ hW106.1 16
          refine .inl ⟨rfl, ?_⟩
          refine jx_ar (pc' := 63) (st' := [.int (i32 (0))]) rfl rfl rfl rfl ?_
          refine jx_rt (v := some (.int (i32 (0)))) rfl rfl rfl rfl rfl rfl ?_
          have z112 := tz_f (tk0)
          exact ⟨_, _, _, at0, fk2_105, op0, nd, tk0, rfl, rfl, hW106, hF111, by omega, ((hF107.1 10 rfl).trans (e_at0)), (e108), ((hF107.1 15 rfl).trans (e_op0)), ((hF107.1 31 rfl).trans (e_nd)), ((hF107.1 11 rfl).trans (e_tk0)), by omega, by omega, by omega, by omega, by omega, by omega, by first | exact Or.inl (⟨by omega, by omega, by omega⟩) | exact Or.inr ((⟨by omega, by omega, by omega⟩))⟩
    · have _q := h83
      exact absurd h83 (by omega)
set_option maxRecDepth 20000 in
set_option maxHeartbeats 4000000 in
theorem c_readOperand {X : jX} {k : Nat} (hE : RE X k) {dd : Nat} {c0 c1 : jC} {G : Nat → Int} {A : Nat → Nat → Int} {T : jH} {ln le at0 fk op0 nd tk0 : Int} (hd : 6 * k + 14 ≤ dd) (hW : Wk G A) (e_ln : G 9 = ln) (e_le : A 4 (ln).toNat = le) (e_at0 : G 10 = at0) (e_fk : G 16 = fk) (e_op0 : G 15 = op0) (e_nd : G 31 = nd) (e_tk0 : G 11 = tk0) (p_0 : 0 ≤ op0) (p_1 : op0 ≤ 9) (p_2 : op0 ≤ 8 ∨ 1 ≤ fk) (p_3 : 9 - op0 ≤ ((k + 1 : Nat) : Int) ∨ 1 ≤ fk) (p_4 : nd ≤ 2 * at0 - tz tk0 + 50) (p_5 : at0 ≤ le) : wk X dd 288 [.ref 66] (rV c0 c1 G A T) (fun o V' => ∃ (G' : Nat → Int) (A' : Nat → Nat → Int) (r : Int) (at2 : Int) (fk2 : Int) (op2 : Int) (nd2 : Int) (tk2 : Int), V' = rV c0 c1 G' A' T ∧ o = .inl (some (.int (i32 r))) ∧ Wk G' A' ∧ Fr [10, 11, 12, 13, 14, 15, 16, 17, 18, 31] [15, 16, 17, 18, 19, 20, 21, 22, 24, 28] G A G' A' ∧ ((-2147483648 : Int) ≤ r ∧ r ≤ 2147483647) ∧ G' 10 = at2 ∧ G' 16 = fk2 ∧ G' 15 = op2 ∧ G' 31 = nd2 ∧ G' 11 = tk2 ∧ (at0 ≤ at2) ∧ (at2 ≤ le) ∧ (nd ≤ nd2) ∧ (op2 = op0) ∧ (0 ≤ r) ∧ (r ≤ nd2) ∧ (((1 ≤ fk) ∧ (1 ≤ fk2) ∧ (nd2 = nd) ∧ (at2 = at0) ∧ (tk2 = tk0) ∧ (tz tk2 = tz tk0)) ∨ ((fk = 0) ∧ (1 ≤ fk2) ∧ (nd2 - nd ≤ (2 * at2 - tz tk2) - (2 * at0 - tz tk0) + 1)) ∨ ((fk = 0) ∧ (fk2 = 0) ∧ (nd2 - nd ≤ (2 * at2 - tz tk2) - (2 * at0 - tz tk0))))) := by
  obtain ⟨d, rfl⟩ : ∃ d, dd = d + 1 := ⟨dd - 1, by omega⟩
  refine wk_of (e := jm288) rfl (Nat.le_of_ble_eq_true rfl) ?_
  show wj X d jm288 (0, [(0, .ref 66)], [], rV c0 c1 G A T) _
  have hF0 : Fr [10, 11, 12, 13, 14, 15, 16, 17, 18, 31] [15, 16, 17, 18, 19, 20, 21, 22, 24, 28] G A G A := Fr_rf
  have b_ln : (0 : Int) ≤ ln ∧ ln ≤ 3000 := e_ln ▸ hW.1 9
  have b_le : (0 : Int) ≤ le ∧ le ≤ 3000 := e_le ▸ hW.2 4 _
  have b_at0 : (0 : Int) ≤ at0 ∧ at0 ≤ 3002 := e_at0 ▸ hW.1 10
  have b_fk : (0 : Int) ≤ fk ∧ fk ≤ 6 := e_fk ▸ hW.1 16
  have b_op0 : (-2147483648 : Int) ≤ op0 ∧ op0 ≤ 2147483647 := e_op0 ▸ hW.1 15
  have b_nd : (0 : Int) ≤ nd ∧ nd ≤ 6999 := e_nd ▸ hW.1 31
  have z_tk0 := tz_f tk0
  have b_tk0 : (0 : Int) ≤ tk0 ∧ tk0 ≤ 5 := e_tk0 ▸ hW.1 11
  refine jx_ld (pc' := 1) (l' := [(0, .ref 66)]) (st' := [.ref 66]) rfl (jl_aloadn rfl) ?_
  refine jx_vr (pc' := 4) (as := []) (st := []) rfl rfl rfl rfl ⟨rfl, rfl, Nat.le_of_ble_eq_true rfl⟩ rfl rfl (c_bad (dd := d) (hd := by omega) (hW := hW)  (fk := fk) (e_fk := show G 16 = fk from (e_fk))    ) (fun o V' hq => ?_)
  obtain ⟨r1, rfl, rfl, b2, q3⟩ := hq
  refine .inr ⟨_, rfl, ?_⟩
  rcases q3 with ⟨rfl, a4⟩ | ⟨rfl, a5⟩
  · have _q : True := trivial
    refine jx_if_eq (pc' := 7) (tg := 9) rfl rfl rfl (by omega) (by omega) (fun h6 => ?_) (fun h6 => ?_)
    · have _q := h6
      exact absurd h6 (by omega)
    · have _q := h6
      refine jx_ar (pc' := 8) (st' := [.int (i32 (0))]) rfl rfl rfl rfl ?_
      refine jx_rt (v := some (.int (i32 (0)))) rfl rfl rfl rfl rfl rfl ?_
      have z7 := tz_f (tk0)
      exact ⟨_, _, _, at0, fk, op0, nd, tk0, rfl, rfl, hW, hF0, by omega, (e_at0), (e_fk), (e_op0), (e_nd), (e_tk0), by omega, by omega, by omega, by omega, by omega, by omega, by first | exact Or.inl (⟨by omega, by omega, by omega, by omega, by omega, by omega⟩) | exact Or.inr (Or.inl (⟨by omega, by omega, by omega⟩)) | exact Or.inr (Or.inr ((⟨by omega, by omega, by omega⟩)))⟩
  · have _q : True := trivial
    refine jx_if_eq (pc' := 7) (tg := 9) rfl rfl rfl (by omega) (by omega) (fun h8 => ?_) (fun h8 => ?_)
    · have _q := h8
      refine jx_ld (pc' := 10) (l' := [(0, .ref 66)]) (st' := [.ref 66]) rfl (jl_aloadn rfl) ?_
      refine jr_get (pc' := 13) (i := 11) (v := .int (i32 (tk0))) rfl rfl (by decide) (rFv_eq (by decide) (show G 11 = tk0 from (e_tk0))) rfl ?_
      refine jx_ar (pc' := 14) (st' := [.int (i32 (3)), .int (i32 (tk0))]) rfl rfl rfl rfl ?_
      refine jx_icmp_eq (pc' := 17) (tg := 35) rfl rfl rfl (by omega) (by omega) (by omega) (by omega) (fun h9 => ?_) (fun h9 => ?_)
      · have _q := h9
        refine jx_ld (pc' := 36) (l' := [(0, .ref 66)]) (st' := [.ref 66]) rfl (jl_aloadn rfl) ?_
        refine jr_get (pc' := 39) (i := 11) (v := .int (i32 (tk0))) rfl rfl (by decide) (rFv_eq (by decide) (show G 11 = tk0 from (e_tk0))) rfl ?_
        refine jx_ar (pc' := 40) (st' := [.int (i32 (3)), .int (i32 (tk0))]) rfl rfl rfl rfl ?_
        refine jx_icmp_ne (pc' := 43) (tg := 50) rfl rfl rfl (by omega) (by omega) (by omega) (by omega) (fun h10 => ?_) (fun h10 => ?_)
        · have _q := h10
          refine jx_ld (pc' := 51) (l' := [(0, .ref 66)]) (st' := [.ref 66]) rfl (jl_aloadn rfl) ?_
          refine jx_ar (pc' := 53) (st' := [.int (i32 (14)), .ref 66]) rfl rfl rfl rfl ?_
          have b11 : (-2147483648 : Int) ≤ G 13 ∧ G 13 ≤ 2147483647 := hW.1 13
          refine jx_vr (pc' := 56) (as := [.int (i32 (14))]) (st := []) rfl rfl rfl rfl ⟨rfl, rfl, Nat.le_of_ble_eq_true rfl⟩ rfl rfl (c_isKey (dd := d) (hd := by omega) (hW := hW) (k := 14) (tk := tk0) (e_tk := show G 11 = tk0 from (e_tk0)) (tn := G 13) (e_tn := show G 13 = G 13 from rfl)  (h_k := by omega)  ) (fun o V' hq => ?_)
          obtain ⟨r12, rfl, rfl, b13, q14⟩ := hq
          refine .inr ⟨_, rfl, ?_⟩
          rcases q14 with ⟨rfl, a15, a16, a17⟩ | rfl
          · have _q : True := trivial
            refine jx_if_eq (pc' := 59) (tg := 63) rfl rfl rfl (by omega) (by omega) (fun h18 => ?_) (fun h18 => ?_)
            · have _q := h18
              exact absurd h18 (by omega)
            · have _q := h18
              refine jx_ar (pc' := 60) (st' := [.int (i32 (1))]) rfl rfl rfl rfl ?_
              refine jx_go (tg := 64) rfl rfl ?_
              refine jx_ld (pc' := 65) (l' := jSto1 [(0, .ref 66)] 1 (.int (i32 (1)))) (st' := []) rfl rfl ?_
              obtain ⟨L19, eL19⟩ : ∃ q, q = jSto1 [(0, .ref 66)] 1 (.int (i32 (1))) := ⟨_, rfl⟩
              rw [← eL19]
              have gL19_0 : jGet L19 0 = some (.ref 66) := eL19 ▸ jg_ne (by decide) (rfl : jGet [(0, .ref 66)] 0 = some (.ref 66)) rfl
              have gL19_1 : jGet L19 1 = some (.int (i32 (1))) := eL19 ▸ jg_eq
              refine jx_ld (pc' := 66) (l' := L19) (st' := [.ref 66]) rfl (jl_aloadn gL19_0) ?_
              refine jx_vr (pc' := 69) (as := []) (st := []) rfl rfl rfl rfl ⟨rfl, rfl, Nat.le_of_ble_eq_true rfl⟩ rfl rfl (c_next (dd := d) (hd := by omega) (hW := hW)  (ln := ln) (e_ln := show G 9 = ln from (e_ln)) (le := le) (e_le := show A 4 (ln).toNat = le from (e_le)) (at0 := at0) (e_at0 := show G 10 = at0 from (e_at0))    (p_0 := by omega)) (fun o V' hq => ?_)
              obtain ⟨G20, A21, at2_22, tk2_23, rfl, rfl, hW24, hF25, e26, e27, p28, p29, p30, -⟩ := hq
              have hF32 := Fr_tr hF0 hF25 (Fr_sub (by decide)) (Fr_sub (by decide))
              have bat2_22 : (0 : Int) ≤ at2_22 ∧ at2_22 ≤ 3002 := e26 ▸ hW24.1 10
              have ztk2_23 := tz_b tk2_23
              have btk2_23 : (0 : Int) ≤ tk2_23 ∧ tk2_23 ≤ 5 := e27 ▸ hW24.1 11
              refine .inl ⟨rfl, ?_⟩
              refine jx_ld (pc' := 70) (l' := L19) (st' := [.ref 66]) rfl (jl_aloadn gL19_0) ?_
              refine jx_ar (pc' := 71) (st' := [.int (i32 (1)), .ref 66]) rfl rfl rfl rfl ?_
              refine jx_ld (pc' := 72) (l' := L19) (st' := [.int (i32 (1)), .int (i32 (1)), .ref 66]) rfl (jl_iloadn gL19_1) ?_
              refine jx_ar (pc' := 73) (st' := [.int (i32 (0)), .int (i32 (1)), .int (i32 (1)), .ref 66]) rfl rfl rfl rfl ?_
              refine jx_ar (pc' := 74) (st' := [.int (i32 (0)), .int (i32 (0)), .int (i32 (1)), .int (i32 (1)), .ref 66]) rfl rfl rfl rfl ?_
              refine jx_ar (pc' := 75) (st' := [.int (i32 (0)), .int (i32 (0)), .int (i32 (0)), .int (i32 (1)), .int (i32 (1)), .ref 66]) rfl rfl rfl rfl ?_
              refine jx_vr (pc' := 78) (as := [.int (i32 (1)), .int (i32 (1)), .int (i32 (0)), .int (i32 (0)), .int (i32 (0))]) (st := []) rfl rfl rfl rfl ⟨rfl, rfl, Nat.le_of_ble_eq_true rfl⟩ rfl rfl (c_node (dd := d) (hd := by omega) (hW := hW24) (kind := 1) (a := 1) (b := 0) (c := 0) (e := 0) (nd := nd) (e_nd := show G20 31 = nd from ((hF25.1 31 rfl).trans (e_nd)))  (h_kind := by omega) (h_a := by omega) (h_b := by omega) (h_c := by omega) (h_e := by omega)  (p_0 := by omega) (p_1 := by omega)) (fun o V' hq => ?_)
              obtain ⟨G33, A34, r35, nd2_36, rfl, rfl, hW37, hF38, b39, e40, p41, p42, -⟩ := hq
              have hF44 := Fr_tr hF32 hF38 (Fr_sub (by decide)) (Fr_sub (by decide))
              have bnd2_36 : (0 : Int) ≤ nd2_36 ∧ nd2_36 ≤ 6999 := e40 ▸ hW37.1 31
              refine .inr ⟨_, rfl, ?_⟩
              refine jx_rt (v := some (.int (i32 (r35)))) rfl rfl rfl rfl rfl rfl ?_
              have z45 := tz_f (tk2_23)
              exact ⟨_, _, _, at2_22, fk, op0, nd2_36, tk2_23, rfl, rfl, hW37, hF44, by omega, ((hF38.1 10 rfl).trans (e26)), ((hF38.1 16 rfl).trans ((hF25.1 16 rfl).trans (e_fk))), ((hF38.1 15 rfl).trans ((hF25.1 15 rfl).trans (e_op0))), (e40), ((hF38.1 11 rfl).trans (e27)), by omega, by omega, by omega, by omega, by omega, by omega, by first | exact Or.inl (⟨by omega, by omega, by omega, by omega, by omega, by omega⟩) | exact Or.inr (Or.inl (⟨by omega, by omega, by omega⟩)) | exact Or.inr (Or.inr ((⟨by omega, by omega, by omega⟩)))⟩
          · have _q : True := trivial
            refine jx_if_eq (pc' := 59) (tg := 63) rfl rfl rfl (by omega) (by omega) (fun h46 => ?_) (fun h46 => ?_)
            · have _q := h46
              refine jx_ar (pc' := 64) (st' := [.int (i32 (0))]) rfl rfl rfl rfl ?_
              refine jx_ld (pc' := 65) (l' := jSto1 [(0, .ref 66)] 1 (.int (i32 (0)))) (st' := []) rfl rfl ?_
              obtain ⟨L47, eL47⟩ : ∃ q, q = jSto1 [(0, .ref 66)] 1 (.int (i32 (0))) := ⟨_, rfl⟩
              rw [← eL47]
              have gL47_0 : jGet L47 0 = some (.ref 66) := eL47 ▸ jg_ne (by decide) (rfl : jGet [(0, .ref 66)] 0 = some (.ref 66)) rfl
              have gL47_1 : jGet L47 1 = some (.int (i32 (0))) := eL47 ▸ jg_eq
              refine jx_ld (pc' := 66) (l' := L47) (st' := [.ref 66]) rfl (jl_aloadn gL47_0) ?_
              refine jx_vr (pc' := 69) (as := []) (st := []) rfl rfl rfl rfl ⟨rfl, rfl, Nat.le_of_ble_eq_true rfl⟩ rfl rfl (c_next (dd := d) (hd := by omega) (hW := hW)  (ln := ln) (e_ln := show G 9 = ln from (e_ln)) (le := le) (e_le := show A 4 (ln).toNat = le from (e_le)) (at0 := at0) (e_at0 := show G 10 = at0 from (e_at0))    (p_0 := by omega)) (fun o V' hq => ?_)
              obtain ⟨G48, A49, at2_50, tk2_51, rfl, rfl, hW52, hF53, e54, e55, p56, p57, p58, -⟩ := hq
              have hF60 := Fr_tr hF0 hF53 (Fr_sub (by decide)) (Fr_sub (by decide))
              have bat2_50 : (0 : Int) ≤ at2_50 ∧ at2_50 ≤ 3002 := e54 ▸ hW52.1 10
              have ztk2_51 := tz_b tk2_51
              have btk2_51 : (0 : Int) ≤ tk2_51 ∧ tk2_51 ≤ 5 := e55 ▸ hW52.1 11
              refine .inl ⟨rfl, ?_⟩
              refine jx_ld (pc' := 70) (l' := L47) (st' := [.ref 66]) rfl (jl_aloadn gL47_0) ?_
              refine jx_ar (pc' := 71) (st' := [.int (i32 (1)), .ref 66]) rfl rfl rfl rfl ?_
              refine jx_ld (pc' := 72) (l' := L47) (st' := [.int (i32 (0)), .int (i32 (1)), .ref 66]) rfl (jl_iloadn gL47_1) ?_
              refine jx_ar (pc' := 73) (st' := [.int (i32 (0)), .int (i32 (0)), .int (i32 (1)), .ref 66]) rfl rfl rfl rfl ?_
              refine jx_ar (pc' := 74) (st' := [.int (i32 (0)), .int (i32 (0)), .int (i32 (0)), .int (i32 (1)), .ref 66]) rfl rfl rfl rfl ?_
              refine jx_ar (pc' := 75) (st' := [.int (i32 (0)), .int (i32 (0)), .int (i32 (0)), .int (i32 (0)), .int (i32 (1)), .ref 66]) rfl rfl rfl rfl ?_
              refine jx_vr (pc' := 78) (as := [.int (i32 (1)), .int (i32 (0)), .int (i32 (0)), .int (i32 (0)), .int (i32 (0))]) (st := []) rfl rfl rfl rfl ⟨rfl, rfl, Nat.le_of_ble_eq_true rfl⟩ rfl rfl (c_node (dd := d) (hd := by omega) (hW := hW52) (kind := 1) (a := 0) (b := 0) (c := 0) (e := 0) (nd := nd) (e_nd := show G48 31 = nd from ((hF53.1 31 rfl).trans (e_nd)))  (h_kind := by omega) (h_a := by omega) (h_b := by omega) (h_c := by omega) (h_e := by omega)  (p_0 := by omega) (p_1 := by omega)) (fun o V' hq => ?_)
              obtain ⟨G61, A62, r63, nd2_64, rfl, rfl, hW65, hF66, b67, e68, p69, p70, -⟩ := hq
              have hF72 := Fr_tr hF60 hF66 (Fr_sub (by decide)) (Fr_sub (by decide))
              have bnd2_64 : (0 : Int) ≤ nd2_64 ∧ nd2_64 ≤ 6999 := e68 ▸ hW65.1 31
              refine .inr ⟨_, rfl, ?_⟩
              refine jx_rt (v := some (.int (i32 (r63)))) rfl rfl rfl rfl rfl rfl ?_
              have z73 := tz_f (tk2_51)
              exact ⟨_, _, _, at2_50, fk, op0, nd2_64, tk2_51, rfl, rfl, hW65, hF72, by omega, ((hF66.1 10 rfl).trans (e54)), ((hF66.1 16 rfl).trans ((hF53.1 16 rfl).trans (e_fk))), ((hF66.1 15 rfl).trans ((hF53.1 15 rfl).trans (e_op0))), (e68), ((hF66.1 11 rfl).trans (e55)), by omega, by omega, by omega, by omega, by omega, by omega, by first | exact Or.inl (⟨by omega, by omega, by omega, by omega, by omega, by omega⟩) | exact Or.inr (Or.inl (⟨by omega, by omega, by omega⟩)) | exact Or.inr (Or.inr ((⟨by omega, by omega, by omega⟩)))⟩
            · have _q := h46
              exact absurd h46 (by omega)
        · have _q := h10
          refine jx_ld (pc' := 44) (l' := [(0, .ref 66)]) (st' := [.ref 66]) rfl (jl_aloadn rfl) ?_
          have b74 : (-2147483648 : Int) ≤ G 13 ∧ G 13 ≤ 2147483647 := hW.1 13
          refine jr_get (pc' := 47) (i := 13) (v := .int (i32 (G 13))) rfl rfl (by decide) rfl rfl ?_
          refine jx_go (tg := 64) rfl rfl ?_
          refine jx_ld (pc' := 65) (l' := jSto1 [(0, .ref 66)] 1 (.int (i32 (G 13)))) (st' := []) rfl rfl ?_
          obtain ⟨L75, eL75⟩ : ∃ q, q = jSto1 [(0, .ref 66)] 1 (.int (i32 (G 13))) := ⟨_, rfl⟩
          rw [← eL75]
          have gL75_0 : jGet L75 0 = some (.ref 66) := eL75 ▸ jg_ne (by decide) (rfl : jGet [(0, .ref 66)] 0 = some (.ref 66)) rfl
          have gL75_1 : jGet L75 1 = some (.int (i32 (G 13))) := eL75 ▸ jg_eq
          refine jx_ld (pc' := 66) (l' := L75) (st' := [.ref 66]) rfl (jl_aloadn gL75_0) ?_
          refine jx_vr (pc' := 69) (as := []) (st := []) rfl rfl rfl rfl ⟨rfl, rfl, Nat.le_of_ble_eq_true rfl⟩ rfl rfl (c_next (dd := d) (hd := by omega) (hW := hW)  (ln := ln) (e_ln := show G 9 = ln from (e_ln)) (le := le) (e_le := show A 4 (ln).toNat = le from (e_le)) (at0 := at0) (e_at0 := show G 10 = at0 from (e_at0))    (p_0 := by omega)) (fun o V' hq => ?_)
          obtain ⟨G76, A77, at2_78, tk2_79, rfl, rfl, hW80, hF81, e82, e83, p84, p85, p86, -⟩ := hq
          have hF88 := Fr_tr hF0 hF81 (Fr_sub (by decide)) (Fr_sub (by decide))
          have bat2_78 : (0 : Int) ≤ at2_78 ∧ at2_78 ≤ 3002 := e82 ▸ hW80.1 10
          have ztk2_79 := tz_b tk2_79
          have btk2_79 : (0 : Int) ≤ tk2_79 ∧ tk2_79 ≤ 5 := e83 ▸ hW80.1 11
          refine .inl ⟨rfl, ?_⟩
          refine jx_ld (pc' := 70) (l' := L75) (st' := [.ref 66]) rfl (jl_aloadn gL75_0) ?_
          refine jx_ar (pc' := 71) (st' := [.int (i32 (1)), .ref 66]) rfl rfl rfl rfl ?_
          refine jx_ld (pc' := 72) (l' := L75) (st' := [.int (i32 (G 13)), .int (i32 (1)), .ref 66]) rfl (jl_iloadn gL75_1) ?_
          refine jx_ar (pc' := 73) (st' := [.int (i32 (0)), .int (i32 (G 13)), .int (i32 (1)), .ref 66]) rfl rfl rfl rfl ?_
          refine jx_ar (pc' := 74) (st' := [.int (i32 (0)), .int (i32 (0)), .int (i32 (G 13)), .int (i32 (1)), .ref 66]) rfl rfl rfl rfl ?_
          refine jx_ar (pc' := 75) (st' := [.int (i32 (0)), .int (i32 (0)), .int (i32 (0)), .int (i32 (G 13)), .int (i32 (1)), .ref 66]) rfl rfl rfl rfl ?_
          refine jx_vr (pc' := 78) (as := [.int (i32 (1)), .int (i32 (G 13)), .int (i32 (0)), .int (i32 (0)), .int (i32 (0))]) (st := []) rfl rfl rfl rfl ⟨rfl, rfl, Nat.le_of_ble_eq_true rfl⟩ rfl rfl (c_node (dd := d) (hd := by omega) (hW := hW80) (kind := 1) (a := G 13) (b := 0) (c := 0) (e := 0) (nd := nd) (e_nd := show G76 31 = nd from ((hF81.1 31 rfl).trans (e_nd)))  (h_kind := by omega) (h_a := by omega) (h_b := by omega) (h_c := by omega) (h_e := by omega)  (p_0 := by omega) (p_1 := by omega)) (fun o V' hq => ?_)
          obtain ⟨G89, A90, r91, nd2_92, rfl, rfl, hW93, hF94, b95, e96, p97, p98, -⟩ := hq
          have hF100 := Fr_tr hF88 hF94 (Fr_sub (by decide)) (Fr_sub (by decide))
          have bnd2_92 : (0 : Int) ≤ nd2_92 ∧ nd2_92 ≤ 6999 := e96 ▸ hW93.1 31
          refine .inr ⟨_, rfl, ?_⟩
          refine jx_rt (v := some (.int (i32 (r91)))) rfl rfl rfl rfl rfl rfl ?_
          have z101 := tz_f (tk2_79)
          exact ⟨_, _, _, at2_78, fk, op0, nd2_92, tk2_79, rfl, rfl, hW93, hF100, by omega, ((hF94.1 10 rfl).trans (e82)), ((hF94.1 16 rfl).trans ((hF81.1 16 rfl).trans (e_fk))), ((hF94.1 15 rfl).trans ((hF81.1 15 rfl).trans (e_op0))), (e96), ((hF94.1 11 rfl).trans (e83)), by omega, by omega, by omega, by omega, by omega, by omega, by first | exact Or.inl (⟨by omega, by omega, by omega, by omega, by omega, by omega⟩) | exact Or.inr (Or.inl (⟨by omega, by omega, by omega⟩)) | exact Or.inr (Or.inr ((⟨by omega, by omega, by omega⟩)))⟩
      · have _q := h9
        refine jx_ld (pc' := 18) (l' := [(0, .ref 66)]) (st' := [.ref 66]) rfl (jl_aloadn rfl) ?_
        refine jx_ar (pc' := 20) (st' := [.int (i32 (14)), .ref 66]) rfl rfl rfl rfl ?_
        have b102 : (-2147483648 : Int) ≤ G 13 ∧ G 13 ≤ 2147483647 := hW.1 13
        refine jx_vr (pc' := 23) (as := [.int (i32 (14))]) (st := []) rfl rfl rfl rfl ⟨rfl, rfl, Nat.le_of_ble_eq_true rfl⟩ rfl rfl (c_isKey (dd := d) (hd := by omega) (hW := hW) (k := 14) (tk := tk0) (e_tk := show G 11 = tk0 from (e_tk0)) (tn := G 13) (e_tn := show G 13 = G 13 from rfl)  (h_k := by omega)  ) (fun o V' hq => ?_)
        obtain ⟨r103, rfl, rfl, b104, q105⟩ := hq
        refine .inr ⟨_, rfl, ?_⟩
        rcases q105 with ⟨rfl, a106, a107, a108⟩ | rfl
        · have _q : True := trivial
          refine jx_if_ne (pc' := 26) (tg := 35) rfl rfl rfl (by omega) (by omega) (fun h109 => ?_) (fun h109 => ?_)
          · have _q := h109
            refine jx_ld (pc' := 36) (l' := [(0, .ref 66)]) (st' := [.ref 66]) rfl (jl_aloadn rfl) ?_
            refine jr_get (pc' := 39) (i := 11) (v := .int (i32 (tk0))) rfl rfl (by decide) (rFv_eq (by decide) (show G 11 = tk0 from (e_tk0))) rfl ?_
            refine jx_ar (pc' := 40) (st' := [.int (i32 (3)), .int (i32 (tk0))]) rfl rfl rfl rfl ?_
            refine jx_icmp_ne (pc' := 43) (tg := 50) rfl rfl rfl (by omega) (by omega) (by omega) (by omega) (fun h110 => ?_) (fun h110 => ?_)
            · have _q := h110
              refine jx_ld (pc' := 51) (l' := [(0, .ref 66)]) (st' := [.ref 66]) rfl (jl_aloadn rfl) ?_
              refine jx_ar (pc' := 53) (st' := [.int (i32 (14)), .ref 66]) rfl rfl rfl rfl ?_
              refine jx_vr (pc' := 56) (as := [.int (i32 (14))]) (st := []) rfl rfl rfl rfl ⟨rfl, rfl, Nat.le_of_ble_eq_true rfl⟩ rfl rfl (c_isKey (dd := d) (hd := by omega) (hW := hW) (k := 14) (tk := tk0) (e_tk := show G 11 = tk0 from (e_tk0)) (tn := G 13) (e_tn := show G 13 = G 13 from rfl)  (h_k := by omega)  ) (fun o V' hq => ?_)
              obtain ⟨r111, rfl, rfl, b112, q113⟩ := hq
              refine .inr ⟨_, rfl, ?_⟩
              rcases q113 with ⟨rfl, a114, a115, a116⟩ | rfl
              · have _q : True := trivial
                refine jx_if_eq (pc' := 59) (tg := 63) rfl rfl rfl (by omega) (by omega) (fun h117 => ?_) (fun h117 => ?_)
                · have _q := h117
                  exact absurd h117 (by omega)
                · have _q := h117
                  refine jx_ar (pc' := 60) (st' := [.int (i32 (1))]) rfl rfl rfl rfl ?_
                  refine jx_go (tg := 64) rfl rfl ?_
                  refine jx_ld (pc' := 65) (l' := jSto1 [(0, .ref 66)] 1 (.int (i32 (1)))) (st' := []) rfl rfl ?_
                  obtain ⟨L118, eL118⟩ : ∃ q, q = jSto1 [(0, .ref 66)] 1 (.int (i32 (1))) := ⟨_, rfl⟩
                  rw [← eL118]
                  have gL118_0 : jGet L118 0 = some (.ref 66) := eL118 ▸ jg_ne (by decide) (rfl : jGet [(0, .ref 66)] 0 = some (.ref 66)) rfl
                  have gL118_1 : jGet L118 1 = some (.int (i32 (1))) := eL118 ▸ jg_eq
                  refine jx_ld (pc' := 66) (l' := L118) (st' := [.ref 66]) rfl (jl_aloadn gL118_0) ?_
                  refine jx_vr (pc' := 69) (as := []) (st := []) rfl rfl rfl rfl ⟨rfl, rfl, Nat.le_of_ble_eq_true rfl⟩ rfl rfl (c_next (dd := d) (hd := by omega) (hW := hW)  (ln := ln) (e_ln := show G 9 = ln from (e_ln)) (le := le) (e_le := show A 4 (ln).toNat = le from (e_le)) (at0 := at0) (e_at0 := show G 10 = at0 from (e_at0))    (p_0 := by omega)) (fun o V' hq => ?_)
                  obtain ⟨G119, A120, at2_121, tk2_122, rfl, rfl, hW123, hF124, e125, e126, p127, p128, p129, -⟩ := hq
                  have hF131 := Fr_tr hF0 hF124 (Fr_sub (by decide)) (Fr_sub (by decide))
                  have bat2_121 : (0 : Int) ≤ at2_121 ∧ at2_121 ≤ 3002 := e125 ▸ hW123.1 10
                  have ztk2_122 := tz_b tk2_122
                  have btk2_122 : (0 : Int) ≤ tk2_122 ∧ tk2_122 ≤ 5 := e126 ▸ hW123.1 11
                  refine .inl ⟨rfl, ?_⟩
                  refine jx_ld (pc' := 70) (l' := L118) (st' := [.ref 66]) rfl (jl_aloadn gL118_0) ?_
                  refine jx_ar (pc' := 71) (st' := [.int (i32 (1)), .ref 66]) rfl rfl rfl rfl ?_
                  refine jx_ld (pc' := 72) (l' := L118) (st' := [.int (i32 (1)), .int (i32 (1)), .ref 66]) rfl (jl_iloadn gL118_1) ?_
                  refine jx_ar (pc' := 73) (st' := [.int (i32 (0)), .int (i32 (1)), .int (i32 (1)), .ref 66]) rfl rfl rfl rfl ?_
                  refine jx_ar (pc' := 74) (st' := [.int (i32 (0)), .int (i32 (0)), .int (i32 (1)), .int (i32 (1)), .ref 66]) rfl rfl rfl rfl ?_
                  refine jx_ar (pc' := 75) (st' := [.int (i32 (0)), .int (i32 (0)), .int (i32 (0)), .int (i32 (1)), .int (i32 (1)), .ref 66]) rfl rfl rfl rfl ?_
                  refine jx_vr (pc' := 78) (as := [.int (i32 (1)), .int (i32 (1)), .int (i32 (0)), .int (i32 (0)), .int (i32 (0))]) (st := []) rfl rfl rfl rfl ⟨rfl, rfl, Nat.le_of_ble_eq_true rfl⟩ rfl rfl (c_node (dd := d) (hd := by omega) (hW := hW123) (kind := 1) (a := 1) (b := 0) (c := 0) (e := 0) (nd := nd) (e_nd := show G119 31 = nd from ((hF124.1 31 rfl).trans (e_nd)))  (h_kind := by omega) (h_a := by omega) (h_b := by omega) (h_c := by omega) (h_e := by omega)  (p_0 := by omega) (p_1 := by omega)) (fun o V' hq => ?_)
                  obtain ⟨G132, A133, r134, nd2_135, rfl, rfl, hW136, hF137, b138, e139, p140, p141, -⟩ := hq
                  have hF143 := Fr_tr hF131 hF137 (Fr_sub (by decide)) (Fr_sub (by decide))
                  have bnd2_135 : (0 : Int) ≤ nd2_135 ∧ nd2_135 ≤ 6999 := e139 ▸ hW136.1 31
                  refine .inr ⟨_, rfl, ?_⟩
                  refine jx_rt (v := some (.int (i32 (r134)))) rfl rfl rfl rfl rfl rfl ?_
                  have z144 := tz_f (tk2_122)
                  exact ⟨_, _, _, at2_121, fk, op0, nd2_135, tk2_122, rfl, rfl, hW136, hF143, by omega, ((hF137.1 10 rfl).trans (e125)), ((hF137.1 16 rfl).trans ((hF124.1 16 rfl).trans (e_fk))), ((hF137.1 15 rfl).trans ((hF124.1 15 rfl).trans (e_op0))), (e139), ((hF137.1 11 rfl).trans (e126)), by omega, by omega, by omega, by omega, by omega, by omega, by first | exact Or.inl (⟨by omega, by omega, by omega, by omega, by omega, by omega⟩) | exact Or.inr (Or.inl (⟨by omega, by omega, by omega⟩)) | exact Or.inr (Or.inr ((⟨by omega, by omega, by omega⟩)))⟩
              · have _q : True := trivial
                refine jx_if_eq (pc' := 59) (tg := 63) rfl rfl rfl (by omega) (by omega) (fun h145 => ?_) (fun h145 => ?_)
                · have _q := h145
                  refine jx_ar (pc' := 64) (st' := [.int (i32 (0))]) rfl rfl rfl rfl ?_
                  refine jx_ld (pc' := 65) (l' := jSto1 [(0, .ref 66)] 1 (.int (i32 (0)))) (st' := []) rfl rfl ?_
                  obtain ⟨L146, eL146⟩ : ∃ q, q = jSto1 [(0, .ref 66)] 1 (.int (i32 (0))) := ⟨_, rfl⟩
                  rw [← eL146]
                  have gL146_0 : jGet L146 0 = some (.ref 66) := eL146 ▸ jg_ne (by decide) (rfl : jGet [(0, .ref 66)] 0 = some (.ref 66)) rfl
                  have gL146_1 : jGet L146 1 = some (.int (i32 (0))) := eL146 ▸ jg_eq
                  refine jx_ld (pc' := 66) (l' := L146) (st' := [.ref 66]) rfl (jl_aloadn gL146_0) ?_
                  refine jx_vr (pc' := 69) (as := []) (st := []) rfl rfl rfl rfl ⟨rfl, rfl, Nat.le_of_ble_eq_true rfl⟩ rfl rfl (c_next (dd := d) (hd := by omega) (hW := hW)  (ln := ln) (e_ln := show G 9 = ln from (e_ln)) (le := le) (e_le := show A 4 (ln).toNat = le from (e_le)) (at0 := at0) (e_at0 := show G 10 = at0 from (e_at0))    (p_0 := by omega)) (fun o V' hq => ?_)
                  obtain ⟨G147, A148, at2_149, tk2_150, rfl, rfl, hW151, hF152, e153, e154, p155, p156, p157, -⟩ := hq
                  have hF159 := Fr_tr hF0 hF152 (Fr_sub (by decide)) (Fr_sub (by decide))
                  have bat2_149 : (0 : Int) ≤ at2_149 ∧ at2_149 ≤ 3002 := e153 ▸ hW151.1 10
                  have ztk2_150 := tz_b tk2_150
                  have btk2_150 : (0 : Int) ≤ tk2_150 ∧ tk2_150 ≤ 5 := e154 ▸ hW151.1 11
                  refine .inl ⟨rfl, ?_⟩
                  refine jx_ld (pc' := 70) (l' := L146) (st' := [.ref 66]) rfl (jl_aloadn gL146_0) ?_
                  refine jx_ar (pc' := 71) (st' := [.int (i32 (1)), .ref 66]) rfl rfl rfl rfl ?_
                  refine jx_ld (pc' := 72) (l' := L146) (st' := [.int (i32 (0)), .int (i32 (1)), .ref 66]) rfl (jl_iloadn gL146_1) ?_
                  refine jx_ar (pc' := 73) (st' := [.int (i32 (0)), .int (i32 (0)), .int (i32 (1)), .ref 66]) rfl rfl rfl rfl ?_
                  refine jx_ar (pc' := 74) (st' := [.int (i32 (0)), .int (i32 (0)), .int (i32 (0)), .int (i32 (1)), .ref 66]) rfl rfl rfl rfl ?_
                  refine jx_ar (pc' := 75) (st' := [.int (i32 (0)), .int (i32 (0)), .int (i32 (0)), .int (i32 (0)), .int (i32 (1)), .ref 66]) rfl rfl rfl rfl ?_
                  refine jx_vr (pc' := 78) (as := [.int (i32 (1)), .int (i32 (0)), .int (i32 (0)), .int (i32 (0)), .int (i32 (0))]) (st := []) rfl rfl rfl rfl ⟨rfl, rfl, Nat.le_of_ble_eq_true rfl⟩ rfl rfl (c_node (dd := d) (hd := by omega) (hW := hW151) (kind := 1) (a := 0) (b := 0) (c := 0) (e := 0) (nd := nd) (e_nd := show G147 31 = nd from ((hF152.1 31 rfl).trans (e_nd)))  (h_kind := by omega) (h_a := by omega) (h_b := by omega) (h_c := by omega) (h_e := by omega)  (p_0 := by omega) (p_1 := by omega)) (fun o V' hq => ?_)
                  obtain ⟨G160, A161, r162, nd2_163, rfl, rfl, hW164, hF165, b166, e167, p168, p169, -⟩ := hq
                  have hF171 := Fr_tr hF159 hF165 (Fr_sub (by decide)) (Fr_sub (by decide))
                  have bnd2_163 : (0 : Int) ≤ nd2_163 ∧ nd2_163 ≤ 6999 := e167 ▸ hW164.1 31
                  refine .inr ⟨_, rfl, ?_⟩
                  refine jx_rt (v := some (.int (i32 (r162)))) rfl rfl rfl rfl rfl rfl ?_
                  have z172 := tz_f (tk2_150)
                  exact ⟨_, _, _, at2_149, fk, op0, nd2_163, tk2_150, rfl, rfl, hW164, hF171, by omega, ((hF165.1 10 rfl).trans (e153)), ((hF165.1 16 rfl).trans ((hF152.1 16 rfl).trans (e_fk))), ((hF165.1 15 rfl).trans ((hF152.1 15 rfl).trans (e_op0))), (e167), ((hF165.1 11 rfl).trans (e154)), by omega, by omega, by omega, by omega, by omega, by omega, by first | exact Or.inl (⟨by omega, by omega, by omega, by omega, by omega, by omega⟩) | exact Or.inr (Or.inl (⟨by omega, by omega, by omega⟩)) | exact Or.inr (Or.inr ((⟨by omega, by omega, by omega⟩)))⟩
                · have _q := h145
                  exact absurd h145 (by omega)
            · have _q := h110
              refine jx_ld (pc' := 44) (l' := [(0, .ref 66)]) (st' := [.ref 66]) rfl (jl_aloadn rfl) ?_
              refine jr_get (pc' := 47) (i := 13) (v := .int (i32 (G 13))) rfl rfl (by decide) rfl rfl ?_
              refine jx_go (tg := 64) rfl rfl ?_
              refine jx_ld (pc' := 65) (l' := jSto1 [(0, .ref 66)] 1 (.int (i32 (G 13)))) (st' := []) rfl rfl ?_
              obtain ⟨L173, eL173⟩ : ∃ q, q = jSto1 [(0, .ref 66)] 1 (.int (i32 (G 13))) := ⟨_, rfl⟩
              rw [← eL173]
              have gL173_0 : jGet L173 0 = some (.ref 66) := eL173 ▸ jg_ne (by decide) (rfl : jGet [(0, .ref 66)] 0 = some (.ref 66)) rfl
              have gL173_1 : jGet L173 1 = some (.int (i32 (G 13))) := eL173 ▸ jg_eq
              refine jx_ld (pc' := 66) (l' := L173) (st' := [.ref 66]) rfl (jl_aloadn gL173_0) ?_
              refine jx_vr (pc' := 69) (as := []) (st := []) rfl rfl rfl rfl ⟨rfl, rfl, Nat.le_of_ble_eq_true rfl⟩ rfl rfl (c_next (dd := d) (hd := by omega) (hW := hW)  (ln := ln) (e_ln := show G 9 = ln from (e_ln)) (le := le) (e_le := show A 4 (ln).toNat = le from (e_le)) (at0 := at0) (e_at0 := show G 10 = at0 from (e_at0))    (p_0 := by omega)) (fun o V' hq => ?_)
              obtain ⟨G174, A175, at2_176, tk2_177, rfl, rfl, hW178, hF179, e180, e181, p182, p183, p184, -⟩ := hq
              have hF186 := Fr_tr hF0 hF179 (Fr_sub (by decide)) (Fr_sub (by decide))
              have bat2_176 : (0 : Int) ≤ at2_176 ∧ at2_176 ≤ 3002 := e180 ▸ hW178.1 10
              have ztk2_177 := tz_b tk2_177
              have btk2_177 : (0 : Int) ≤ tk2_177 ∧ tk2_177 ≤ 5 := e181 ▸ hW178.1 11
              refine .inl ⟨rfl, ?_⟩
              refine jx_ld (pc' := 70) (l' := L173) (st' := [.ref 66]) rfl (jl_aloadn gL173_0) ?_
              refine jx_ar (pc' := 71) (st' := [.int (i32 (1)), .ref 66]) rfl rfl rfl rfl ?_
              refine jx_ld (pc' := 72) (l' := L173) (st' := [.int (i32 (G 13)), .int (i32 (1)), .ref 66]) rfl (jl_iloadn gL173_1) ?_
              refine jx_ar (pc' := 73) (st' := [.int (i32 (0)), .int (i32 (G 13)), .int (i32 (1)), .ref 66]) rfl rfl rfl rfl ?_
              refine jx_ar (pc' := 74) (st' := [.int (i32 (0)), .int (i32 (0)), .int (i32 (G 13)), .int (i32 (1)), .ref 66]) rfl rfl rfl rfl ?_
              refine jx_ar (pc' := 75) (st' := [.int (i32 (0)), .int (i32 (0)), .int (i32 (0)), .int (i32 (G 13)), .int (i32 (1)), .ref 66]) rfl rfl rfl rfl ?_
              refine jx_vr (pc' := 78) (as := [.int (i32 (1)), .int (i32 (G 13)), .int (i32 (0)), .int (i32 (0)), .int (i32 (0))]) (st := []) rfl rfl rfl rfl ⟨rfl, rfl, Nat.le_of_ble_eq_true rfl⟩ rfl rfl (c_node (dd := d) (hd := by omega) (hW := hW178) (kind := 1) (a := G 13) (b := 0) (c := 0) (e := 0) (nd := nd) (e_nd := show G174 31 = nd from ((hF179.1 31 rfl).trans (e_nd)))  (h_kind := by omega) (h_a := by omega) (h_b := by omega) (h_c := by omega) (h_e := by omega)  (p_0 := by omega) (p_1 := by omega)) (fun o V' hq => ?_)
              obtain ⟨G187, A188, r189, nd2_190, rfl, rfl, hW191, hF192, b193, e194, p195, p196, -⟩ := hq
              have hF198 := Fr_tr hF186 hF192 (Fr_sub (by decide)) (Fr_sub (by decide))
              have bnd2_190 : (0 : Int) ≤ nd2_190 ∧ nd2_190 ≤ 6999 := e194 ▸ hW191.1 31
              refine .inr ⟨_, rfl, ?_⟩
              refine jx_rt (v := some (.int (i32 (r189)))) rfl rfl rfl rfl rfl rfl ?_
              have z199 := tz_f (tk2_177)
              exact ⟨_, _, _, at2_176, fk, op0, nd2_190, tk2_177, rfl, rfl, hW191, hF198, by omega, ((hF192.1 10 rfl).trans (e180)), ((hF192.1 16 rfl).trans ((hF179.1 16 rfl).trans (e_fk))), ((hF192.1 15 rfl).trans ((hF179.1 15 rfl).trans (e_op0))), (e194), ((hF192.1 11 rfl).trans (e181)), by omega, by omega, by omega, by omega, by omega, by omega, by first | exact Or.inl (⟨by omega, by omega, by omega, by omega, by omega, by omega⟩) | exact Or.inr (Or.inl (⟨by omega, by omega, by omega⟩)) | exact Or.inr (Or.inr ((⟨by omega, by omega, by omega⟩)))⟩
          · have _q := h109
            exact absurd h109 (by omega)
        · have _q : True := trivial
          refine jx_if_ne (pc' := 26) (tg := 35) rfl rfl rfl (by omega) (by omega) (fun h200 => ?_) (fun h200 => ?_)
          · have _q := h200
            exact absurd h200 (by omega)
          · have _q := h200
            refine jx_ld (pc' := 27) (l' := [(0, .ref 66)]) (st' := [.ref 66]) rfl (jl_aloadn rfl) ?_
            refine jx_ar (pc' := 29) (st' := [.int (i32 (15)), .ref 66]) rfl rfl rfl rfl ?_
            refine jx_vr (pc' := 32) (as := [.int (i32 (15))]) (st := []) rfl rfl rfl rfl ⟨rfl, rfl, Nat.le_of_ble_eq_true rfl⟩ rfl rfl (c_isKey (dd := d) (hd := by omega) (hW := hW) (k := 15) (tk := tk0) (e_tk := show G 11 = tk0 from (e_tk0)) (tn := G 13) (e_tn := show G 13 = G 13 from rfl)  (h_k := by omega)  ) (fun o V' hq => ?_)
            obtain ⟨r201, rfl, rfl, b202, q203⟩ := hq
            refine .inr ⟨_, rfl, ?_⟩
            rcases q203 with ⟨rfl, a204, a205, a206⟩ | rfl
            · have _q : True := trivial
              refine jx_if_eq (pc' := 35) (tg := 79) rfl rfl rfl (by omega) (by omega) (fun h207 => ?_) (fun h207 => ?_)
              · have _q := h207
                exact absurd h207 (by omega)
              · have _q := h207
                refine jx_ld (pc' := 36) (l' := [(0, .ref 66)]) (st' := [.ref 66]) rfl (jl_aloadn rfl) ?_
                refine jr_get (pc' := 39) (i := 11) (v := .int (i32 (tk0))) rfl rfl (by decide) (rFv_eq (by decide) (show G 11 = tk0 from (e_tk0))) rfl ?_
                refine jx_ar (pc' := 40) (st' := [.int (i32 (3)), .int (i32 (tk0))]) rfl rfl rfl rfl ?_
                refine jx_icmp_ne (pc' := 43) (tg := 50) rfl rfl rfl (by omega) (by omega) (by omega) (by omega) (fun h208 => ?_) (fun h208 => ?_)
                · have _q := h208
                  refine jx_ld (pc' := 51) (l' := [(0, .ref 66)]) (st' := [.ref 66]) rfl (jl_aloadn rfl) ?_
                  refine jx_ar (pc' := 53) (st' := [.int (i32 (14)), .ref 66]) rfl rfl rfl rfl ?_
                  refine jx_vr (pc' := 56) (as := [.int (i32 (14))]) (st := []) rfl rfl rfl rfl ⟨rfl, rfl, Nat.le_of_ble_eq_true rfl⟩ rfl rfl (c_isKey (dd := d) (hd := by omega) (hW := hW) (k := 14) (tk := tk0) (e_tk := show G 11 = tk0 from (e_tk0)) (tn := G 13) (e_tn := show G 13 = G 13 from rfl)  (h_k := by omega)  ) (fun o V' hq => ?_)
                  obtain ⟨r209, rfl, rfl, b210, q211⟩ := hq
                  refine .inr ⟨_, rfl, ?_⟩
                  rcases q211 with ⟨rfl, a212, a213, a214⟩ | rfl
                  · have _q : True := trivial
                    refine jx_if_eq (pc' := 59) (tg := 63) rfl rfl rfl (by omega) (by omega) (fun h215 => ?_) (fun h215 => ?_)
                    · have _q := h215
                      exact absurd h215 (by omega)
                    · have _q := h215
                      refine jx_ar (pc' := 60) (st' := [.int (i32 (1))]) rfl rfl rfl rfl ?_
                      refine jx_go (tg := 64) rfl rfl ?_
                      refine jx_ld (pc' := 65) (l' := jSto1 [(0, .ref 66)] 1 (.int (i32 (1)))) (st' := []) rfl rfl ?_
                      obtain ⟨L216, eL216⟩ : ∃ q, q = jSto1 [(0, .ref 66)] 1 (.int (i32 (1))) := ⟨_, rfl⟩
                      rw [← eL216]
                      have gL216_0 : jGet L216 0 = some (.ref 66) := eL216 ▸ jg_ne (by decide) (rfl : jGet [(0, .ref 66)] 0 = some (.ref 66)) rfl
                      have gL216_1 : jGet L216 1 = some (.int (i32 (1))) := eL216 ▸ jg_eq
                      refine jx_ld (pc' := 66) (l' := L216) (st' := [.ref 66]) rfl (jl_aloadn gL216_0) ?_
                      refine jx_vr (pc' := 69) (as := []) (st := []) rfl rfl rfl rfl ⟨rfl, rfl, Nat.le_of_ble_eq_true rfl⟩ rfl rfl (c_next (dd := d) (hd := by omega) (hW := hW)  (ln := ln) (e_ln := show G 9 = ln from (e_ln)) (le := le) (e_le := show A 4 (ln).toNat = le from (e_le)) (at0 := at0) (e_at0 := show G 10 = at0 from (e_at0))    (p_0 := by omega)) (fun o V' hq => ?_)
                      obtain ⟨G217, A218, at2_219, tk2_220, rfl, rfl, hW221, hF222, e223, e224, p225, p226, p227, -⟩ := hq
                      have hF229 := Fr_tr hF0 hF222 (Fr_sub (by decide)) (Fr_sub (by decide))
                      have bat2_219 : (0 : Int) ≤ at2_219 ∧ at2_219 ≤ 3002 := e223 ▸ hW221.1 10
                      have ztk2_220 := tz_b tk2_220
                      have btk2_220 : (0 : Int) ≤ tk2_220 ∧ tk2_220 ≤ 5 := e224 ▸ hW221.1 11
                      refine .inl ⟨rfl, ?_⟩
                      refine jx_ld (pc' := 70) (l' := L216) (st' := [.ref 66]) rfl (jl_aloadn gL216_0) ?_
                      refine jx_ar (pc' := 71) (st' := [.int (i32 (1)), .ref 66]) rfl rfl rfl rfl ?_
                      refine jx_ld (pc' := 72) (l' := L216) (st' := [.int (i32 (1)), .int (i32 (1)), .ref 66]) rfl (jl_iloadn gL216_1) ?_
                      refine jx_ar (pc' := 73) (st' := [.int (i32 (0)), .int (i32 (1)), .int (i32 (1)), .ref 66]) rfl rfl rfl rfl ?_
                      refine jx_ar (pc' := 74) (st' := [.int (i32 (0)), .int (i32 (0)), .int (i32 (1)), .int (i32 (1)), .ref 66]) rfl rfl rfl rfl ?_
                      refine jx_ar (pc' := 75) (st' := [.int (i32 (0)), .int (i32 (0)), .int (i32 (0)), .int (i32 (1)), .int (i32 (1)), .ref 66]) rfl rfl rfl rfl ?_
                      refine jx_vr (pc' := 78) (as := [.int (i32 (1)), .int (i32 (1)), .int (i32 (0)), .int (i32 (0)), .int (i32 (0))]) (st := []) rfl rfl rfl rfl ⟨rfl, rfl, Nat.le_of_ble_eq_true rfl⟩ rfl rfl (c_node (dd := d) (hd := by omega) (hW := hW221) (kind := 1) (a := 1) (b := 0) (c := 0) (e := 0) (nd := nd) (e_nd := show G217 31 = nd from ((hF222.1 31 rfl).trans (e_nd)))  (h_kind := by omega) (h_a := by omega) (h_b := by omega) (h_c := by omega) (h_e := by omega)  (p_0 := by omega) (p_1 := by omega)) (fun o V' hq => ?_)
                      obtain ⟨G230, A231, r232, nd2_233, rfl, rfl, hW234, hF235, b236, e237, p238, p239, -⟩ := hq
                      have hF241 := Fr_tr hF229 hF235 (Fr_sub (by decide)) (Fr_sub (by decide))
                      have bnd2_233 : (0 : Int) ≤ nd2_233 ∧ nd2_233 ≤ 6999 := e237 ▸ hW234.1 31
                      refine .inr ⟨_, rfl, ?_⟩
                      refine jx_rt (v := some (.int (i32 (r232)))) rfl rfl rfl rfl rfl rfl ?_
                      have z242 := tz_f (tk2_220)
                      exact ⟨_, _, _, at2_219, fk, op0, nd2_233, tk2_220, rfl, rfl, hW234, hF241, by omega, ((hF235.1 10 rfl).trans (e223)), ((hF235.1 16 rfl).trans ((hF222.1 16 rfl).trans (e_fk))), ((hF235.1 15 rfl).trans ((hF222.1 15 rfl).trans (e_op0))), (e237), ((hF235.1 11 rfl).trans (e224)), by omega, by omega, by omega, by omega, by omega, by omega, by first | exact Or.inl (⟨by omega, by omega, by omega, by omega, by omega, by omega⟩) | exact Or.inr (Or.inl (⟨by omega, by omega, by omega⟩)) | exact Or.inr (Or.inr ((⟨by omega, by omega, by omega⟩)))⟩
                  · have _q : True := trivial
                    refine jx_if_eq (pc' := 59) (tg := 63) rfl rfl rfl (by omega) (by omega) (fun h243 => ?_) (fun h243 => ?_)
                    · have _q := h243
                      refine jx_ar (pc' := 64) (st' := [.int (i32 (0))]) rfl rfl rfl rfl ?_
                      refine jx_ld (pc' := 65) (l' := jSto1 [(0, .ref 66)] 1 (.int (i32 (0)))) (st' := []) rfl rfl ?_
                      obtain ⟨L244, eL244⟩ : ∃ q, q = jSto1 [(0, .ref 66)] 1 (.int (i32 (0))) := ⟨_, rfl⟩
                      rw [← eL244]
                      have gL244_0 : jGet L244 0 = some (.ref 66) := eL244 ▸ jg_ne (by decide) (rfl : jGet [(0, .ref 66)] 0 = some (.ref 66)) rfl
                      have gL244_1 : jGet L244 1 = some (.int (i32 (0))) := eL244 ▸ jg_eq
                      refine jx_ld (pc' := 66) (l' := L244) (st' := [.ref 66]) rfl (jl_aloadn gL244_0) ?_
                      refine jx_vr (pc' := 69) (as := []) (st := []) rfl rfl rfl rfl ⟨rfl, rfl, Nat.le_of_ble_eq_true rfl⟩ rfl rfl (c_next (dd := d) (hd := by omega) (hW := hW)  (ln := ln) (e_ln := show G 9 = ln from (e_ln)) (le := le) (e_le := show A 4 (ln).toNat = le from (e_le)) (at0 := at0) (e_at0 := show G 10 = at0 from (e_at0))    (p_0 := by omega)) (fun o V' hq => ?_)
                      obtain ⟨G245, A246, at2_247, tk2_248, rfl, rfl, hW249, hF250, e251, e252, p253, p254, p255, -⟩ := hq
                      have hF257 := Fr_tr hF0 hF250 (Fr_sub (by decide)) (Fr_sub (by decide))
                      have bat2_247 : (0 : Int) ≤ at2_247 ∧ at2_247 ≤ 3002 := e251 ▸ hW249.1 10
                      have ztk2_248 := tz_b tk2_248
                      have btk2_248 : (0 : Int) ≤ tk2_248 ∧ tk2_248 ≤ 5 := e252 ▸ hW249.1 11
                      refine .inl ⟨rfl, ?_⟩
                      refine jx_ld (pc' := 70) (l' := L244) (st' := [.ref 66]) rfl (jl_aloadn gL244_0) ?_
                      refine jx_ar (pc' := 71) (st' := [.int (i32 (1)), .ref 66]) rfl rfl rfl rfl ?_
                      refine jx_ld (pc' := 72) (l' := L244) (st' := [.int (i32 (0)), .int (i32 (1)), .ref 66]) rfl (jl_iloadn gL244_1) ?_
                      refine jx_ar (pc' := 73) (st' := [.int (i32 (0)), .int (i32 (0)), .int (i32 (1)), .ref 66]) rfl rfl rfl rfl ?_
                      refine jx_ar (pc' := 74) (st' := [.int (i32 (0)), .int (i32 (0)), .int (i32 (0)), .int (i32 (1)), .ref 66]) rfl rfl rfl rfl ?_
                      refine jx_ar (pc' := 75) (st' := [.int (i32 (0)), .int (i32 (0)), .int (i32 (0)), .int (i32 (0)), .int (i32 (1)), .ref 66]) rfl rfl rfl rfl ?_
                      refine jx_vr (pc' := 78) (as := [.int (i32 (1)), .int (i32 (0)), .int (i32 (0)), .int (i32 (0)), .int (i32 (0))]) (st := []) rfl rfl rfl rfl ⟨rfl, rfl, Nat.le_of_ble_eq_true rfl⟩ rfl rfl (c_node (dd := d) (hd := by omega) (hW := hW249) (kind := 1) (a := 0) (b := 0) (c := 0) (e := 0) (nd := nd) (e_nd := show G245 31 = nd from ((hF250.1 31 rfl).trans (e_nd)))  (h_kind := by omega) (h_a := by omega) (h_b := by omega) (h_c := by omega) (h_e := by omega)  (p_0 := by omega) (p_1 := by omega)) (fun o V' hq => ?_)
                      obtain ⟨G258, A259, r260, nd2_261, rfl, rfl, hW262, hF263, b264, e265, p266, p267, -⟩ := hq
                      have hF269 := Fr_tr hF257 hF263 (Fr_sub (by decide)) (Fr_sub (by decide))
                      have bnd2_261 : (0 : Int) ≤ nd2_261 ∧ nd2_261 ≤ 6999 := e265 ▸ hW262.1 31
                      refine .inr ⟨_, rfl, ?_⟩
                      refine jx_rt (v := some (.int (i32 (r260)))) rfl rfl rfl rfl rfl rfl ?_
                      have z270 := tz_f (tk2_248)
                      exact ⟨_, _, _, at2_247, fk, op0, nd2_261, tk2_248, rfl, rfl, hW262, hF269, by omega, ((hF263.1 10 rfl).trans (e251)), ((hF263.1 16 rfl).trans ((hF250.1 16 rfl).trans (e_fk))), ((hF263.1 15 rfl).trans ((hF250.1 15 rfl).trans (e_op0))), (e265), ((hF263.1 11 rfl).trans (e252)), by omega, by omega, by omega, by omega, by omega, by omega, by first | exact Or.inl (⟨by omega, by omega, by omega, by omega, by omega, by omega⟩) | exact Or.inr (Or.inl (⟨by omega, by omega, by omega⟩)) | exact Or.inr (Or.inr ((⟨by omega, by omega, by omega⟩)))⟩
                    · have _q := h243
                      exact absurd h243 (by omega)
                · have _q := h208
                  refine jx_ld (pc' := 44) (l' := [(0, .ref 66)]) (st' := [.ref 66]) rfl (jl_aloadn rfl) ?_
                  refine jr_get (pc' := 47) (i := 13) (v := .int (i32 (G 13))) rfl rfl (by decide) rfl rfl ?_
                  refine jx_go (tg := 64) rfl rfl ?_
                  refine jx_ld (pc' := 65) (l' := jSto1 [(0, .ref 66)] 1 (.int (i32 (G 13)))) (st' := []) rfl rfl ?_
                  obtain ⟨L271, eL271⟩ : ∃ q, q = jSto1 [(0, .ref 66)] 1 (.int (i32 (G 13))) := ⟨_, rfl⟩
                  rw [← eL271]
                  have gL271_0 : jGet L271 0 = some (.ref 66) := eL271 ▸ jg_ne (by decide) (rfl : jGet [(0, .ref 66)] 0 = some (.ref 66)) rfl
                  have gL271_1 : jGet L271 1 = some (.int (i32 (G 13))) := eL271 ▸ jg_eq
                  refine jx_ld (pc' := 66) (l' := L271) (st' := [.ref 66]) rfl (jl_aloadn gL271_0) ?_
                  refine jx_vr (pc' := 69) (as := []) (st := []) rfl rfl rfl rfl ⟨rfl, rfl, Nat.le_of_ble_eq_true rfl⟩ rfl rfl (c_next (dd := d) (hd := by omega) (hW := hW)  (ln := ln) (e_ln := show G 9 = ln from (e_ln)) (le := le) (e_le := show A 4 (ln).toNat = le from (e_le)) (at0 := at0) (e_at0 := show G 10 = at0 from (e_at0))    (p_0 := by omega)) (fun o V' hq => ?_)
                  obtain ⟨G272, A273, at2_274, tk2_275, rfl, rfl, hW276, hF277, e278, e279, p280, p281, p282, -⟩ := hq
                  have hF284 := Fr_tr hF0 hF277 (Fr_sub (by decide)) (Fr_sub (by decide))
                  have bat2_274 : (0 : Int) ≤ at2_274 ∧ at2_274 ≤ 3002 := e278 ▸ hW276.1 10
                  have ztk2_275 := tz_b tk2_275
                  have btk2_275 : (0 : Int) ≤ tk2_275 ∧ tk2_275 ≤ 5 := e279 ▸ hW276.1 11
                  refine .inl ⟨rfl, ?_⟩
                  refine jx_ld (pc' := 70) (l' := L271) (st' := [.ref 66]) rfl (jl_aloadn gL271_0) ?_
                  refine jx_ar (pc' := 71) (st' := [.int (i32 (1)), .ref 66]) rfl rfl rfl rfl ?_
                  refine jx_ld (pc' := 72) (l' := L271) (st' := [.int (i32 (G 13)), .int (i32 (1)), .ref 66]) rfl (jl_iloadn gL271_1) ?_
                  refine jx_ar (pc' := 73) (st' := [.int (i32 (0)), .int (i32 (G 13)), .int (i32 (1)), .ref 66]) rfl rfl rfl rfl ?_
                  refine jx_ar (pc' := 74) (st' := [.int (i32 (0)), .int (i32 (0)), .int (i32 (G 13)), .int (i32 (1)), .ref 66]) rfl rfl rfl rfl ?_
                  refine jx_ar (pc' := 75) (st' := [.int (i32 (0)), .int (i32 (0)), .int (i32 (0)), .int (i32 (G 13)), .int (i32 (1)), .ref 66]) rfl rfl rfl rfl ?_
                  refine jx_vr (pc' := 78) (as := [.int (i32 (1)), .int (i32 (G 13)), .int (i32 (0)), .int (i32 (0)), .int (i32 (0))]) (st := []) rfl rfl rfl rfl ⟨rfl, rfl, Nat.le_of_ble_eq_true rfl⟩ rfl rfl (c_node (dd := d) (hd := by omega) (hW := hW276) (kind := 1) (a := G 13) (b := 0) (c := 0) (e := 0) (nd := nd) (e_nd := show G272 31 = nd from ((hF277.1 31 rfl).trans (e_nd)))  (h_kind := by omega) (h_a := by omega) (h_b := by omega) (h_c := by omega) (h_e := by omega)  (p_0 := by omega) (p_1 := by omega)) (fun o V' hq => ?_)
                  obtain ⟨G285, A286, r287, nd2_288, rfl, rfl, hW289, hF290, b291, e292, p293, p294, -⟩ := hq
                  have hF296 := Fr_tr hF284 hF290 (Fr_sub (by decide)) (Fr_sub (by decide))
                  have bnd2_288 : (0 : Int) ≤ nd2_288 ∧ nd2_288 ≤ 6999 := e292 ▸ hW289.1 31
                  refine .inr ⟨_, rfl, ?_⟩
                  refine jx_rt (v := some (.int (i32 (r287)))) rfl rfl rfl rfl rfl rfl ?_
                  have z297 := tz_f (tk2_275)
                  exact ⟨_, _, _, at2_274, fk, op0, nd2_288, tk2_275, rfl, rfl, hW289, hF296, by omega, ((hF290.1 10 rfl).trans (e278)), ((hF290.1 16 rfl).trans ((hF277.1 16 rfl).trans (e_fk))), ((hF290.1 15 rfl).trans ((hF277.1 15 rfl).trans (e_op0))), (e292), ((hF290.1 11 rfl).trans (e279)), by omega, by omega, by omega, by omega, by omega, by omega, by first | exact Or.inl (⟨by omega, by omega, by omega, by omega, by omega, by omega⟩) | exact Or.inr (Or.inl (⟨by omega, by omega, by omega⟩)) | exact Or.inr (Or.inr ((⟨by omega, by omega, by omega⟩)))⟩
            · have _q : True := trivial
              refine jx_if_eq (pc' := 35) (tg := 79) rfl rfl rfl (by omega) (by omega) (fun h298 => ?_) (fun h298 => ?_)
              · have _q := h298
                refine jx_ld (pc' := 80) (l' := [(0, .ref 66)]) (st' := [.ref 66]) rfl (jl_aloadn rfl) ?_
                refine jx_ar (pc' := 82) (st' := [.int (i32 (40)), .ref 66]) rfl rfl rfl rfl ?_
                refine jx_vr (pc' := 85) (as := [.int (i32 (40))]) (st := []) rfl rfl rfl rfl ⟨rfl, rfl, Nat.le_of_ble_eq_true rfl⟩ rfl rfl (c_is (dd := d) (hd := by omega) (hW := hW) (k := 40) (tk := tk0) (e_tk := show G 11 = tk0 from (e_tk0)) (tn := G 13) (e_tn := show G 13 = G 13 from rfl)  (h_k := by omega)  ) (fun o V' hq => ?_)
                obtain ⟨r299, rfl, rfl, b300, q301⟩ := hq
                refine .inr ⟨_, rfl, ?_⟩
                rcases q301 with ⟨rfl, a302, a303, a304⟩ | rfl
                · have _q : True := trivial
                  refine jx_if_eq (pc' := 88) (tg := 133) rfl rfl rfl (by omega) (by omega) (fun h305 => ?_) (fun h305 => ?_)
                  · have _q := h305
                    exact absurd h305 (by omega)
                  · have _q := h305
                    refine jx_ld (pc' := 89) (l' := [(0, .ref 66)]) (st' := [.ref 66]) rfl (jl_aloadn rfl) ?_
                    refine jx_vr (pc' := 92) (as := []) (st := []) rfl rfl rfl rfl ⟨rfl, rfl, Nat.le_of_ble_eq_true rfl⟩ rfl rfl (c_open (dd := d) (hd := by omega) (hW := hW)  (fk := fk) (e_fk := show G 16 = fk from (e_fk)) (op0 := op0) (e_op0 := show G 15 = op0 from (e_op0))    (p_0 := by omega)) (fun o V' hq => ?_)
                    obtain ⟨G306, A307, fk2_308, op2_309, rfl, rfl, hW310, hF311, e312, e313, p314, q315⟩ := hq
                    have hF316 := Fr_tr hF0 hF311 (Fr_sub (by decide)) (Fr_sub (by decide))
                    have bfk2_308 : (0 : Int) ≤ fk2_308 ∧ fk2_308 ≤ 6 := e312 ▸ hW310.1 16
                    have bop2_309 : (-2147483648 : Int) ≤ op2_309 ∧ op2_309 ≤ 2147483647 := e313 ▸ hW310.1 15
                    refine .inl ⟨rfl, ?_⟩
                    rcases q315 with a317 | ⟨a318, a319, a320⟩
                    · have _q : True := trivial
                      refine jx_ld (pc' := 93) (l' := [(0, .ref 66)]) (st' := [.ref 66]) rfl (jl_aloadn rfl) ?_
                      refine jx_ar (pc' := 94) (st' := [.int (i32 (1)), .ref 66]) rfl rfl rfl rfl ?_
                      refine jx_vr (pc' := 97) (as := [.int (i32 (1))]) (st := []) rfl rfl rfl rfl ⟨rfl, rfl, Nat.le_of_ble_eq_true rfl⟩ rfl rfl (c_need (dd := d) (hd := by omega) (hW := hW310) (g := 1) (ln := ln) (e_ln := show G306 9 = ln from ((hF311.1 9 rfl).trans (e_ln))) (le := le) (e_le := show A307 4 (ln).toNat = le from (congrFun (hF311.2 4 rfl) _).trans (e_le)) (at0 := at0) (e_at0 := show G306 10 = at0 from ((hF311.1 10 rfl).trans (e_at0))) (fk := fk2_308) (e_fk := show G306 16 = fk2_308 from (e312)) (tk0 := tk0) (e_tk0 := show G306 11 = tk0 from ((hF311.1 11 rfl).trans (e_tk0)))  (h_g := by omega)  (p_0 := by omega)) (fun o V' hq => ?_)
                      obtain ⟨G321, A322, at2_323, tk2_324, fk2_325, rfl, rfl, hW326, hF327, e328, e329, e330, p331, p332, q333⟩ := hq
                      have hF334 := Fr_tr hF316 hF327 (Fr_sub (by decide)) (Fr_sub (by decide))
                      have bat2_323 : (0 : Int) ≤ at2_323 ∧ at2_323 ≤ 3002 := e328 ▸ hW326.1 10
                      have ztk2_324 := tz_b tk2_324
                      have btk2_324 : (0 : Int) ≤ tk2_324 ∧ tk2_324 ≤ 5 := e329 ▸ hW326.1 11
                      have bfk2_325 : (0 : Int) ≤ fk2_325 ∧ fk2_325 ≤ 6 := e330 ▸ hW326.1 16
                      refine .inl ⟨rfl, ?_⟩
                      rcases q333 with ⟨a335, a336, a337, a338⟩ | ⟨a339, a340, a341, a342⟩
                      · have _q : True := trivial
                        refine jx_ld (pc' := 98) (l' := [(0, .ref 66)]) (st' := [.ref 66]) rfl (jl_aloadn rfl) ?_
                        refine jx_vr (pc' := 101) (as := []) (st := []) rfl rfl rfl rfl ⟨rfl, rfl, Nat.le_of_ble_eq_true rfl⟩ rfl rfl (hE (dd := d) (hd := by omega) (hW := hW326)  (ln := ln) (e_ln := show G321 9 = ln from ((hF327.1 9 rfl).trans ((hF311.1 9 rfl).trans (e_ln)))) (le := le) (e_le := show A322 4 (ln).toNat = le from (congrFun ((hF327.2 4 rfl).trans (hF311.2 4 rfl)) _).trans (e_le)) (at0 := at2_323) (e_at0 := show G321 10 = at2_323 from (e328)) (fk := fk2_325) (e_fk := show G321 16 = fk2_325 from (e330)) (op0 := op2_309) (e_op0 := show G321 15 = op2_309 from ((hF327.1 15 rfl).trans (e313))) (nd := nd) (e_nd := show G321 31 = nd from ((hF327.1 31 rfl).trans ((hF311.1 31 rfl).trans (e_nd)))) (tk0 := tk2_324) (e_tk0 := show G321 11 = tk2_324 from (e329))    (p_0 := by omega) (p_1 := by omega) (p_2 := by omega) (p_3 := by omega) (p_4 := by omega) (p_5 := by omega)) (fun o V' hq => ?_)
                        obtain ⟨G343, A344, r345, at2_346, fk2_347, op2_348, nd2_349, tk2_350, rfl, rfl, hW351, hF352, b353, e354, e355, e356, e357, e358, p359, p360, p361, p362, p363, p364, q365⟩ := hq
                        have hF366 := Fr_tr hF334 hF352 (Fr_sub (by decide)) (Fr_sub (by decide))
                        have bat2_346 : (0 : Int) ≤ at2_346 ∧ at2_346 ≤ 3002 := e354 ▸ hW351.1 10
                        have bfk2_347 : (0 : Int) ≤ fk2_347 ∧ fk2_347 ≤ 6 := e355 ▸ hW351.1 16
                        have bop2_348 : (-2147483648 : Int) ≤ op2_348 ∧ op2_348 ≤ 2147483647 := e356 ▸ hW351.1 15
                        have bnd2_349 : (0 : Int) ≤ nd2_349 ∧ nd2_349 ≤ 6999 := e357 ▸ hW351.1 31
                        have ztk2_350 := tz_b tk2_350
                        have btk2_350 : (0 : Int) ≤ tk2_350 ∧ tk2_350 ≤ 5 := e358 ▸ hW351.1 11
                        refine .inr ⟨_, rfl, ?_⟩
                        rcases q365 with ⟨a367, a368, a369, a370, a371, a372⟩ | ⟨a373, a374, a375⟩ | ⟨a376, a377, a378⟩
                        · have _q : True := trivial
                          refine jx_ld (pc' := 102) (l' := jSto1 [(0, .ref 66)] 1 (.int (i32 (r345)))) (st' := []) rfl rfl ?_
                          obtain ⟨L379, eL379⟩ : ∃ q, q = jSto1 [(0, .ref 66)] 1 (.int (i32 (r345))) := ⟨_, rfl⟩
                          rw [← eL379]
                          have gL379_0 : jGet L379 0 = some (.ref 66) := eL379 ▸ jg_ne (by decide) (rfl : jGet [(0, .ref 66)] 0 = some (.ref 66)) rfl
                          have gL379_1 : jGet L379 1 = some (.int (i32 (r345))) := eL379 ▸ jg_eq
                          refine jx_ld (pc' := 103) (l' := L379) (st' := [.ref 66]) rfl (jl_aloadn gL379_0) ?_
                          refine jx_ld (pc' := 104) (l' := L379) (st' := [.ref 66, .ref 66]) rfl (jl_aloadn gL379_0) ?_
                          refine jx_ar (pc' := 106) (st' := [.int (i32 (41)), .ref 66, .ref 66]) rfl rfl rfl rfl ?_
                          have b380 : (-2147483648 : Int) ≤ G343 13 ∧ G343 13 ≤ 2147483647 := hW351.1 13
                          refine jx_vr (pc' := 109) (as := [.int (i32 (41))]) (st := [.ref 66]) rfl rfl rfl rfl ⟨rfl, rfl, Nat.le_of_ble_eq_true rfl⟩ rfl rfl (c_is (dd := d) (hd := by omega) (hW := hW351) (k := 41) (tk := tk2_350) (e_tk := show G343 11 = tk2_350 from (e358)) (tn := G343 13) (e_tn := show G343 13 = G343 13 from rfl)  (h_k := by omega)  ) (fun o V' hq => ?_)
                          obtain ⟨r381, rfl, rfl, b382, q383⟩ := hq
                          refine .inr ⟨_, rfl, ?_⟩
                          rcases q383 with ⟨rfl, a384, a385, a386⟩ | rfl
                          · have _q : True := trivial
                            refine jx_vr (pc' := 112) (as := [.int (i32 (1))]) (st := []) rfl rfl rfl rfl ⟨rfl, rfl, Nat.le_of_ble_eq_true rfl⟩ rfl rfl (c_need (dd := d) (hd := by omega) (hW := hW351) (g := 1) (ln := ln) (e_ln := show G343 9 = ln from ((hF352.1 9 rfl).trans ((hF327.1 9 rfl).trans ((hF311.1 9 rfl).trans (e_ln))))) (le := le) (e_le := show A344 4 (ln).toNat = le from (congrFun ((hF352.2 4 rfl).trans ((hF327.2 4 rfl).trans (hF311.2 4 rfl))) _).trans (e_le)) (at0 := at2_346) (e_at0 := show G343 10 = at2_346 from (e354)) (fk := fk2_347) (e_fk := show G343 16 = fk2_347 from (e355)) (tk0 := tk2_350) (e_tk0 := show G343 11 = tk2_350 from (e358))  (h_g := by omega)  (p_0 := by omega)) (fun o V' hq => ?_)
                            obtain ⟨G387, A388, at2_389, tk2_390, fk2_391, rfl, rfl, hW392, hF393, e394, e395, e396, p397, p398, q399⟩ := hq
                            have hF400 := Fr_tr hF366 hF393 (Fr_sub (by decide)) (Fr_sub (by decide))
                            have bat2_389 : (0 : Int) ≤ at2_389 ∧ at2_389 ≤ 3002 := e394 ▸ hW392.1 10
                            have ztk2_390 := tz_b tk2_390
                            have btk2_390 : (0 : Int) ≤ tk2_390 ∧ tk2_390 ≤ 5 := e395 ▸ hW392.1 11
                            have bfk2_391 : (0 : Int) ≤ fk2_391 ∧ fk2_391 ≤ 6 := e396 ▸ hW392.1 16
                            refine .inl ⟨rfl, ?_⟩
                            rcases q399 with ⟨a401, a402, a403, a404⟩ | ⟨a405, a406, a407, a408⟩
                            · have _q : True := trivial
                              refine jx_ld (pc' := 113) (l' := L379) (st' := [.ref 66]) rfl (jl_aloadn gL379_0) ?_
                              refine jx_ar (pc' := 114) (st' := [.ref 66, .ref 66]) rfl rfl rfl rfl ?_
                              refine jr_get (pc' := 117) (i := 15) (v := .int (i32 (op2_348))) rfl rfl (by decide) (rFv_eq (by decide) (show G387 15 = op2_348 from ((hF393.1 15 rfl).trans (e356)))) rfl ?_
                              refine jx_ar (pc' := 118) (st' := [.int (i32 (1)), .int (i32 (op2_348)), .ref 66]) rfl rfl rfl rfl ?_
                              refine jx_sub (pc' := 119) rfl rfl ?_
                              refine jr_put (pc' := 122) (i := 15) (z := (op2_348 - 1)) rfl rfl (by decide) rfl rfl rfl rfl rfl rfl ?_
                              have hW409 : Wk (uG G387 15 ((op2_348 - 1))) A388 := Wk_g hW392 (show (-2147483648 : Int) ≤ (op2_348 - 1) by omega) (show (op2_348 - 1) ≤ (2147483647 : Int) by omega)
                              have hF410 := Fr_g (z := (op2_348 - 1)) (i := 15) hF400 (by decide)
                              refine jx_ld (pc' := 123) (l' := L379) (st' := [.ref 66]) rfl (jl_aloadn gL379_0) ?_
                              refine jx_ar (pc' := 125) (st' := [.int (i32 (7)), .ref 66]) rfl rfl rfl rfl ?_
                              refine jx_ld (pc' := 126) (l' := L379) (st' := [.int (i32 (r345)), .int (i32 (7)), .ref 66]) rfl (jl_iloadn gL379_1) ?_
                              refine jx_ar (pc' := 127) (st' := [.int (i32 (0)), .int (i32 (r345)), .int (i32 (7)), .ref 66]) rfl rfl rfl rfl ?_
                              refine jx_ar (pc' := 128) (st' := [.int (i32 (0)), .int (i32 (0)), .int (i32 (r345)), .int (i32 (7)), .ref 66]) rfl rfl rfl rfl ?_
                              refine jx_ar (pc' := 129) (st' := [.int (i32 (0)), .int (i32 (0)), .int (i32 (0)), .int (i32 (r345)), .int (i32 (7)), .ref 66]) rfl rfl rfl rfl ?_
                              refine jx_vr (pc' := 132) (as := [.int (i32 (7)), .int (i32 (r345)), .int (i32 (0)), .int (i32 (0)), .int (i32 (0))]) (st := []) rfl rfl rfl rfl ⟨rfl, rfl, Nat.le_of_ble_eq_true rfl⟩ rfl rfl (c_node (dd := d) (hd := by omega) (hW := hW409) (kind := 7) (a := r345) (b := 0) (c := 0) (e := 0) (nd := nd2_349) (e_nd := show (uG G387 15 ((op2_348 - 1))) 31 = nd2_349 from ((hF393.1 31 rfl).trans (e357)))  (h_kind := by omega) (h_a := by omega) (h_b := by omega) (h_c := by omega) (h_e := by omega)  (p_0 := by omega) (p_1 := by omega)) (fun o V' hq => ?_)
                              obtain ⟨G411, A412, r413, nd2_414, rfl, rfl, hW415, hF416, b417, e418, p419, p420, -⟩ := hq
                              have hF422 := Fr_tr hF410 hF416 (Fr_sub (by decide)) (Fr_sub (by decide))
                              have bnd2_414 : (0 : Int) ≤ nd2_414 ∧ nd2_414 ≤ 6999 := e418 ▸ hW415.1 31
                              refine .inr ⟨_, rfl, ?_⟩
                              refine jx_rt (v := some (.int (i32 (r413)))) rfl rfl rfl rfl rfl rfl ?_
                              have z423 := tz_f (tk2_390)
                              exact ⟨_, _, _, at2_389, fk2_391, (op2_348 - 1), nd2_414, tk2_390, rfl, rfl, hW415, hF422, by omega, ((hF416.1 10 rfl).trans (e394)), ((hF416.1 16 rfl).trans (e396)), (hF416.1 15 rfl), (e418), ((hF416.1 11 rfl).trans (e395)), by omega, by omega, by omega, by omega, by omega, by omega, by first | exact Or.inl (⟨by omega, by omega, by omega, by omega, by omega, by omega⟩) | exact Or.inr (Or.inl (⟨by omega, by omega, by omega⟩)) | exact Or.inr (Or.inr ((⟨by omega, by omega, by omega⟩)))⟩
                            · have _q : True := trivial
                              exfalso
                              omega
                          · have _q : True := trivial
                            refine jx_vr (pc' := 112) (as := [.int (i32 (0))]) (st := []) rfl rfl rfl rfl ⟨rfl, rfl, Nat.le_of_ble_eq_true rfl⟩ rfl rfl (c_need (dd := d) (hd := by omega) (hW := hW351) (g := 0) (ln := ln) (e_ln := show G343 9 = ln from ((hF352.1 9 rfl).trans ((hF327.1 9 rfl).trans ((hF311.1 9 rfl).trans (e_ln))))) (le := le) (e_le := show A344 4 (ln).toNat = le from (congrFun ((hF352.2 4 rfl).trans ((hF327.2 4 rfl).trans (hF311.2 4 rfl))) _).trans (e_le)) (at0 := at2_346) (e_at0 := show G343 10 = at2_346 from (e354)) (fk := fk2_347) (e_fk := show G343 16 = fk2_347 from (e355)) (tk0 := tk2_350) (e_tk0 := show G343 11 = tk2_350 from (e358))  (h_g := by omega)  (p_0 := by omega)) (fun o V' hq => ?_)
                            obtain ⟨G424, A425, at2_426, tk2_427, fk2_428, rfl, rfl, hW429, hF430, e431, e432, e433, p434, p435, q436⟩ := hq
                            have hF437 := Fr_tr hF366 hF430 (Fr_sub (by decide)) (Fr_sub (by decide))
                            have bat2_426 : (0 : Int) ≤ at2_426 ∧ at2_426 ≤ 3002 := e431 ▸ hW429.1 10
                            have ztk2_427 := tz_b tk2_427
                            have btk2_427 : (0 : Int) ≤ tk2_427 ∧ tk2_427 ≤ 5 := e432 ▸ hW429.1 11
                            have bfk2_428 : (0 : Int) ≤ fk2_428 ∧ fk2_428 ≤ 6 := e433 ▸ hW429.1 16
                            refine .inl ⟨rfl, ?_⟩
                            rcases q436 with ⟨a438, a439, a440, a441⟩ | ⟨a442, a443, a444, a445⟩
                            · have _q : True := trivial
                              refine jx_ld (pc' := 113) (l' := L379) (st' := [.ref 66]) rfl (jl_aloadn gL379_0) ?_
                              refine jx_ar (pc' := 114) (st' := [.ref 66, .ref 66]) rfl rfl rfl rfl ?_
                              refine jr_get (pc' := 117) (i := 15) (v := .int (i32 (op2_348))) rfl rfl (by decide) (rFv_eq (by decide) (show G424 15 = op2_348 from ((hF430.1 15 rfl).trans (e356)))) rfl ?_
                              refine jx_ar (pc' := 118) (st' := [.int (i32 (1)), .int (i32 (op2_348)), .ref 66]) rfl rfl rfl rfl ?_
                              refine jx_sub (pc' := 119) rfl rfl ?_
                              refine jr_put (pc' := 122) (i := 15) (z := (op2_348 - 1)) rfl rfl (by decide) rfl rfl rfl rfl rfl rfl ?_
                              have hW446 : Wk (uG G424 15 ((op2_348 - 1))) A425 := Wk_g hW429 (show (-2147483648 : Int) ≤ (op2_348 - 1) by omega) (show (op2_348 - 1) ≤ (2147483647 : Int) by omega)
                              have hF447 := Fr_g (z := (op2_348 - 1)) (i := 15) hF437 (by decide)
                              refine jx_ld (pc' := 123) (l' := L379) (st' := [.ref 66]) rfl (jl_aloadn gL379_0) ?_
                              refine jx_ar (pc' := 125) (st' := [.int (i32 (7)), .ref 66]) rfl rfl rfl rfl ?_
                              refine jx_ld (pc' := 126) (l' := L379) (st' := [.int (i32 (r345)), .int (i32 (7)), .ref 66]) rfl (jl_iloadn gL379_1) ?_
                              refine jx_ar (pc' := 127) (st' := [.int (i32 (0)), .int (i32 (r345)), .int (i32 (7)), .ref 66]) rfl rfl rfl rfl ?_
                              refine jx_ar (pc' := 128) (st' := [.int (i32 (0)), .int (i32 (0)), .int (i32 (r345)), .int (i32 (7)), .ref 66]) rfl rfl rfl rfl ?_
                              refine jx_ar (pc' := 129) (st' := [.int (i32 (0)), .int (i32 (0)), .int (i32 (0)), .int (i32 (r345)), .int (i32 (7)), .ref 66]) rfl rfl rfl rfl ?_
                              refine jx_vr (pc' := 132) (as := [.int (i32 (7)), .int (i32 (r345)), .int (i32 (0)), .int (i32 (0)), .int (i32 (0))]) (st := []) rfl rfl rfl rfl ⟨rfl, rfl, Nat.le_of_ble_eq_true rfl⟩ rfl rfl (c_node (dd := d) (hd := by omega) (hW := hW446) (kind := 7) (a := r345) (b := 0) (c := 0) (e := 0) (nd := nd2_349) (e_nd := show (uG G424 15 ((op2_348 - 1))) 31 = nd2_349 from ((hF430.1 31 rfl).trans (e357)))  (h_kind := by omega) (h_a := by omega) (h_b := by omega) (h_c := by omega) (h_e := by omega)  (p_0 := by omega) (p_1 := by omega)) (fun o V' hq => ?_)
                              obtain ⟨G448, A449, r450, nd2_451, rfl, rfl, hW452, hF453, b454, e455, p456, p457, -⟩ := hq
                              have hF459 := Fr_tr hF447 hF453 (Fr_sub (by decide)) (Fr_sub (by decide))
                              have bnd2_451 : (0 : Int) ≤ nd2_451 ∧ nd2_451 ≤ 6999 := e455 ▸ hW452.1 31
                              refine .inr ⟨_, rfl, ?_⟩
                              refine jx_rt (v := some (.int (i32 (r450)))) rfl rfl rfl rfl rfl rfl ?_
                              have z460 := tz_f (tk2_427)
                              exact ⟨_, _, _, at2_426, fk2_428, (op2_348 - 1), nd2_451, tk2_427, rfl, rfl, hW452, hF459, by omega, ((hF453.1 10 rfl).trans (e431)), ((hF453.1 16 rfl).trans (e433)), (hF453.1 15 rfl), (e455), ((hF453.1 11 rfl).trans (e432)), by omega, by omega, by omega, by omega, by omega, by omega, by first | exact Or.inl (⟨by omega, by omega, by omega, by omega, by omega, by omega⟩) | exact Or.inr (Or.inl (⟨by omega, by omega, by omega⟩)) | exact Or.inr (Or.inr ((⟨by omega, by omega, by omega⟩)))⟩
                            · have _q : True := trivial
                              exfalso
                              omega
                        · have _q : True := trivial
                          exfalso
                          omega
                        · have _q : True := trivial
                          exfalso
                          omega
                      · have _q : True := trivial
                        exfalso
                        omega
                    · have _q : True := trivial
                      refine jx_ld (pc' := 93) (l' := [(0, .ref 66)]) (st' := [.ref 66]) rfl (jl_aloadn rfl) ?_
                      refine jx_ar (pc' := 94) (st' := [.int (i32 (1)), .ref 66]) rfl rfl rfl rfl ?_
                      refine jx_vr (pc' := 97) (as := [.int (i32 (1))]) (st := []) rfl rfl rfl rfl ⟨rfl, rfl, Nat.le_of_ble_eq_true rfl⟩ rfl rfl (c_need (dd := d) (hd := by omega) (hW := hW310) (g := 1) (ln := ln) (e_ln := show G306 9 = ln from ((hF311.1 9 rfl).trans (e_ln))) (le := le) (e_le := show A307 4 (ln).toNat = le from (congrFun (hF311.2 4 rfl) _).trans (e_le)) (at0 := at0) (e_at0 := show G306 10 = at0 from ((hF311.1 10 rfl).trans (e_at0))) (fk := fk2_308) (e_fk := show G306 16 = fk2_308 from (e312)) (tk0 := tk0) (e_tk0 := show G306 11 = tk0 from ((hF311.1 11 rfl).trans (e_tk0)))  (h_g := by omega)  (p_0 := by omega)) (fun o V' hq => ?_)
                      obtain ⟨G461, A462, at2_463, tk2_464, fk2_465, rfl, rfl, hW466, hF467, e468, e469, e470, p471, p472, q473⟩ := hq
                      have hF474 := Fr_tr hF316 hF467 (Fr_sub (by decide)) (Fr_sub (by decide))
                      have bat2_463 : (0 : Int) ≤ at2_463 ∧ at2_463 ≤ 3002 := e468 ▸ hW466.1 10
                      have ztk2_464 := tz_b tk2_464
                      have btk2_464 : (0 : Int) ≤ tk2_464 ∧ tk2_464 ≤ 5 := e469 ▸ hW466.1 11
                      have bfk2_465 : (0 : Int) ≤ fk2_465 ∧ fk2_465 ≤ 6 := e470 ▸ hW466.1 16
                      refine .inl ⟨rfl, ?_⟩
                      rcases q473 with ⟨a475, a476, a477, a478⟩ | ⟨a479, a480, a481, a482⟩
                      · have _q : True := trivial
                        refine jx_ld (pc' := 98) (l' := [(0, .ref 66)]) (st' := [.ref 66]) rfl (jl_aloadn rfl) ?_
                        refine jx_vr (pc' := 101) (as := []) (st := []) rfl rfl rfl rfl ⟨rfl, rfl, Nat.le_of_ble_eq_true rfl⟩ rfl rfl (hE (dd := d) (hd := by omega) (hW := hW466)  (ln := ln) (e_ln := show G461 9 = ln from ((hF467.1 9 rfl).trans ((hF311.1 9 rfl).trans (e_ln)))) (le := le) (e_le := show A462 4 (ln).toNat = le from (congrFun ((hF467.2 4 rfl).trans (hF311.2 4 rfl)) _).trans (e_le)) (at0 := at2_463) (e_at0 := show G461 10 = at2_463 from (e468)) (fk := fk2_465) (e_fk := show G461 16 = fk2_465 from (e470)) (op0 := op2_309) (e_op0 := show G461 15 = op2_309 from ((hF467.1 15 rfl).trans (e313))) (nd := nd) (e_nd := show G461 31 = nd from ((hF467.1 31 rfl).trans ((hF311.1 31 rfl).trans (e_nd)))) (tk0 := tk2_464) (e_tk0 := show G461 11 = tk2_464 from (e469))    (p_0 := by omega) (p_1 := by omega) (p_2 := by omega) (p_3 := by omega) (p_4 := by omega) (p_5 := by omega)) (fun o V' hq => ?_)
                        obtain ⟨G483, A484, r485, at2_486, fk2_487, op2_488, nd2_489, tk2_490, rfl, rfl, hW491, hF492, b493, e494, e495, e496, e497, e498, p499, p500, p501, p502, p503, p504, q505⟩ := hq
                        have hF506 := Fr_tr hF474 hF492 (Fr_sub (by decide)) (Fr_sub (by decide))
                        have bat2_486 : (0 : Int) ≤ at2_486 ∧ at2_486 ≤ 3002 := e494 ▸ hW491.1 10
                        have bfk2_487 : (0 : Int) ≤ fk2_487 ∧ fk2_487 ≤ 6 := e495 ▸ hW491.1 16
                        have bop2_488 : (-2147483648 : Int) ≤ op2_488 ∧ op2_488 ≤ 2147483647 := e496 ▸ hW491.1 15
                        have bnd2_489 : (0 : Int) ≤ nd2_489 ∧ nd2_489 ≤ 6999 := e497 ▸ hW491.1 31
                        have ztk2_490 := tz_b tk2_490
                        have btk2_490 : (0 : Int) ≤ tk2_490 ∧ tk2_490 ≤ 5 := e498 ▸ hW491.1 11
                        refine .inr ⟨_, rfl, ?_⟩
                        rcases q505 with ⟨a507, a508, a509, a510, a511, a512⟩ | ⟨a513, a514, a515⟩ | ⟨a516, a517, a518⟩
                        · have _q : True := trivial
                          refine jx_ld (pc' := 102) (l' := jSto1 [(0, .ref 66)] 1 (.int (i32 (r485)))) (st' := []) rfl rfl ?_
                          obtain ⟨L519, eL519⟩ : ∃ q, q = jSto1 [(0, .ref 66)] 1 (.int (i32 (r485))) := ⟨_, rfl⟩
                          rw [← eL519]
                          have gL519_0 : jGet L519 0 = some (.ref 66) := eL519 ▸ jg_ne (by decide) (rfl : jGet [(0, .ref 66)] 0 = some (.ref 66)) rfl
                          have gL519_1 : jGet L519 1 = some (.int (i32 (r485))) := eL519 ▸ jg_eq
                          refine jx_ld (pc' := 103) (l' := L519) (st' := [.ref 66]) rfl (jl_aloadn gL519_0) ?_
                          refine jx_ld (pc' := 104) (l' := L519) (st' := [.ref 66, .ref 66]) rfl (jl_aloadn gL519_0) ?_
                          refine jx_ar (pc' := 106) (st' := [.int (i32 (41)), .ref 66, .ref 66]) rfl rfl rfl rfl ?_
                          have b520 : (-2147483648 : Int) ≤ G483 13 ∧ G483 13 ≤ 2147483647 := hW491.1 13
                          refine jx_vr (pc' := 109) (as := [.int (i32 (41))]) (st := [.ref 66]) rfl rfl rfl rfl ⟨rfl, rfl, Nat.le_of_ble_eq_true rfl⟩ rfl rfl (c_is (dd := d) (hd := by omega) (hW := hW491) (k := 41) (tk := tk2_490) (e_tk := show G483 11 = tk2_490 from (e498)) (tn := G483 13) (e_tn := show G483 13 = G483 13 from rfl)  (h_k := by omega)  ) (fun o V' hq => ?_)
                          obtain ⟨r521, rfl, rfl, b522, q523⟩ := hq
                          refine .inr ⟨_, rfl, ?_⟩
                          rcases q523 with ⟨rfl, a524, a525, a526⟩ | rfl
                          · have _q : True := trivial
                            refine jx_vr (pc' := 112) (as := [.int (i32 (1))]) (st := []) rfl rfl rfl rfl ⟨rfl, rfl, Nat.le_of_ble_eq_true rfl⟩ rfl rfl (c_need (dd := d) (hd := by omega) (hW := hW491) (g := 1) (ln := ln) (e_ln := show G483 9 = ln from ((hF492.1 9 rfl).trans ((hF467.1 9 rfl).trans ((hF311.1 9 rfl).trans (e_ln))))) (le := le) (e_le := show A484 4 (ln).toNat = le from (congrFun ((hF492.2 4 rfl).trans ((hF467.2 4 rfl).trans (hF311.2 4 rfl))) _).trans (e_le)) (at0 := at2_486) (e_at0 := show G483 10 = at2_486 from (e494)) (fk := fk2_487) (e_fk := show G483 16 = fk2_487 from (e495)) (tk0 := tk2_490) (e_tk0 := show G483 11 = tk2_490 from (e498))  (h_g := by omega)  (p_0 := by omega)) (fun o V' hq => ?_)
                            obtain ⟨G527, A528, at2_529, tk2_530, fk2_531, rfl, rfl, hW532, hF533, e534, e535, e536, p537, p538, q539⟩ := hq
                            have hF540 := Fr_tr hF506 hF533 (Fr_sub (by decide)) (Fr_sub (by decide))
                            have bat2_529 : (0 : Int) ≤ at2_529 ∧ at2_529 ≤ 3002 := e534 ▸ hW532.1 10
                            have ztk2_530 := tz_b tk2_530
                            have btk2_530 : (0 : Int) ≤ tk2_530 ∧ tk2_530 ≤ 5 := e535 ▸ hW532.1 11
                            have bfk2_531 : (0 : Int) ≤ fk2_531 ∧ fk2_531 ≤ 6 := e536 ▸ hW532.1 16
                            refine .inl ⟨rfl, ?_⟩
                            rcases q539 with ⟨a541, a542, a543, a544⟩ | ⟨a545, a546, a547, a548⟩
                            · have _q : True := trivial
                              refine jx_ld (pc' := 113) (l' := L519) (st' := [.ref 66]) rfl (jl_aloadn gL519_0) ?_
                              refine jx_ar (pc' := 114) (st' := [.ref 66, .ref 66]) rfl rfl rfl rfl ?_
                              refine jr_get (pc' := 117) (i := 15) (v := .int (i32 (op2_488))) rfl rfl (by decide) (rFv_eq (by decide) (show G527 15 = op2_488 from ((hF533.1 15 rfl).trans (e496)))) rfl ?_
                              refine jx_ar (pc' := 118) (st' := [.int (i32 (1)), .int (i32 (op2_488)), .ref 66]) rfl rfl rfl rfl ?_
                              refine jx_sub (pc' := 119) rfl rfl ?_
                              refine jr_put (pc' := 122) (i := 15) (z := (op2_488 - 1)) rfl rfl (by decide) rfl rfl rfl rfl rfl rfl ?_
                              have hW549 : Wk (uG G527 15 ((op2_488 - 1))) A528 := Wk_g hW532 (show (-2147483648 : Int) ≤ (op2_488 - 1) by omega) (show (op2_488 - 1) ≤ (2147483647 : Int) by omega)
                              have hF550 := Fr_g (z := (op2_488 - 1)) (i := 15) hF540 (by decide)
                              refine jx_ld (pc' := 123) (l' := L519) (st' := [.ref 66]) rfl (jl_aloadn gL519_0) ?_
                              refine jx_ar (pc' := 125) (st' := [.int (i32 (7)), .ref 66]) rfl rfl rfl rfl ?_
                              refine jx_ld (pc' := 126) (l' := L519) (st' := [.int (i32 (r485)), .int (i32 (7)), .ref 66]) rfl (jl_iloadn gL519_1) ?_
                              refine jx_ar (pc' := 127) (st' := [.int (i32 (0)), .int (i32 (r485)), .int (i32 (7)), .ref 66]) rfl rfl rfl rfl ?_
                              refine jx_ar (pc' := 128) (st' := [.int (i32 (0)), .int (i32 (0)), .int (i32 (r485)), .int (i32 (7)), .ref 66]) rfl rfl rfl rfl ?_
                              refine jx_ar (pc' := 129) (st' := [.int (i32 (0)), .int (i32 (0)), .int (i32 (0)), .int (i32 (r485)), .int (i32 (7)), .ref 66]) rfl rfl rfl rfl ?_
                              refine jx_vr (pc' := 132) (as := [.int (i32 (7)), .int (i32 (r485)), .int (i32 (0)), .int (i32 (0)), .int (i32 (0))]) (st := []) rfl rfl rfl rfl ⟨rfl, rfl, Nat.le_of_ble_eq_true rfl⟩ rfl rfl (c_node (dd := d) (hd := by omega) (hW := hW549) (kind := 7) (a := r485) (b := 0) (c := 0) (e := 0) (nd := nd2_489) (e_nd := show (uG G527 15 ((op2_488 - 1))) 31 = nd2_489 from ((hF533.1 31 rfl).trans (e497)))  (h_kind := by omega) (h_a := by omega) (h_b := by omega) (h_c := by omega) (h_e := by omega)  (p_0 := by omega) (p_1 := by omega)) (fun o V' hq => ?_)
                              obtain ⟨G551, A552, r553, nd2_554, rfl, rfl, hW555, hF556, b557, e558, p559, p560, -⟩ := hq
                              have hF562 := Fr_tr hF550 hF556 (Fr_sub (by decide)) (Fr_sub (by decide))
                              have bnd2_554 : (0 : Int) ≤ nd2_554 ∧ nd2_554 ≤ 6999 := e558 ▸ hW555.1 31
                              refine .inr ⟨_, rfl, ?_⟩
                              refine jx_rt (v := some (.int (i32 (r553)))) rfl rfl rfl rfl rfl rfl ?_
                              have z563 := tz_f (tk2_530)
                              exact ⟨_, _, _, at2_529, fk2_531, (op2_488 - 1), nd2_554, tk2_530, rfl, rfl, hW555, hF562, by omega, ((hF556.1 10 rfl).trans (e534)), ((hF556.1 16 rfl).trans (e536)), (hF556.1 15 rfl), (e558), ((hF556.1 11 rfl).trans (e535)), by omega, by omega, by omega, by omega, by omega, by omega, by first | exact Or.inl (⟨by omega, by omega, by omega, by omega, by omega, by omega⟩) | exact Or.inr (Or.inl (⟨by omega, by omega, by omega⟩)) | exact Or.inr (Or.inr ((⟨by omega, by omega, by omega⟩)))⟩
                            · have _q : True := trivial
                              exfalso
                              omega
                          · have _q : True := trivial
                            refine jx_vr (pc' := 112) (as := [.int (i32 (0))]) (st := []) rfl rfl rfl rfl ⟨rfl, rfl, Nat.le_of_ble_eq_true rfl⟩ rfl rfl (c_need (dd := d) (hd := by omega) (hW := hW491) (g := 0) (ln := ln) (e_ln := show G483 9 = ln from ((hF492.1 9 rfl).trans ((hF467.1 9 rfl).trans ((hF311.1 9 rfl).trans (e_ln))))) (le := le) (e_le := show A484 4 (ln).toNat = le from (congrFun ((hF492.2 4 rfl).trans ((hF467.2 4 rfl).trans (hF311.2 4 rfl))) _).trans (e_le)) (at0 := at2_486) (e_at0 := show G483 10 = at2_486 from (e494)) (fk := fk2_487) (e_fk := show G483 16 = fk2_487 from (e495)) (tk0 := tk2_490) (e_tk0 := show G483 11 = tk2_490 from (e498))  (h_g := by omega)  (p_0 := by omega)) (fun o V' hq => ?_)
                            obtain ⟨G564, A565, at2_566, tk2_567, fk2_568, rfl, rfl, hW569, hF570, e571, e572, e573, p574, p575, q576⟩ := hq
                            have hF577 := Fr_tr hF506 hF570 (Fr_sub (by decide)) (Fr_sub (by decide))
                            have bat2_566 : (0 : Int) ≤ at2_566 ∧ at2_566 ≤ 3002 := e571 ▸ hW569.1 10
                            have ztk2_567 := tz_b tk2_567
                            have btk2_567 : (0 : Int) ≤ tk2_567 ∧ tk2_567 ≤ 5 := e572 ▸ hW569.1 11
                            have bfk2_568 : (0 : Int) ≤ fk2_568 ∧ fk2_568 ≤ 6 := e573 ▸ hW569.1 16
                            refine .inl ⟨rfl, ?_⟩
                            rcases q576 with ⟨a578, a579, a580, a581⟩ | ⟨a582, a583, a584, a585⟩
                            · have _q : True := trivial
                              refine jx_ld (pc' := 113) (l' := L519) (st' := [.ref 66]) rfl (jl_aloadn gL519_0) ?_
                              refine jx_ar (pc' := 114) (st' := [.ref 66, .ref 66]) rfl rfl rfl rfl ?_
                              refine jr_get (pc' := 117) (i := 15) (v := .int (i32 (op2_488))) rfl rfl (by decide) (rFv_eq (by decide) (show G564 15 = op2_488 from ((hF570.1 15 rfl).trans (e496)))) rfl ?_
                              refine jx_ar (pc' := 118) (st' := [.int (i32 (1)), .int (i32 (op2_488)), .ref 66]) rfl rfl rfl rfl ?_
                              refine jx_sub (pc' := 119) rfl rfl ?_
                              refine jr_put (pc' := 122) (i := 15) (z := (op2_488 - 1)) rfl rfl (by decide) rfl rfl rfl rfl rfl rfl ?_
                              have hW586 : Wk (uG G564 15 ((op2_488 - 1))) A565 := Wk_g hW569 (show (-2147483648 : Int) ≤ (op2_488 - 1) by omega) (show (op2_488 - 1) ≤ (2147483647 : Int) by omega)
                              have hF587 := Fr_g (z := (op2_488 - 1)) (i := 15) hF577 (by decide)
                              refine jx_ld (pc' := 123) (l' := L519) (st' := [.ref 66]) rfl (jl_aloadn gL519_0) ?_
                              refine jx_ar (pc' := 125) (st' := [.int (i32 (7)), .ref 66]) rfl rfl rfl rfl ?_
                              refine jx_ld (pc' := 126) (l' := L519) (st' := [.int (i32 (r485)), .int (i32 (7)), .ref 66]) rfl (jl_iloadn gL519_1) ?_
                              refine jx_ar (pc' := 127) (st' := [.int (i32 (0)), .int (i32 (r485)), .int (i32 (7)), .ref 66]) rfl rfl rfl rfl ?_
                              refine jx_ar (pc' := 128) (st' := [.int (i32 (0)), .int (i32 (0)), .int (i32 (r485)), .int (i32 (7)), .ref 66]) rfl rfl rfl rfl ?_
                              refine jx_ar (pc' := 129) (st' := [.int (i32 (0)), .int (i32 (0)), .int (i32 (0)), .int (i32 (r485)), .int (i32 (7)), .ref 66]) rfl rfl rfl rfl ?_
                              refine jx_vr (pc' := 132) (as := [.int (i32 (7)), .int (i32 (r485)), .int (i32 (0)), .int (i32 (0)), .int (i32 (0))]) (st := []) rfl rfl rfl rfl ⟨rfl, rfl, Nat.le_of_ble_eq_true rfl⟩ rfl rfl (c_node (dd := d) (hd := by omega) (hW := hW586) (kind := 7) (a := r485) (b := 0) (c := 0) (e := 0) (nd := nd2_489) (e_nd := show (uG G564 15 ((op2_488 - 1))) 31 = nd2_489 from ((hF570.1 31 rfl).trans (e497)))  (h_kind := by omega) (h_a := by omega) (h_b := by omega) (h_c := by omega) (h_e := by omega)  (p_0 := by omega) (p_1 := by omega)) (fun o V' hq => ?_)
                              obtain ⟨G588, A589, r590, nd2_591, rfl, rfl, hW592, hF593, b594, e595, p596, p597, -⟩ := hq
                              have hF599 := Fr_tr hF587 hF593 (Fr_sub (by decide)) (Fr_sub (by decide))
                              have bnd2_591 : (0 : Int) ≤ nd2_591 ∧ nd2_591 ≤ 6999 := e595 ▸ hW592.1 31
                              refine .inr ⟨_, rfl, ?_⟩
                              refine jx_rt (v := some (.int (i32 (r590)))) rfl rfl rfl rfl rfl rfl ?_
                              have z600 := tz_f (tk2_567)
                              exact ⟨_, _, _, at2_566, fk2_568, (op2_488 - 1), nd2_591, tk2_567, rfl, rfl, hW592, hF599, by omega, ((hF593.1 10 rfl).trans (e571)), ((hF593.1 16 rfl).trans (e573)), (hF593.1 15 rfl), (e595), ((hF593.1 11 rfl).trans (e572)), by omega, by omega, by omega, by omega, by omega, by omega, by first | exact Or.inl (⟨by omega, by omega, by omega, by omega, by omega, by omega⟩) | exact Or.inr (Or.inl (⟨by omega, by omega, by omega⟩)) | exact Or.inr (Or.inr ((⟨by omega, by omega, by omega⟩)))⟩
                            · have _q : True := trivial
                              exfalso
                              omega
                        · have _q : True := trivial
                          exfalso
                          omega
                        · have _q : True := trivial
                          exfalso
                          omega
                      · have _q : True := trivial
                        refine jx_ld (pc' := 98) (l' := [(0, .ref 66)]) (st' := [.ref 66]) rfl (jl_aloadn rfl) ?_
                        refine jx_vr (pc' := 101) (as := []) (st := []) rfl rfl rfl rfl ⟨rfl, rfl, Nat.le_of_ble_eq_true rfl⟩ rfl rfl (hE (dd := d) (hd := by omega) (hW := hW466)  (ln := ln) (e_ln := show G461 9 = ln from ((hF467.1 9 rfl).trans ((hF311.1 9 rfl).trans (e_ln)))) (le := le) (e_le := show A462 4 (ln).toNat = le from (congrFun ((hF467.2 4 rfl).trans (hF311.2 4 rfl)) _).trans (e_le)) (at0 := at2_463) (e_at0 := show G461 10 = at2_463 from (e468)) (fk := fk2_465) (e_fk := show G461 16 = fk2_465 from (e470)) (op0 := op2_309) (e_op0 := show G461 15 = op2_309 from ((hF467.1 15 rfl).trans (e313))) (nd := nd) (e_nd := show G461 31 = nd from ((hF467.1 31 rfl).trans ((hF311.1 31 rfl).trans (e_nd)))) (tk0 := tk2_464) (e_tk0 := show G461 11 = tk2_464 from (e469))    (p_0 := by omega) (p_1 := by omega) (p_2 := by omega) (p_3 := by omega) (p_4 := by omega) (p_5 := by omega)) (fun o V' hq => ?_)
                        obtain ⟨G601, A602, r603, at2_604, fk2_605, op2_606, nd2_607, tk2_608, rfl, rfl, hW609, hF610, b611, e612, e613, e614, e615, e616, p617, p618, p619, p620, p621, p622, q623⟩ := hq
                        have hF624 := Fr_tr hF474 hF610 (Fr_sub (by decide)) (Fr_sub (by decide))
                        have bat2_604 : (0 : Int) ≤ at2_604 ∧ at2_604 ≤ 3002 := e612 ▸ hW609.1 10
                        have bfk2_605 : (0 : Int) ≤ fk2_605 ∧ fk2_605 ≤ 6 := e613 ▸ hW609.1 16
                        have bop2_606 : (-2147483648 : Int) ≤ op2_606 ∧ op2_606 ≤ 2147483647 := e614 ▸ hW609.1 15
                        have bnd2_607 : (0 : Int) ≤ nd2_607 ∧ nd2_607 ≤ 6999 := e615 ▸ hW609.1 31
                        have ztk2_608 := tz_b tk2_608
                        have btk2_608 : (0 : Int) ≤ tk2_608 ∧ tk2_608 ≤ 5 := e616 ▸ hW609.1 11
                        refine .inr ⟨_, rfl, ?_⟩
                        rcases q623 with ⟨a625, a626, a627, a628, a629, a630⟩ | ⟨a631, a632, a633⟩ | ⟨a634, a635, a636⟩
                        · have _q : True := trivial
                          exfalso
                          omega
                        · have _q : True := trivial
                          refine jx_ld (pc' := 102) (l' := jSto1 [(0, .ref 66)] 1 (.int (i32 (r603)))) (st' := []) rfl rfl ?_
                          obtain ⟨L637, eL637⟩ : ∃ q, q = jSto1 [(0, .ref 66)] 1 (.int (i32 (r603))) := ⟨_, rfl⟩
                          rw [← eL637]
                          have gL637_0 : jGet L637 0 = some (.ref 66) := eL637 ▸ jg_ne (by decide) (rfl : jGet [(0, .ref 66)] 0 = some (.ref 66)) rfl
                          have gL637_1 : jGet L637 1 = some (.int (i32 (r603))) := eL637 ▸ jg_eq
                          refine jx_ld (pc' := 103) (l' := L637) (st' := [.ref 66]) rfl (jl_aloadn gL637_0) ?_
                          refine jx_ld (pc' := 104) (l' := L637) (st' := [.ref 66, .ref 66]) rfl (jl_aloadn gL637_0) ?_
                          refine jx_ar (pc' := 106) (st' := [.int (i32 (41)), .ref 66, .ref 66]) rfl rfl rfl rfl ?_
                          have b638 : (-2147483648 : Int) ≤ G601 13 ∧ G601 13 ≤ 2147483647 := hW609.1 13
                          refine jx_vr (pc' := 109) (as := [.int (i32 (41))]) (st := [.ref 66]) rfl rfl rfl rfl ⟨rfl, rfl, Nat.le_of_ble_eq_true rfl⟩ rfl rfl (c_is (dd := d) (hd := by omega) (hW := hW609) (k := 41) (tk := tk2_608) (e_tk := show G601 11 = tk2_608 from (e616)) (tn := G601 13) (e_tn := show G601 13 = G601 13 from rfl)  (h_k := by omega)  ) (fun o V' hq => ?_)
                          obtain ⟨r639, rfl, rfl, b640, q641⟩ := hq
                          refine .inr ⟨_, rfl, ?_⟩
                          rcases q641 with ⟨rfl, a642, a643, a644⟩ | rfl
                          · have _q : True := trivial
                            refine jx_vr (pc' := 112) (as := [.int (i32 (1))]) (st := []) rfl rfl rfl rfl ⟨rfl, rfl, Nat.le_of_ble_eq_true rfl⟩ rfl rfl (c_need (dd := d) (hd := by omega) (hW := hW609) (g := 1) (ln := ln) (e_ln := show G601 9 = ln from ((hF610.1 9 rfl).trans ((hF467.1 9 rfl).trans ((hF311.1 9 rfl).trans (e_ln))))) (le := le) (e_le := show A602 4 (ln).toNat = le from (congrFun ((hF610.2 4 rfl).trans ((hF467.2 4 rfl).trans (hF311.2 4 rfl))) _).trans (e_le)) (at0 := at2_604) (e_at0 := show G601 10 = at2_604 from (e612)) (fk := fk2_605) (e_fk := show G601 16 = fk2_605 from (e613)) (tk0 := tk2_608) (e_tk0 := show G601 11 = tk2_608 from (e616))  (h_g := by omega)  (p_0 := by omega)) (fun o V' hq => ?_)
                            obtain ⟨G645, A646, at2_647, tk2_648, fk2_649, rfl, rfl, hW650, hF651, e652, e653, e654, p655, p656, q657⟩ := hq
                            have hF658 := Fr_tr hF624 hF651 (Fr_sub (by decide)) (Fr_sub (by decide))
                            have bat2_647 : (0 : Int) ≤ at2_647 ∧ at2_647 ≤ 3002 := e652 ▸ hW650.1 10
                            have ztk2_648 := tz_b tk2_648
                            have btk2_648 : (0 : Int) ≤ tk2_648 ∧ tk2_648 ≤ 5 := e653 ▸ hW650.1 11
                            have bfk2_649 : (0 : Int) ≤ fk2_649 ∧ fk2_649 ≤ 6 := e654 ▸ hW650.1 16
                            refine .inl ⟨rfl, ?_⟩
                            rcases q657 with ⟨a659, a660, a661, a662⟩ | ⟨a663, a664, a665, a666⟩
                            · have _q : True := trivial
                              refine jx_ld (pc' := 113) (l' := L637) (st' := [.ref 66]) rfl (jl_aloadn gL637_0) ?_
                              refine jx_ar (pc' := 114) (st' := [.ref 66, .ref 66]) rfl rfl rfl rfl ?_
                              refine jr_get (pc' := 117) (i := 15) (v := .int (i32 (op2_606))) rfl rfl (by decide) (rFv_eq (by decide) (show G645 15 = op2_606 from ((hF651.1 15 rfl).trans (e614)))) rfl ?_
                              refine jx_ar (pc' := 118) (st' := [.int (i32 (1)), .int (i32 (op2_606)), .ref 66]) rfl rfl rfl rfl ?_
                              refine jx_sub (pc' := 119) rfl rfl ?_
                              refine jr_put (pc' := 122) (i := 15) (z := (op2_606 - 1)) rfl rfl (by decide) rfl rfl rfl rfl rfl rfl ?_
                              have hW667 : Wk (uG G645 15 ((op2_606 - 1))) A646 := Wk_g hW650 (show (-2147483648 : Int) ≤ (op2_606 - 1) by omega) (show (op2_606 - 1) ≤ (2147483647 : Int) by omega)
                              have hF668 := Fr_g (z := (op2_606 - 1)) (i := 15) hF658 (by decide)
                              refine jx_ld (pc' := 123) (l' := L637) (st' := [.ref 66]) rfl (jl_aloadn gL637_0) ?_
                              refine jx_ar (pc' := 125) (st' := [.int (i32 (7)), .ref 66]) rfl rfl rfl rfl ?_
                              refine jx_ld (pc' := 126) (l' := L637) (st' := [.int (i32 (r603)), .int (i32 (7)), .ref 66]) rfl (jl_iloadn gL637_1) ?_
                              refine jx_ar (pc' := 127) (st' := [.int (i32 (0)), .int (i32 (r603)), .int (i32 (7)), .ref 66]) rfl rfl rfl rfl ?_
                              refine jx_ar (pc' := 128) (st' := [.int (i32 (0)), .int (i32 (0)), .int (i32 (r603)), .int (i32 (7)), .ref 66]) rfl rfl rfl rfl ?_
                              refine jx_ar (pc' := 129) (st' := [.int (i32 (0)), .int (i32 (0)), .int (i32 (0)), .int (i32 (r603)), .int (i32 (7)), .ref 66]) rfl rfl rfl rfl ?_
                              refine jx_vr (pc' := 132) (as := [.int (i32 (7)), .int (i32 (r603)), .int (i32 (0)), .int (i32 (0)), .int (i32 (0))]) (st := []) rfl rfl rfl rfl ⟨rfl, rfl, Nat.le_of_ble_eq_true rfl⟩ rfl rfl (c_node (dd := d) (hd := by omega) (hW := hW667) (kind := 7) (a := r603) (b := 0) (c := 0) (e := 0) (nd := nd2_607) (e_nd := show (uG G645 15 ((op2_606 - 1))) 31 = nd2_607 from ((hF651.1 31 rfl).trans (e615)))  (h_kind := by omega) (h_a := by omega) (h_b := by omega) (h_c := by omega) (h_e := by omega)  (p_0 := by omega) (p_1 := by omega)) (fun o V' hq => ?_)
                              obtain ⟨G669, A670, r671, nd2_672, rfl, rfl, hW673, hF674, b675, e676, p677, p678, -⟩ := hq
                              have hF680 := Fr_tr hF668 hF674 (Fr_sub (by decide)) (Fr_sub (by decide))
                              have bnd2_672 : (0 : Int) ≤ nd2_672 ∧ nd2_672 ≤ 6999 := e676 ▸ hW673.1 31
                              refine .inr ⟨_, rfl, ?_⟩
                              refine jx_rt (v := some (.int (i32 (r671)))) rfl rfl rfl rfl rfl rfl ?_
                              have z681 := tz_f (tk2_648)
                              exact ⟨_, _, _, at2_647, fk2_649, (op2_606 - 1), nd2_672, tk2_648, rfl, rfl, hW673, hF680, by omega, ((hF674.1 10 rfl).trans (e652)), ((hF674.1 16 rfl).trans (e654)), (hF674.1 15 rfl), (e676), ((hF674.1 11 rfl).trans (e653)), by omega, by omega, by omega, by omega, by omega, by omega, by first | exact Or.inl (⟨by omega, by omega, by omega, by omega, by omega, by omega⟩) | exact Or.inr (Or.inl (⟨by omega, by omega, by omega⟩)) | exact Or.inr (Or.inr ((⟨by omega, by omega, by omega⟩)))⟩
                            · have _q : True := trivial
                              exfalso
                              omega
                          · have _q : True := trivial
                            refine jx_vr (pc' := 112) (as := [.int (i32 (0))]) (st := []) rfl rfl rfl rfl ⟨rfl, rfl, Nat.le_of_ble_eq_true rfl⟩ rfl rfl (c_need (dd := d) (hd := by omega) (hW := hW609) (g := 0) (ln := ln) (e_ln := show G601 9 = ln from ((hF610.1 9 rfl).trans ((hF467.1 9 rfl).trans ((hF311.1 9 rfl).trans (e_ln))))) (le := le) (e_le := show A602 4 (ln).toNat = le from (congrFun ((hF610.2 4 rfl).trans ((hF467.2 4 rfl).trans (hF311.2 4 rfl))) _).trans (e_le)) (at0 := at2_604) (e_at0 := show G601 10 = at2_604 from (e612)) (fk := fk2_605) (e_fk := show G601 16 = fk2_605 from (e613)) (tk0 := tk2_608) (e_tk0 := show G601 11 = tk2_608 from (e616))  (h_g := by omega)  (p_0 := by omega)) (fun o V' hq => ?_)
                            obtain ⟨G682, A683, at2_684, tk2_685, fk2_686, rfl, rfl, hW687, hF688, e689, e690, e691, p692, p693, q694⟩ := hq
                            have hF695 := Fr_tr hF624 hF688 (Fr_sub (by decide)) (Fr_sub (by decide))
                            have bat2_684 : (0 : Int) ≤ at2_684 ∧ at2_684 ≤ 3002 := e689 ▸ hW687.1 10
                            have ztk2_685 := tz_b tk2_685
                            have btk2_685 : (0 : Int) ≤ tk2_685 ∧ tk2_685 ≤ 5 := e690 ▸ hW687.1 11
                            have bfk2_686 : (0 : Int) ≤ fk2_686 ∧ fk2_686 ≤ 6 := e691 ▸ hW687.1 16
                            refine .inl ⟨rfl, ?_⟩
                            rcases q694 with ⟨a696, a697, a698, a699⟩ | ⟨a700, a701, a702, a703⟩
                            · have _q : True := trivial
                              refine jx_ld (pc' := 113) (l' := L637) (st' := [.ref 66]) rfl (jl_aloadn gL637_0) ?_
                              refine jx_ar (pc' := 114) (st' := [.ref 66, .ref 66]) rfl rfl rfl rfl ?_
                              refine jr_get (pc' := 117) (i := 15) (v := .int (i32 (op2_606))) rfl rfl (by decide) (rFv_eq (by decide) (show G682 15 = op2_606 from ((hF688.1 15 rfl).trans (e614)))) rfl ?_
                              refine jx_ar (pc' := 118) (st' := [.int (i32 (1)), .int (i32 (op2_606)), .ref 66]) rfl rfl rfl rfl ?_
                              refine jx_sub (pc' := 119) rfl rfl ?_
                              refine jr_put (pc' := 122) (i := 15) (z := (op2_606 - 1)) rfl rfl (by decide) rfl rfl rfl rfl rfl rfl ?_
                              have hW704 : Wk (uG G682 15 ((op2_606 - 1))) A683 := Wk_g hW687 (show (-2147483648 : Int) ≤ (op2_606 - 1) by omega) (show (op2_606 - 1) ≤ (2147483647 : Int) by omega)
                              have hF705 := Fr_g (z := (op2_606 - 1)) (i := 15) hF695 (by decide)
                              refine jx_ld (pc' := 123) (l' := L637) (st' := [.ref 66]) rfl (jl_aloadn gL637_0) ?_
                              refine jx_ar (pc' := 125) (st' := [.int (i32 (7)), .ref 66]) rfl rfl rfl rfl ?_
                              refine jx_ld (pc' := 126) (l' := L637) (st' := [.int (i32 (r603)), .int (i32 (7)), .ref 66]) rfl (jl_iloadn gL637_1) ?_
                              refine jx_ar (pc' := 127) (st' := [.int (i32 (0)), .int (i32 (r603)), .int (i32 (7)), .ref 66]) rfl rfl rfl rfl ?_
                              refine jx_ar (pc' := 128) (st' := [.int (i32 (0)), .int (i32 (0)), .int (i32 (r603)), .int (i32 (7)), .ref 66]) rfl rfl rfl rfl ?_
                              refine jx_ar (pc' := 129) (st' := [.int (i32 (0)), .int (i32 (0)), .int (i32 (0)), .int (i32 (r603)), .int (i32 (7)), .ref 66]) rfl rfl rfl rfl ?_
                              refine jx_vr (pc' := 132) (as := [.int (i32 (7)), .int (i32 (r603)), .int (i32 (0)), .int (i32 (0)), .int (i32 (0))]) (st := []) rfl rfl rfl rfl ⟨rfl, rfl, Nat.le_of_ble_eq_true rfl⟩ rfl rfl (c_node (dd := d) (hd := by omega) (hW := hW704) (kind := 7) (a := r603) (b := 0) (c := 0) (e := 0) (nd := nd2_607) (e_nd := show (uG G682 15 ((op2_606 - 1))) 31 = nd2_607 from ((hF688.1 31 rfl).trans (e615)))  (h_kind := by omega) (h_a := by omega) (h_b := by omega) (h_c := by omega) (h_e := by omega)  (p_0 := by omega) (p_1 := by omega)) (fun o V' hq => ?_)
                              obtain ⟨G706, A707, r708, nd2_709, rfl, rfl, hW710, hF711, b712, e713, p714, p715, -⟩ := hq
                              have hF717 := Fr_tr hF705 hF711 (Fr_sub (by decide)) (Fr_sub (by decide))
                              have bnd2_709 : (0 : Int) ≤ nd2_709 ∧ nd2_709 ≤ 6999 := e713 ▸ hW710.1 31
                              refine .inr ⟨_, rfl, ?_⟩
                              refine jx_rt (v := some (.int (i32 (r708)))) rfl rfl rfl rfl rfl rfl ?_
                              have z718 := tz_f (tk2_685)
                              exact ⟨_, _, _, at2_684, fk2_686, (op2_606 - 1), nd2_709, tk2_685, rfl, rfl, hW710, hF717, by omega, ((hF711.1 10 rfl).trans (e689)), ((hF711.1 16 rfl).trans (e691)), (hF711.1 15 rfl), (e713), ((hF711.1 11 rfl).trans (e690)), by omega, by omega, by omega, by omega, by omega, by omega, by first | exact Or.inl (⟨by omega, by omega, by omega, by omega, by omega, by omega⟩) | exact Or.inr (Or.inl (⟨by omega, by omega, by omega⟩)) | exact Or.inr (Or.inr ((⟨by omega, by omega, by omega⟩)))⟩
                            · have _q : True := trivial
                              exfalso
                              omega
                        · have _q : True := trivial
                          refine jx_ld (pc' := 102) (l' := jSto1 [(0, .ref 66)] 1 (.int (i32 (r603)))) (st' := []) rfl rfl ?_
                          obtain ⟨L719, eL719⟩ : ∃ q, q = jSto1 [(0, .ref 66)] 1 (.int (i32 (r603))) := ⟨_, rfl⟩
                          rw [← eL719]
                          have gL719_0 : jGet L719 0 = some (.ref 66) := eL719 ▸ jg_ne (by decide) (rfl : jGet [(0, .ref 66)] 0 = some (.ref 66)) rfl
                          have gL719_1 : jGet L719 1 = some (.int (i32 (r603))) := eL719 ▸ jg_eq
                          refine jx_ld (pc' := 103) (l' := L719) (st' := [.ref 66]) rfl (jl_aloadn gL719_0) ?_
                          refine jx_ld (pc' := 104) (l' := L719) (st' := [.ref 66, .ref 66]) rfl (jl_aloadn gL719_0) ?_
                          refine jx_ar (pc' := 106) (st' := [.int (i32 (41)), .ref 66, .ref 66]) rfl rfl rfl rfl ?_
                          have b720 : (-2147483648 : Int) ≤ G601 13 ∧ G601 13 ≤ 2147483647 := hW609.1 13
                          refine jx_vr (pc' := 109) (as := [.int (i32 (41))]) (st := [.ref 66]) rfl rfl rfl rfl ⟨rfl, rfl, Nat.le_of_ble_eq_true rfl⟩ rfl rfl (c_is (dd := d) (hd := by omega) (hW := hW609) (k := 41) (tk := tk2_608) (e_tk := show G601 11 = tk2_608 from (e616)) (tn := G601 13) (e_tn := show G601 13 = G601 13 from rfl)  (h_k := by omega)  ) (fun o V' hq => ?_)
                          obtain ⟨r721, rfl, rfl, b722, q723⟩ := hq
                          refine .inr ⟨_, rfl, ?_⟩
                          rcases q723 with ⟨rfl, a724, a725, a726⟩ | rfl
                          · have _q : True := trivial
                            refine jx_vr (pc' := 112) (as := [.int (i32 (1))]) (st := []) rfl rfl rfl rfl ⟨rfl, rfl, Nat.le_of_ble_eq_true rfl⟩ rfl rfl (c_need (dd := d) (hd := by omega) (hW := hW609) (g := 1) (ln := ln) (e_ln := show G601 9 = ln from ((hF610.1 9 rfl).trans ((hF467.1 9 rfl).trans ((hF311.1 9 rfl).trans (e_ln))))) (le := le) (e_le := show A602 4 (ln).toNat = le from (congrFun ((hF610.2 4 rfl).trans ((hF467.2 4 rfl).trans (hF311.2 4 rfl))) _).trans (e_le)) (at0 := at2_604) (e_at0 := show G601 10 = at2_604 from (e612)) (fk := fk2_605) (e_fk := show G601 16 = fk2_605 from (e613)) (tk0 := tk2_608) (e_tk0 := show G601 11 = tk2_608 from (e616))  (h_g := by omega)  (p_0 := by omega)) (fun o V' hq => ?_)
                            obtain ⟨G727, A728, at2_729, tk2_730, fk2_731, rfl, rfl, hW732, hF733, e734, e735, e736, p737, p738, q739⟩ := hq
                            have hF740 := Fr_tr hF624 hF733 (Fr_sub (by decide)) (Fr_sub (by decide))
                            have bat2_729 : (0 : Int) ≤ at2_729 ∧ at2_729 ≤ 3002 := e734 ▸ hW732.1 10
                            have ztk2_730 := tz_b tk2_730
                            have btk2_730 : (0 : Int) ≤ tk2_730 ∧ tk2_730 ≤ 5 := e735 ▸ hW732.1 11
                            have bfk2_731 : (0 : Int) ≤ fk2_731 ∧ fk2_731 ≤ 6 := e736 ▸ hW732.1 16
                            refine .inl ⟨rfl, ?_⟩
                            rcases q739 with ⟨a741, a742, a743, a744⟩ | ⟨a745, a746, a747, a748⟩
                            · have _q : True := trivial
                              refine jx_ld (pc' := 113) (l' := L719) (st' := [.ref 66]) rfl (jl_aloadn gL719_0) ?_
                              refine jx_ar (pc' := 114) (st' := [.ref 66, .ref 66]) rfl rfl rfl rfl ?_
                              refine jr_get (pc' := 117) (i := 15) (v := .int (i32 (op2_606))) rfl rfl (by decide) (rFv_eq (by decide) (show G727 15 = op2_606 from ((hF733.1 15 rfl).trans (e614)))) rfl ?_
                              refine jx_ar (pc' := 118) (st' := [.int (i32 (1)), .int (i32 (op2_606)), .ref 66]) rfl rfl rfl rfl ?_
                              refine jx_sub (pc' := 119) rfl rfl ?_
                              refine jr_put (pc' := 122) (i := 15) (z := (op2_606 - 1)) rfl rfl (by decide) rfl rfl rfl rfl rfl rfl ?_
                              have hW749 : Wk (uG G727 15 ((op2_606 - 1))) A728 := Wk_g hW732 (show (-2147483648 : Int) ≤ (op2_606 - 1) by omega) (show (op2_606 - 1) ≤ (2147483647 : Int) by omega)
                              have hF750 := Fr_g (z := (op2_606 - 1)) (i := 15) hF740 (by decide)
                              refine jx_ld (pc' := 123) (l' := L719) (st' := [.ref 66]) rfl (jl_aloadn gL719_0) ?_
                              refine jx_ar (pc' := 125) (st' := [.int (i32 (7)), .ref 66]) rfl rfl rfl rfl ?_
                              refine jx_ld (pc' := 126) (l' := L719) (st' := [.int (i32 (r603)), .int (i32 (7)), .ref 66]) rfl (jl_iloadn gL719_1) ?_
                              refine jx_ar (pc' := 127) (st' := [.int (i32 (0)), .int (i32 (r603)), .int (i32 (7)), .ref 66]) rfl rfl rfl rfl ?_
                              refine jx_ar (pc' := 128) (st' := [.int (i32 (0)), .int (i32 (0)), .int (i32 (r603)), .int (i32 (7)), .ref 66]) rfl rfl rfl rfl ?_
                              refine jx_ar (pc' := 129) (st' := [.int (i32 (0)), .int (i32 (0)), .int (i32 (0)), .int (i32 (r603)), .int (i32 (7)), .ref 66]) rfl rfl rfl rfl ?_
                              refine jx_vr (pc' := 132) (as := [.int (i32 (7)), .int (i32 (r603)), .int (i32 (0)), .int (i32 (0)), .int (i32 (0))]) (st := []) rfl rfl rfl rfl ⟨rfl, rfl, Nat.le_of_ble_eq_true rfl⟩ rfl rfl (c_node (dd := d) (hd := by omega) (hW := hW749) (kind := 7) (a := r603) (b := 0) (c := 0) (e := 0) (nd := nd2_607) (e_nd := show (uG G727 15 ((op2_606 - 1))) 31 = nd2_607 from ((hF733.1 31 rfl).trans (e615)))  (h_kind := by omega) (h_a := by omega) (h_b := by omega) (h_c := by omega) (h_e := by omega)  (p_0 := by omega) (p_1 := by omega)) (fun o V' hq => ?_)
                              obtain ⟨G751, A752, r753, nd2_754, rfl, rfl, hW755, hF756, b757, e758, p759, p760, -⟩ := hq
                              have hF762 := Fr_tr hF750 hF756 (Fr_sub (by decide)) (Fr_sub (by decide))
                              have bnd2_754 : (0 : Int) ≤ nd2_754 ∧ nd2_754 ≤ 6999 := e758 ▸ hW755.1 31
                              refine .inr ⟨_, rfl, ?_⟩
                              refine jx_rt (v := some (.int (i32 (r753)))) rfl rfl rfl rfl rfl rfl ?_
                              have z763 := tz_f (tk2_730)
                              exact ⟨_, _, _, at2_729, fk2_731, (op2_606 - 1), nd2_754, tk2_730, rfl, rfl, hW755, hF762, by omega, ((hF756.1 10 rfl).trans (e734)), ((hF756.1 16 rfl).trans (e736)), (hF756.1 15 rfl), (e758), ((hF756.1 11 rfl).trans (e735)), by omega, by omega, by omega, by omega, by omega, by omega, by first | exact Or.inl (⟨by omega, by omega, by omega, by omega, by omega, by omega⟩) | exact Or.inr (Or.inl (⟨by omega, by omega, by omega⟩)) | exact Or.inr (Or.inr ((⟨by omega, by omega, by omega⟩)))⟩
                            · have _q : True := trivial
                              refine jx_ld (pc' := 113) (l' := L719) (st' := [.ref 66]) rfl (jl_aloadn gL719_0) ?_
                              refine jx_ar (pc' := 114) (st' := [.ref 66, .ref 66]) rfl rfl rfl rfl ?_
                              refine jr_get (pc' := 117) (i := 15) (v := .int (i32 (op2_606))) rfl rfl (by decide) (rFv_eq (by decide) (show G727 15 = op2_606 from ((hF733.1 15 rfl).trans (e614)))) rfl ?_
                              refine jx_ar (pc' := 118) (st' := [.int (i32 (1)), .int (i32 (op2_606)), .ref 66]) rfl rfl rfl rfl ?_
                              refine jx_sub (pc' := 119) rfl rfl ?_
                              refine jr_put (pc' := 122) (i := 15) (z := (op2_606 - 1)) rfl rfl (by decide) rfl rfl rfl rfl rfl rfl ?_
                              have hW764 : Wk (uG G727 15 ((op2_606 - 1))) A728 := Wk_g hW732 (show (-2147483648 : Int) ≤ (op2_606 - 1) by omega) (show (op2_606 - 1) ≤ (2147483647 : Int) by omega)
                              have hF765 := Fr_g (z := (op2_606 - 1)) (i := 15) hF740 (by decide)
                              refine jx_ld (pc' := 123) (l' := L719) (st' := [.ref 66]) rfl (jl_aloadn gL719_0) ?_
                              refine jx_ar (pc' := 125) (st' := [.int (i32 (7)), .ref 66]) rfl rfl rfl rfl ?_
                              refine jx_ld (pc' := 126) (l' := L719) (st' := [.int (i32 (r603)), .int (i32 (7)), .ref 66]) rfl (jl_iloadn gL719_1) ?_
                              refine jx_ar (pc' := 127) (st' := [.int (i32 (0)), .int (i32 (r603)), .int (i32 (7)), .ref 66]) rfl rfl rfl rfl ?_
                              refine jx_ar (pc' := 128) (st' := [.int (i32 (0)), .int (i32 (0)), .int (i32 (r603)), .int (i32 (7)), .ref 66]) rfl rfl rfl rfl ?_
                              refine jx_ar (pc' := 129) (st' := [.int (i32 (0)), .int (i32 (0)), .int (i32 (0)), .int (i32 (r603)), .int (i32 (7)), .ref 66]) rfl rfl rfl rfl ?_
                              refine jx_vr (pc' := 132) (as := [.int (i32 (7)), .int (i32 (r603)), .int (i32 (0)), .int (i32 (0)), .int (i32 (0))]) (st := []) rfl rfl rfl rfl ⟨rfl, rfl, Nat.le_of_ble_eq_true rfl⟩ rfl rfl (c_node (dd := d) (hd := by omega) (hW := hW764) (kind := 7) (a := r603) (b := 0) (c := 0) (e := 0) (nd := nd2_607) (e_nd := show (uG G727 15 ((op2_606 - 1))) 31 = nd2_607 from ((hF733.1 31 rfl).trans (e615)))  (h_kind := by omega) (h_a := by omega) (h_b := by omega) (h_c := by omega) (h_e := by omega)  (p_0 := by omega) (p_1 := by omega)) (fun o V' hq => ?_)
                              obtain ⟨G766, A767, r768, nd2_769, rfl, rfl, hW770, hF771, b772, e773, p774, p775, -⟩ := hq
                              have hF777 := Fr_tr hF765 hF771 (Fr_sub (by decide)) (Fr_sub (by decide))
                              have bnd2_769 : (0 : Int) ≤ nd2_769 ∧ nd2_769 ≤ 6999 := e773 ▸ hW770.1 31
                              refine .inr ⟨_, rfl, ?_⟩
                              refine jx_rt (v := some (.int (i32 (r768)))) rfl rfl rfl rfl rfl rfl ?_
                              have z778 := tz_f (tk2_730)
                              exact ⟨_, _, _, at2_729, fk2_731, (op2_606 - 1), nd2_769, tk2_730, rfl, rfl, hW770, hF777, by omega, ((hF771.1 10 rfl).trans (e734)), ((hF771.1 16 rfl).trans (e736)), (hF771.1 15 rfl), (e773), ((hF771.1 11 rfl).trans (e735)), by omega, by omega, by omega, by omega, by omega, by omega, by first | exact Or.inl (⟨by omega, by omega, by omega, by omega, by omega, by omega⟩) | exact Or.inr (Or.inl (⟨by omega, by omega, by omega⟩)) | exact Or.inr (Or.inr ((⟨by omega, by omega, by omega⟩)))⟩
                          · have _q : True := trivial
                            refine jx_vr (pc' := 112) (as := [.int (i32 (0))]) (st := []) rfl rfl rfl rfl ⟨rfl, rfl, Nat.le_of_ble_eq_true rfl⟩ rfl rfl (c_need (dd := d) (hd := by omega) (hW := hW609) (g := 0) (ln := ln) (e_ln := show G601 9 = ln from ((hF610.1 9 rfl).trans ((hF467.1 9 rfl).trans ((hF311.1 9 rfl).trans (e_ln))))) (le := le) (e_le := show A602 4 (ln).toNat = le from (congrFun ((hF610.2 4 rfl).trans ((hF467.2 4 rfl).trans (hF311.2 4 rfl))) _).trans (e_le)) (at0 := at2_604) (e_at0 := show G601 10 = at2_604 from (e612)) (fk := fk2_605) (e_fk := show G601 16 = fk2_605 from (e613)) (tk0 := tk2_608) (e_tk0 := show G601 11 = tk2_608 from (e616))  (h_g := by omega)  (p_0 := by omega)) (fun o V' hq => ?_)
                            obtain ⟨G779, A780, at2_781, tk2_782, fk2_783, rfl, rfl, hW784, hF785, e786, e787, e788, p789, p790, q791⟩ := hq
                            have hF792 := Fr_tr hF624 hF785 (Fr_sub (by decide)) (Fr_sub (by decide))
                            have bat2_781 : (0 : Int) ≤ at2_781 ∧ at2_781 ≤ 3002 := e786 ▸ hW784.1 10
                            have ztk2_782 := tz_b tk2_782
                            have btk2_782 : (0 : Int) ≤ tk2_782 ∧ tk2_782 ≤ 5 := e787 ▸ hW784.1 11
                            have bfk2_783 : (0 : Int) ≤ fk2_783 ∧ fk2_783 ≤ 6 := e788 ▸ hW784.1 16
                            refine .inl ⟨rfl, ?_⟩
                            rcases q791 with ⟨a793, a794, a795, a796⟩ | ⟨a797, a798, a799, a800⟩
                            · have _q : True := trivial
                              refine jx_ld (pc' := 113) (l' := L719) (st' := [.ref 66]) rfl (jl_aloadn gL719_0) ?_
                              refine jx_ar (pc' := 114) (st' := [.ref 66, .ref 66]) rfl rfl rfl rfl ?_
                              refine jr_get (pc' := 117) (i := 15) (v := .int (i32 (op2_606))) rfl rfl (by decide) (rFv_eq (by decide) (show G779 15 = op2_606 from ((hF785.1 15 rfl).trans (e614)))) rfl ?_
                              refine jx_ar (pc' := 118) (st' := [.int (i32 (1)), .int (i32 (op2_606)), .ref 66]) rfl rfl rfl rfl ?_
                              refine jx_sub (pc' := 119) rfl rfl ?_
                              refine jr_put (pc' := 122) (i := 15) (z := (op2_606 - 1)) rfl rfl (by decide) rfl rfl rfl rfl rfl rfl ?_
                              have hW801 : Wk (uG G779 15 ((op2_606 - 1))) A780 := Wk_g hW784 (show (-2147483648 : Int) ≤ (op2_606 - 1) by omega) (show (op2_606 - 1) ≤ (2147483647 : Int) by omega)
                              have hF802 := Fr_g (z := (op2_606 - 1)) (i := 15) hF792 (by decide)
                              refine jx_ld (pc' := 123) (l' := L719) (st' := [.ref 66]) rfl (jl_aloadn gL719_0) ?_
                              refine jx_ar (pc' := 125) (st' := [.int (i32 (7)), .ref 66]) rfl rfl rfl rfl ?_
                              refine jx_ld (pc' := 126) (l' := L719) (st' := [.int (i32 (r603)), .int (i32 (7)), .ref 66]) rfl (jl_iloadn gL719_1) ?_
                              refine jx_ar (pc' := 127) (st' := [.int (i32 (0)), .int (i32 (r603)), .int (i32 (7)), .ref 66]) rfl rfl rfl rfl ?_
                              refine jx_ar (pc' := 128) (st' := [.int (i32 (0)), .int (i32 (0)), .int (i32 (r603)), .int (i32 (7)), .ref 66]) rfl rfl rfl rfl ?_
                              refine jx_ar (pc' := 129) (st' := [.int (i32 (0)), .int (i32 (0)), .int (i32 (0)), .int (i32 (r603)), .int (i32 (7)), .ref 66]) rfl rfl rfl rfl ?_
                              refine jx_vr (pc' := 132) (as := [.int (i32 (7)), .int (i32 (r603)), .int (i32 (0)), .int (i32 (0)), .int (i32 (0))]) (st := []) rfl rfl rfl rfl ⟨rfl, rfl, Nat.le_of_ble_eq_true rfl⟩ rfl rfl (c_node (dd := d) (hd := by omega) (hW := hW801) (kind := 7) (a := r603) (b := 0) (c := 0) (e := 0) (nd := nd2_607) (e_nd := show (uG G779 15 ((op2_606 - 1))) 31 = nd2_607 from ((hF785.1 31 rfl).trans (e615)))  (h_kind := by omega) (h_a := by omega) (h_b := by omega) (h_c := by omega) (h_e := by omega)  (p_0 := by omega) (p_1 := by omega)) (fun o V' hq => ?_)
                              obtain ⟨G803, A804, r805, nd2_806, rfl, rfl, hW807, hF808, b809, e810, p811, p812, -⟩ := hq
                              have hF814 := Fr_tr hF802 hF808 (Fr_sub (by decide)) (Fr_sub (by decide))
                              have bnd2_806 : (0 : Int) ≤ nd2_806 ∧ nd2_806 ≤ 6999 := e810 ▸ hW807.1 31
                              refine .inr ⟨_, rfl, ?_⟩
                              refine jx_rt (v := some (.int (i32 (r805)))) rfl rfl rfl rfl rfl rfl ?_
                              have z815 := tz_f (tk2_782)
                              exact ⟨_, _, _, at2_781, fk2_783, (op2_606 - 1), nd2_806, tk2_782, rfl, rfl, hW807, hF814, by omega, ((hF808.1 10 rfl).trans (e786)), ((hF808.1 16 rfl).trans (e788)), (hF808.1 15 rfl), (e810), ((hF808.1 11 rfl).trans (e787)), by omega, by omega, by omega, by omega, by omega, by omega, by first | exact Or.inl (⟨by omega, by omega, by omega, by omega, by omega, by omega⟩) | exact Or.inr (Or.inl (⟨by omega, by omega, by omega⟩)) | exact Or.inr (Or.inr ((⟨by omega, by omega, by omega⟩)))⟩
                            · have _q : True := trivial
                              exfalso
                              omega
                · have _q : True := trivial
                  refine jx_if_eq (pc' := 88) (tg := 133) rfl rfl rfl (by omega) (by omega) (fun h816 => ?_) (fun h816 => ?_)
                  · have _q := h816
                    refine jx_ld (pc' := 134) (l' := [(0, .ref 66)]) (st' := [.ref 66]) rfl (jl_aloadn rfl) ?_
                    refine jr_get (pc' := 137) (i := 11) (v := .int (i32 (tk0))) rfl rfl (by decide) (rFv_eq (by decide) (show G 11 = tk0 from (e_tk0))) rfl ?_
                    refine jx_ar (pc' := 138) (st' := [.int (i32 (1)), .int (i32 (tk0))]) rfl rfl rfl rfl ?_
                    refine jx_icmp_eq (pc' := 141) (tg := 152) rfl rfl rfl (by omega) (by omega) (by omega) (by omega) (fun h817 => ?_) (fun h817 => ?_)
                    · have _q := h817
                      refine jx_ld (pc' := 153) (l' := [(0, .ref 66)]) (st' := [.ref 66]) rfl (jl_aloadn rfl) ?_
                      have b818 : (-3000 : Int) ≤ G 12 ∧ G 12 ≤ 3002 := hW.1 12
                      refine jr_get (pc' := 156) (i := 12) (v := .int (i32 (G 12))) rfl rfl (by decide) rfl rfl ?_
                      refine jx_ld (pc' := 157) (l' := jSto1 [(0, .ref 66)] 1 (.int (i32 (G 12)))) (st' := []) rfl rfl ?_
                      obtain ⟨L819, eL819⟩ : ∃ q, q = jSto1 [(0, .ref 66)] 1 (.int (i32 (G 12))) := ⟨_, rfl⟩
                      rw [← eL819]
                      have gL819_0 : jGet L819 0 = some (.ref 66) := eL819 ▸ jg_ne (by decide) (rfl : jGet [(0, .ref 66)] 0 = some (.ref 66)) rfl
                      have gL819_1 : jGet L819 1 = some (.int (i32 (G 12))) := eL819 ▸ jg_eq
                      refine jx_ld (pc' := 158) (l' := L819) (st' := [.ref 66]) rfl (jl_aloadn gL819_0) ?_
                      refine jx_vr (pc' := 161) (as := []) (st := []) rfl rfl rfl rfl ⟨rfl, rfl, Nat.le_of_ble_eq_true rfl⟩ rfl rfl (c_lookUp (dd := d) (hd := by omega) (hW := hW)  (fk := fk) (e_fk := show G 16 = fk from (e_fk))    ) (fun o V' hq => ?_)
                      obtain ⟨G820, A821, r822, fk2_823, rfl, rfl, hW824, hF825, b826, e827, q828⟩ := hq
                      have hF829 := Fr_tr hF0 hF825 (Fr_sub (by decide)) (Fr_sub (by decide))
                      have bfk2_823 : (0 : Int) ≤ fk2_823 ∧ fk2_823 ≤ 6 := e827 ▸ hW824.1 16
                      refine .inr ⟨_, rfl, ?_⟩
                      rcases q828 with ⟨a830, a831⟩ | ⟨a832, a833, a834⟩
                      · have _q : True := trivial
                        refine jx_ld (pc' := 162) (l' := jSto1 L819 2 (.int (i32 (r822)))) (st' := []) rfl rfl ?_
                        obtain ⟨L835, eL835⟩ : ∃ q, q = jSto1 L819 2 (.int (i32 (r822))) := ⟨_, rfl⟩
                        rw [← eL835]
                        have gL835_0 : jGet L835 0 = some (.ref 66) := eL835 ▸ jg_ne (by decide) gL819_0 rfl
                        have gL835_1 : jGet L835 1 = some (.int (i32 (G 12))) := eL835 ▸ jg_ne (by decide) gL819_1 rfl
                        have gL835_2 : jGet L835 2 = some (.int (i32 (r822))) := eL835 ▸ jg_eq
                        refine jx_ld (pc' := 163) (l' := L835) (st' := [.ref 66]) rfl (jl_aloadn gL835_0) ?_
                        refine jx_vr (pc' := 166) (as := []) (st := []) rfl rfl rfl rfl ⟨rfl, rfl, Nat.le_of_ble_eq_true rfl⟩ rfl rfl (c_bad (dd := d) (hd := by omega) (hW := hW824)  (fk := fk2_823) (e_fk := show G820 16 = fk2_823 from (e827))    ) (fun o V' hq => ?_)
                        obtain ⟨r836, rfl, rfl, b837, q838⟩ := hq
                        refine .inr ⟨_, rfl, ?_⟩
                        rcases q838 with ⟨rfl, a839⟩ | ⟨rfl, a840⟩
                        · have _q : True := trivial
                          refine jx_if_eq (pc' := 169) (tg := 171) rfl rfl rfl (by omega) (by omega) (fun h841 => ?_) (fun h841 => ?_)
                          · have _q := h841
                            exact absurd h841 (by omega)
                          · have _q := h841
                            refine jx_ar (pc' := 170) (st' := [.int (i32 (0))]) rfl rfl rfl rfl ?_
                            refine jx_rt (v := some (.int (i32 (0)))) rfl rfl rfl rfl rfl rfl ?_
                            have z842 := tz_f (tk0)
                            exact ⟨_, _, _, at0, fk2_823, op0, nd, tk0, rfl, rfl, hW824, hF829, by omega, ((hF825.1 10 rfl).trans (e_at0)), (e827), ((hF825.1 15 rfl).trans (e_op0)), ((hF825.1 31 rfl).trans (e_nd)), ((hF825.1 11 rfl).trans (e_tk0)), by omega, by omega, by omega, by omega, by omega, by omega, by first | exact Or.inl (⟨by omega, by omega, by omega, by omega, by omega, by omega⟩) | exact Or.inr (Or.inl (⟨by omega, by omega, by omega⟩)) | exact Or.inr (Or.inr ((⟨by omega, by omega, by omega⟩)))⟩
                        · have _q : True := trivial
                          exfalso
                          omega
                      · have _q : True := trivial
                        refine jx_ld (pc' := 162) (l' := jSto1 L819 2 (.int (i32 (r822)))) (st' := []) rfl rfl ?_
                        obtain ⟨L843, eL843⟩ : ∃ q, q = jSto1 L819 2 (.int (i32 (r822))) := ⟨_, rfl⟩
                        rw [← eL843]
                        have gL843_0 : jGet L843 0 = some (.ref 66) := eL843 ▸ jg_ne (by decide) gL819_0 rfl
                        have gL843_1 : jGet L843 1 = some (.int (i32 (G 12))) := eL843 ▸ jg_ne (by decide) gL819_1 rfl
                        have gL843_2 : jGet L843 2 = some (.int (i32 (r822))) := eL843 ▸ jg_eq
                        refine jx_ld (pc' := 163) (l' := L843) (st' := [.ref 66]) rfl (jl_aloadn gL843_0) ?_
                        refine jx_vr (pc' := 166) (as := []) (st := []) rfl rfl rfl rfl ⟨rfl, rfl, Nat.le_of_ble_eq_true rfl⟩ rfl rfl (c_bad (dd := d) (hd := by omega) (hW := hW824)  (fk := fk2_823) (e_fk := show G820 16 = fk2_823 from (e827))    ) (fun o V' hq => ?_)
                        obtain ⟨r844, rfl, rfl, b845, q846⟩ := hq
                        refine .inr ⟨_, rfl, ?_⟩
                        rcases q846 with ⟨rfl, a847⟩ | ⟨rfl, a848⟩
                        · have _q : True := trivial
                          exfalso
                          omega
                        · have _q : True := trivial
                          refine jx_if_eq (pc' := 169) (tg := 171) rfl rfl rfl (by omega) (by omega) (fun h849 => ?_) (fun h849 => ?_)
                          · have _q := h849
                            refine jx_ld (pc' := 172) (l' := L843) (st' := [.ref 66]) rfl (jl_aloadn gL843_0) ?_
                            refine jx_vr (pc' := 175) (as := []) (st := []) rfl rfl rfl rfl ⟨rfl, rfl, Nat.le_of_ble_eq_true rfl⟩ rfl rfl (c_next (dd := d) (hd := by omega) (hW := hW824)  (ln := ln) (e_ln := show G820 9 = ln from ((hF825.1 9 rfl).trans (e_ln))) (le := le) (e_le := show A821 4 (ln).toNat = le from (congrFun (hF825.2 4 rfl) _).trans (e_le)) (at0 := at0) (e_at0 := show G820 10 = at0 from ((hF825.1 10 rfl).trans (e_at0)))    (p_0 := by omega)) (fun o V' hq => ?_)
                            obtain ⟨G850, A851, at2_852, tk2_853, rfl, rfl, hW854, hF855, e856, e857, p858, p859, p860, -⟩ := hq
                            have hF862 := Fr_tr hF829 hF855 (Fr_sub (by decide)) (Fr_sub (by decide))
                            have bat2_852 : (0 : Int) ≤ at2_852 ∧ at2_852 ≤ 3002 := e856 ▸ hW854.1 10
                            have ztk2_853 := tz_b tk2_853
                            have btk2_853 : (0 : Int) ≤ tk2_853 ∧ tk2_853 ≤ 5 := e857 ▸ hW854.1 11
                            refine .inl ⟨rfl, ?_⟩
                            refine jx_ld (pc' := 176) (l' := L843) (st' := [.ref 66]) rfl (jl_aloadn gL843_0) ?_
                            refine jx_ld (pc' := 177) (l' := L843) (st' := [.int (i32 (r822)), .ref 66]) rfl (jl_iloadn gL843_2) ?_
                            refine jx_ld (pc' := 178) (l' := L843) (st' := [.int (i32 (G 12)), .int (i32 (r822)), .ref 66]) rfl (jl_iloadn gL843_1) ?_
                            refine jx_vr (pc' := 181) (as := [.int (i32 (r822)), .int (i32 (G 12))]) (st := []) rfl rfl rfl rfl ⟨rfl, rfl, Nat.le_of_ble_eq_true rfl⟩ rfl rfl (c_readValue (dd := d) (hE := hE) (hd := by omega) (hW := hW854) (s := r822) (place := G 12) (ln := ln) (e_ln := show G850 9 = ln from ((hF855.1 9 rfl).trans ((hF825.1 9 rfl).trans (e_ln)))) (le := le) (e_le := show A851 4 (ln).toNat = le from (congrFun ((hF855.2 4 rfl).trans (hF825.2 4 rfl)) _).trans (e_le)) (at0 := at2_852) (e_at0 := show G850 10 = at2_852 from (e856)) (fk := fk2_823) (e_fk := show G850 16 = fk2_823 from ((hF855.1 16 rfl).trans (e827))) (op0 := op0) (e_op0 := show G850 15 = op0 from ((hF855.1 15 rfl).trans ((hF825.1 15 rfl).trans (e_op0)))) (nd := nd) (e_nd := show G850 31 = nd from ((hF855.1 31 rfl).trans ((hF825.1 31 rfl).trans (e_nd)))) (tk0 := tk2_853) (e_tk0 := show G850 11 = tk2_853 from (e857))  (h_s := by omega) (h_place := by omega)  (p_0 := by omega) (p_1 := by omega) (p_2 := by omega) (p_3 := by omega) (p_4 := by omega) (p_5 := by omega) (p_6 := by omega) (p_7 := by omega) (p_8 := by omega) (p_9 := by omega)) (fun o V' hq => ?_)
                            obtain ⟨G863, A864, r865, at2_866, fk2_867, op2_868, nd2_869, tk2_870, rfl, rfl, hW871, hF872, b873, e874, e875, e876, e877, e878, p879, p880, p881, p882, p883, p884, q885⟩ := hq
                            have hF886 := Fr_tr hF862 hF872 (Fr_sub (by decide)) (Fr_sub (by decide))
                            have bat2_866 : (0 : Int) ≤ at2_866 ∧ at2_866 ≤ 3002 := e874 ▸ hW871.1 10
                            have bfk2_867 : (0 : Int) ≤ fk2_867 ∧ fk2_867 ≤ 6 := e875 ▸ hW871.1 16
                            have bop2_868 : (-2147483648 : Int) ≤ op2_868 ∧ op2_868 ≤ 2147483647 := e876 ▸ hW871.1 15
                            have bnd2_869 : (0 : Int) ≤ nd2_869 ∧ nd2_869 ≤ 6999 := e877 ▸ hW871.1 31
                            have ztk2_870 := tz_b tk2_870
                            have btk2_870 : (0 : Int) ≤ tk2_870 ∧ tk2_870 ≤ 5 := e878 ▸ hW871.1 11
                            refine .inr ⟨_, rfl, ?_⟩
                            rcases q885 with ⟨a887, a888, a889⟩ | ⟨a890, a891, a892⟩
                            · have _q : True := trivial
                              refine jx_rt (v := some (.int (i32 (r865)))) rfl rfl rfl rfl rfl rfl ?_
                              have z893 := tz_f (tk2_870)
                              exact ⟨_, _, _, at2_866, fk2_867, op2_868, nd2_869, tk2_870, rfl, rfl, hW871, hF886, by omega, (e874), (e875), (e876), (e877), (e878), by omega, by omega, by omega, by omega, by omega, by omega, by first | exact Or.inl (⟨by omega, by omega, by omega, by omega, by omega, by omega⟩) | exact Or.inr (Or.inl (⟨by omega, by omega, by omega⟩)) | exact Or.inr (Or.inr ((⟨by omega, by omega, by omega⟩)))⟩
                            · have _q : True := trivial
                              refine jx_rt (v := some (.int (i32 (r865)))) rfl rfl rfl rfl rfl rfl ?_
                              have z894 := tz_f (tk2_870)
                              exact ⟨_, _, _, at2_866, fk2_867, op2_868, nd2_869, tk2_870, rfl, rfl, hW871, hF886, by omega, (e874), (e875), (e876), (e877), (e878), by omega, by omega, by omega, by omega, by omega, by omega, by first | exact Or.inl (⟨by omega, by omega, by omega, by omega, by omega, by omega⟩) | exact Or.inr (Or.inl (⟨by omega, by omega, by omega⟩)) | exact Or.inr (Or.inr ((⟨by omega, by omega, by omega⟩)))⟩
                          · have _q := h849
                            exact absurd h849 (by omega)
                    · have _q := h817
                      refine jx_ld (pc' := 142) (l' := [(0, .ref 66)]) (st' := [.ref 66]) rfl (jl_aloadn rfl) ?_
                      refine jx_ar (pc' := 143) (st' := [.int (i32 (1)), .ref 66]) rfl rfl rfl rfl ?_
                      refine jx_ld (pc' := 144) (l' := [(0, .ref 66)]) (st' := [.ref 66, .int (i32 (1)), .ref 66]) rfl (jl_aloadn rfl) ?_
                      have b895 : (-3000 : Int) ≤ G 12 ∧ G 12 ≤ 3002 := hW.1 12
                      refine jr_get (pc' := 147) (i := 12) (v := .int (i32 (G 12))) rfl rfl (by decide) rfl rfl ?_
                      refine jx_vr (pc' := 150) (as := [.int (i32 (1)), .int (i32 (G 12))]) (st := []) rfl rfl rfl rfl ⟨rfl, rfl, Nat.le_of_ble_eq_true rfl⟩ rfl rfl (c_fail (dd := d) (hd := by omega) (hW := hW) (kind := 1) (place := G 12) (fk := fk) (e_fk := show G 16 = fk from (e_fk))  (h_kind := by omega) (h_place := by omega)  (p_0 := by omega) (p_1 := by omega)) (fun o V' hq => ?_)
                      obtain ⟨G896, A897, fk2_898, rfl, rfl, hW899, hF900, e901, p902, -⟩ := hq
                      have hF904 := Fr_tr hF0 hF900 (Fr_sub (by decide)) (Fr_sub (by decide))
                      have bfk2_898 : (0 : Int) ≤ fk2_898 ∧ fk2_898 ≤ 6 := e901 ▸ hW899.1 16
                      refine .inl ⟨rfl, ?_⟩
                      refine jx_ar (pc' := 151) (st' := [.int (i32 (0))]) rfl rfl rfl rfl ?_
                      refine jx_rt (v := some (.int (i32 (0)))) rfl rfl rfl rfl rfl rfl ?_
                      have z905 := tz_f (tk0)
                      exact ⟨_, _, _, at0, fk2_898, op0, nd, tk0, rfl, rfl, hW899, hF904, by omega, ((hF900.1 10 rfl).trans (e_at0)), (e901), ((hF900.1 15 rfl).trans (e_op0)), ((hF900.1 31 rfl).trans (e_nd)), ((hF900.1 11 rfl).trans (e_tk0)), by omega, by omega, by omega, by omega, by omega, by omega, by first | exact Or.inl (⟨by omega, by omega, by omega, by omega, by omega, by omega⟩) | exact Or.inr (Or.inl (⟨by omega, by omega, by omega⟩)) | exact Or.inr (Or.inr ((⟨by omega, by omega, by omega⟩)))⟩
                  · have _q := h816
                    exact absurd h816 (by omega)
              · have _q := h298
                exact absurd h298 (by omega)
    · have _q := h8
      exact absurd h8 (by omega)
set_option maxRecDepth 20000 in
set_option maxHeartbeats 4000000 in
theorem c_readRest {X : jX} {k : Nat} (hE : RE X k) {dd : Nat} {c0 c1 : jC} {G : Nat → Int} {A : Nat → Nat → Int} {T : jH} {x : Int} {ln le at0 fk op0 nd tk0 : Int} (hd : 6 * k + 15 ≤ dd) (hW : Wk G A) (e_ln : G 9 = ln) (e_le : A 4 (ln).toNat = le) (e_at0 : G 10 = at0) (e_fk : G 16 = fk) (e_op0 : G 15 = op0) (e_nd : G 31 = nd) (e_tk0 : G 11 = tk0) (h_x : (-2147483648 : Int) ≤ x ∧ x ≤ 2147483647) (p_0 : 0 ≤ op0) (p_1 : op0 ≤ 9) (p_2 : op0 ≤ 8 ∨ 1 ≤ fk) (p_3 : 9 - op0 ≤ ((k + 1 : Nat) : Int) ∨ 1 ≤ fk) (p_4 : nd ≤ 2 * at0 - tz tk0 + 51) (p_5 : at0 ≤ le) (p_6 : nd ≤ 2 * at0 - tz tk0 + 50 ∨ 1 ≤ fk) (p_7 : 0 ≤ x ∧ x ≤ nd) : wk X dd 287 [.ref 66, .int (i32 x)] (rV c0 c1 G A T) (fun o V' => ∃ (G' : Nat → Int) (A' : Nat → Nat → Int) (r : Int) (at2 : Int) (fk2 : Int) (op2 : Int) (nd2 : Int) (tk2 : Int), V' = rV c0 c1 G' A' T ∧ o = .inl (some (.int (i32 r))) ∧ Wk G' A' ∧ Fr [10, 11, 12, 13, 14, 15, 16, 17, 18, 31] [15, 16, 17, 18, 19, 20, 21, 22, 24, 28] G A G' A' ∧ ((-2147483648 : Int) ≤ r ∧ r ≤ 2147483647) ∧ G' 10 = at2 ∧ G' 16 = fk2 ∧ G' 15 = op2 ∧ G' 31 = nd2 ∧ G' 11 = tk2 ∧ (at0 ≤ at2) ∧ (at2 ≤ le) ∧ (nd ≤ nd2) ∧ (op2 = op0) ∧ (0 ≤ r) ∧ (r ≤ nd2) ∧ (((1 ≤ fk) ∧ (1 ≤ fk2) ∧ (nd2 = nd) ∧ (at2 = at0) ∧ (tk2 = tk0) ∧ (tz tk2 = tz tk0)) ∨ ((fk = 0) ∧ (1 ≤ fk2) ∧ (nd2 - nd ≤ (2 * at2 - tz tk2) - (2 * at0 - tz tk0) + 1)) ∨ ((fk = 0) ∧ (fk2 = 0) ∧ (nd2 - nd ≤ (2 * at2 - tz tk2) - (2 * at0 - tz tk0))))) := by
  obtain ⟨d, rfl⟩ : ∃ d, dd = d + 1 := ⟨dd - 1, by omega⟩
  refine wk_of (e := jm287) rfl (Nat.le_of_ble_eq_true rfl) ?_
  show wj X d jm287 (0, [(0, .ref 66), (1, .int (i32 (x)))], [], rV c0 c1 G A T) _
  have hF0 : Fr [10, 11, 12, 13, 14, 15, 16, 17, 18, 31] [15, 16, 17, 18, 19, 20, 21, 22, 24, 28] G A G A := Fr_rf
  have b_ln : (0 : Int) ≤ ln ∧ ln ≤ 3000 := e_ln ▸ hW.1 9
  have b_le : (0 : Int) ≤ le ∧ le ≤ 3000 := e_le ▸ hW.2 4 _
  have b_at0 : (0 : Int) ≤ at0 ∧ at0 ≤ 3002 := e_at0 ▸ hW.1 10
  have b_fk : (0 : Int) ≤ fk ∧ fk ≤ 6 := e_fk ▸ hW.1 16
  have b_op0 : (-2147483648 : Int) ≤ op0 ∧ op0 ≤ 2147483647 := e_op0 ▸ hW.1 15
  have b_nd : (0 : Int) ≤ nd ∧ nd ≤ 6999 := e_nd ▸ hW.1 31
  have z_tk0 := tz_f tk0
  have b_tk0 : (0 : Int) ≤ tk0 ∧ tk0 ≤ 5 := e_tk0 ▸ hW.1 11
  refine jx_ld (pc' := 1) (l' := [(0, .ref 66), (1, .int (i32 (x)))]) (st' := [.ref 66]) rfl (jl_aloadn rfl) ?_
  refine jx_vr (pc' := 4) (as := []) (st := []) rfl rfl rfl rfl ⟨rfl, rfl, Nat.le_of_ble_eq_true rfl⟩ rfl rfl (c_bad (dd := d) (hd := by omega) (hW := hW)  (fk := fk) (e_fk := show G 16 = fk from (e_fk))    ) (fun o V' hq => ?_)
  obtain ⟨r1, rfl, rfl, b2, q3⟩ := hq
  refine .inr ⟨_, rfl, ?_⟩
  rcases q3 with ⟨rfl, a4⟩ | ⟨rfl, a5⟩
  · have _q : True := trivial
    refine jx_if_eq (pc' := 7) (tg := 11) rfl rfl rfl (by omega) (by omega) (fun h6 => ?_) (fun h6 => ?_)
    · have _q := h6
      exact absurd h6 (by omega)
    · have _q := h6
      refine jx_ar (pc' := 8) (st' := [.int (i32 (0))]) rfl rfl rfl rfl ?_
      refine jx_go (tg := 15) rfl rfl ?_
      refine jx_ld (pc' := 16) (l' := jSto1 [(0, .ref 66), (1, .int (i32 (x)))] 2 (.int (i32 (0)))) (st' := []) rfl rfl ?_
      obtain ⟨L7, eL7⟩ : ∃ q, q = jSto1 [(0, .ref 66), (1, .int (i32 (x)))] 2 (.int (i32 (0))) := ⟨_, rfl⟩
      rw [← eL7]
      have gL7_0 : jGet L7 0 = some (.ref 66) := eL7 ▸ jg_ne (by decide) (rfl : jGet [(0, .ref 66), (1, .int (i32 (x)))] 0 = some (.ref 66)) rfl
      have gL7_1 : jGet L7 1 = some (.int (i32 (x))) := eL7 ▸ jg_ne (by decide) (rfl : jGet [(0, .ref 66), (1, .int (i32 (x)))] 1 = some (.int (i32 (x)))) rfl
      have gL7_2 : jGet L7 2 = some (.int (i32 (0))) := eL7 ▸ jg_eq
      refine jx_ld (pc' := 17) (l' := L7) (st' := [.int (i32 (0))]) rfl (jl_iloadn gL7_2) ?_
      refine jx_if_ne (pc' := 20) (tg := 22) rfl rfl rfl (by omega) (by omega) (fun h8 => ?_) (fun h8 => ?_)
      · have _q := h8
        exact absurd h8 (by omega)
      · have _q := h8
        refine jx_ld (pc' := 21) (l' := L7) (st' := [.int (i32 (x))]) rfl (jl_iloadn gL7_1) ?_
        refine jx_rt (v := some (.int (i32 (x)))) rfl rfl rfl rfl rfl rfl ?_
        have z9 := tz_f (tk0)
        exact ⟨_, _, _, at0, fk, op0, nd, tk0, rfl, rfl, hW, hF0, by omega, (e_at0), (e_fk), (e_op0), (e_nd), (e_tk0), by omega, by omega, by omega, by omega, by omega, by omega, by first | exact Or.inl (⟨by omega, by omega, by omega, by omega, by omega, by omega⟩) | exact Or.inr (Or.inl (⟨by omega, by omega, by omega⟩)) | exact Or.inr (Or.inr ((⟨by omega, by omega, by omega⟩)))⟩
  · have _q : True := trivial
    refine jx_if_eq (pc' := 7) (tg := 11) rfl rfl rfl (by omega) (by omega) (fun h10 => ?_) (fun h10 => ?_)
    · have _q := h10
      refine jx_ld (pc' := 12) (l' := [(0, .ref 66), (1, .int (i32 (x)))]) (st' := [.ref 66]) rfl (jl_aloadn rfl) ?_
      have b11 : (-2147483648 : Int) ≤ G 13 ∧ G 13 ≤ 2147483647 := hW.1 13
      refine jx_vr (pc' := 15) (as := []) (st := []) rfl rfl rfl rfl ⟨rfl, rfl, Nat.le_of_ble_eq_true rfl⟩ rfl rfl (c_operationAt (dd := d) (hd := by omega) (hW := hW)  (tk := tk0) (e_tk := show G 11 = tk0 from (e_tk0)) (tn := G 13) (e_tn := show G 13 = G 13 from rfl)    ) (fun o V' hq => ?_)
      obtain ⟨r12, rfl, rfl, b13, q14⟩ := hq
      refine .inr ⟨_, rfl, ?_⟩
      rcases q14 with rfl | a15
      · have _q : True := trivial
        refine jx_ld (pc' := 16) (l' := jSto1 [(0, .ref 66), (1, .int (i32 (x)))] 2 (.int (i32 (0)))) (st' := []) rfl rfl ?_
        obtain ⟨L16, eL16⟩ : ∃ q, q = jSto1 [(0, .ref 66), (1, .int (i32 (x)))] 2 (.int (i32 (0))) := ⟨_, rfl⟩
        rw [← eL16]
        have gL16_0 : jGet L16 0 = some (.ref 66) := eL16 ▸ jg_ne (by decide) (rfl : jGet [(0, .ref 66), (1, .int (i32 (x)))] 0 = some (.ref 66)) rfl
        have gL16_1 : jGet L16 1 = some (.int (i32 (x))) := eL16 ▸ jg_ne (by decide) (rfl : jGet [(0, .ref 66), (1, .int (i32 (x)))] 1 = some (.int (i32 (x)))) rfl
        have gL16_2 : jGet L16 2 = some (.int (i32 (0))) := eL16 ▸ jg_eq
        refine jx_ld (pc' := 17) (l' := L16) (st' := [.int (i32 (0))]) rfl (jl_iloadn gL16_2) ?_
        refine jx_if_ne (pc' := 20) (tg := 22) rfl rfl rfl (by omega) (by omega) (fun h17 => ?_) (fun h17 => ?_)
        · have _q := h17
          exact absurd h17 (by omega)
        · have _q := h17
          refine jx_ld (pc' := 21) (l' := L16) (st' := [.int (i32 (x))]) rfl (jl_iloadn gL16_1) ?_
          refine jx_rt (v := some (.int (i32 (x)))) rfl rfl rfl rfl rfl rfl ?_
          have z18 := tz_f (tk0)
          exact ⟨_, _, _, at0, fk, op0, nd, tk0, rfl, rfl, hW, hF0, by omega, (e_at0), (e_fk), (e_op0), (e_nd), (e_tk0), by omega, by omega, by omega, by omega, by omega, by omega, by first | exact Or.inl (⟨by omega, by omega, by omega, by omega, by omega, by omega⟩) | exact Or.inr (Or.inl (⟨by omega, by omega, by omega⟩)) | exact Or.inr (Or.inr ((⟨by omega, by omega, by omega⟩)))⟩
      · have _q : True := trivial
        refine jx_ld (pc' := 16) (l' := jSto1 [(0, .ref 66), (1, .int (i32 (x)))] 2 (.int (i32 (r12)))) (st' := []) rfl rfl ?_
        obtain ⟨L19, eL19⟩ : ∃ q, q = jSto1 [(0, .ref 66), (1, .int (i32 (x)))] 2 (.int (i32 (r12))) := ⟨_, rfl⟩
        rw [← eL19]
        have gL19_0 : jGet L19 0 = some (.ref 66) := eL19 ▸ jg_ne (by decide) (rfl : jGet [(0, .ref 66), (1, .int (i32 (x)))] 0 = some (.ref 66)) rfl
        have gL19_1 : jGet L19 1 = some (.int (i32 (x))) := eL19 ▸ jg_ne (by decide) (rfl : jGet [(0, .ref 66), (1, .int (i32 (x)))] 1 = some (.int (i32 (x)))) rfl
        have gL19_2 : jGet L19 2 = some (.int (i32 (r12))) := eL19 ▸ jg_eq
        refine jx_ld (pc' := 17) (l' := L19) (st' := [.int (i32 (r12))]) rfl (jl_iloadn gL19_2) ?_
        refine jx_if_ne (pc' := 20) (tg := 22) rfl rfl rfl (by omega) (by omega) (fun h20 => ?_) (fun h20 => ?_)
        · have _q := h20
          refine jx_ld (pc' := 23) (l' := L19) (st' := [.ref 66]) rfl (jl_aloadn gL19_0) ?_
          refine jx_vr (pc' := 26) (as := []) (st := []) rfl rfl rfl rfl ⟨rfl, rfl, Nat.le_of_ble_eq_true rfl⟩ rfl rfl (c_next (dd := d) (hd := by omega) (hW := hW)  (ln := ln) (e_ln := show G 9 = ln from (e_ln)) (le := le) (e_le := show A 4 (ln).toNat = le from (e_le)) (at0 := at0) (e_at0 := show G 10 = at0 from (e_at0))    (p_0 := by omega)) (fun o V' hq => ?_)
          obtain ⟨G21, A22, at2_23, tk2_24, rfl, rfl, hW25, hF26, e27, e28, p29, p30, p31, -⟩ := hq
          have hF33 := Fr_tr hF0 hF26 (Fr_sub (by decide)) (Fr_sub (by decide))
          have bat2_23 : (0 : Int) ≤ at2_23 ∧ at2_23 ≤ 3002 := e27 ▸ hW25.1 10
          have ztk2_24 := tz_b tk2_24
          have btk2_24 : (0 : Int) ≤ tk2_24 ∧ tk2_24 ≤ 5 := e28 ▸ hW25.1 11
          refine .inl ⟨rfl, ?_⟩
          refine jx_ld (pc' := 27) (l' := L19) (st' := [.ref 66]) rfl (jl_aloadn gL19_0) ?_
          refine jx_vr (pc' := 30) (as := []) (st := []) rfl rfl rfl rfl ⟨rfl, rfl, Nat.le_of_ble_eq_true rfl⟩ rfl rfl (c_readOperand (dd := d) (hE := hE) (hd := by omega) (hW := hW25)  (ln := ln) (e_ln := show G21 9 = ln from ((hF26.1 9 rfl).trans (e_ln))) (le := le) (e_le := show A22 4 (ln).toNat = le from (congrFun (hF26.2 4 rfl) _).trans (e_le)) (at0 := at2_23) (e_at0 := show G21 10 = at2_23 from (e27)) (fk := fk) (e_fk := show G21 16 = fk from ((hF26.1 16 rfl).trans (e_fk))) (op0 := op0) (e_op0 := show G21 15 = op0 from ((hF26.1 15 rfl).trans (e_op0))) (nd := nd) (e_nd := show G21 31 = nd from ((hF26.1 31 rfl).trans (e_nd))) (tk0 := tk2_24) (e_tk0 := show G21 11 = tk2_24 from (e28))    (p_0 := by omega) (p_1 := by omega) (p_2 := by omega) (p_3 := by omega) (p_4 := by omega) (p_5 := by omega)) (fun o V' hq => ?_)
          obtain ⟨G34, A35, r36, at2_37, fk2_38, op2_39, nd2_40, tk2_41, rfl, rfl, hW42, hF43, b44, e45, e46, e47, e48, e49, p50, p51, p52, p53, p54, p55, q56⟩ := hq
          have hF57 := Fr_tr hF33 hF43 (Fr_sub (by decide)) (Fr_sub (by decide))
          have bat2_37 : (0 : Int) ≤ at2_37 ∧ at2_37 ≤ 3002 := e45 ▸ hW42.1 10
          have bfk2_38 : (0 : Int) ≤ fk2_38 ∧ fk2_38 ≤ 6 := e46 ▸ hW42.1 16
          have bop2_39 : (-2147483648 : Int) ≤ op2_39 ∧ op2_39 ≤ 2147483647 := e47 ▸ hW42.1 15
          have bnd2_40 : (0 : Int) ≤ nd2_40 ∧ nd2_40 ≤ 6999 := e48 ▸ hW42.1 31
          have ztk2_41 := tz_b tk2_41
          have btk2_41 : (0 : Int) ≤ tk2_41 ∧ tk2_41 ≤ 5 := e49 ▸ hW42.1 11
          refine .inr ⟨_, rfl, ?_⟩
          rcases q56 with ⟨a58, a59, a60, a61, a62, a63⟩ | ⟨a64, a65, a66⟩ | ⟨a67, a68, a69⟩
          · have _q : True := trivial
            exfalso
            omega
          · have _q : True := trivial
            refine jx_ld (pc' := 31) (l' := jSto1 L19 3 (.int (i32 (r36)))) (st' := []) rfl rfl ?_
            obtain ⟨L70, eL70⟩ : ∃ q, q = jSto1 L19 3 (.int (i32 (r36))) := ⟨_, rfl⟩
            rw [← eL70]
            have gL70_0 : jGet L70 0 = some (.ref 66) := eL70 ▸ jg_ne (by decide) gL19_0 rfl
            have gL70_1 : jGet L70 1 = some (.int (i32 (x))) := eL70 ▸ jg_ne (by decide) gL19_1 rfl
            have gL70_2 : jGet L70 2 = some (.int (i32 (r12))) := eL70 ▸ jg_ne (by decide) gL19_2 rfl
            have gL70_3 : jGet L70 3 = some (.int (i32 (r36))) := eL70 ▸ jg_eq
            refine jx_ld (pc' := 32) (l' := L70) (st' := [.ref 66]) rfl (jl_aloadn gL70_0) ?_
            refine jx_ar (pc' := 33) (st' := [.int (i32 (4)), .ref 66]) rfl rfl rfl rfl ?_
            refine jx_ld (pc' := 34) (l' := L70) (st' := [.int (i32 (r12)), .int (i32 (4)), .ref 66]) rfl (jl_iloadn gL70_2) ?_
            refine jx_ld (pc' := 35) (l' := L70) (st' := [.int (i32 (x)), .int (i32 (r12)), .int (i32 (4)), .ref 66]) rfl (jl_iloadn gL70_1) ?_
            refine jx_ld (pc' := 36) (l' := L70) (st' := [.int (i32 (r36)), .int (i32 (x)), .int (i32 (r12)), .int (i32 (4)), .ref 66]) rfl (jl_iloadn gL70_3) ?_
            refine jx_ar (pc' := 37) (st' := [.int (i32 (0)), .int (i32 (r36)), .int (i32 (x)), .int (i32 (r12)), .int (i32 (4)), .ref 66]) rfl rfl rfl rfl ?_
            refine jx_vr (pc' := 40) (as := [.int (i32 (4)), .int (i32 (r12)), .int (i32 (x)), .int (i32 (r36)), .int (i32 (0))]) (st := []) rfl rfl rfl rfl ⟨rfl, rfl, Nat.le_of_ble_eq_true rfl⟩ rfl rfl (c_node (dd := d) (hd := by omega) (hW := hW42) (kind := 4) (a := r12) (b := x) (c := r36) (e := 0) (nd := nd2_40) (e_nd := show G34 31 = nd2_40 from (e48))  (h_kind := by omega) (h_a := by omega) (h_b := by omega) (h_c := by omega) (h_e := by omega)  (p_0 := by omega) (p_1 := by omega)) (fun o V' hq => ?_)
            obtain ⟨G71, A72, r73, nd2_74, rfl, rfl, hW75, hF76, b77, e78, p79, p80, -⟩ := hq
            have hF82 := Fr_tr hF57 hF76 (Fr_sub (by decide)) (Fr_sub (by decide))
            have bnd2_74 : (0 : Int) ≤ nd2_74 ∧ nd2_74 ≤ 6999 := e78 ▸ hW75.1 31
            refine .inr ⟨_, rfl, ?_⟩
            refine jx_rt (v := some (.int (i32 (r73)))) rfl rfl rfl rfl rfl rfl ?_
            have z83 := tz_f (tk2_41)
            exact ⟨_, _, _, at2_37, fk2_38, op2_39, nd2_74, tk2_41, rfl, rfl, hW75, hF82, by omega, ((hF76.1 10 rfl).trans (e45)), ((hF76.1 16 rfl).trans (e46)), ((hF76.1 15 rfl).trans (e47)), (e78), ((hF76.1 11 rfl).trans (e49)), by omega, by omega, by omega, by omega, by omega, by omega, by first | exact Or.inl (⟨by omega, by omega, by omega, by omega, by omega, by omega⟩) | exact Or.inr (Or.inl (⟨by omega, by omega, by omega⟩)) | exact Or.inr (Or.inr ((⟨by omega, by omega, by omega⟩)))⟩
          · have _q : True := trivial
            refine jx_ld (pc' := 31) (l' := jSto1 L19 3 (.int (i32 (r36)))) (st' := []) rfl rfl ?_
            obtain ⟨L84, eL84⟩ : ∃ q, q = jSto1 L19 3 (.int (i32 (r36))) := ⟨_, rfl⟩
            rw [← eL84]
            have gL84_0 : jGet L84 0 = some (.ref 66) := eL84 ▸ jg_ne (by decide) gL19_0 rfl
            have gL84_1 : jGet L84 1 = some (.int (i32 (x))) := eL84 ▸ jg_ne (by decide) gL19_1 rfl
            have gL84_2 : jGet L84 2 = some (.int (i32 (r12))) := eL84 ▸ jg_ne (by decide) gL19_2 rfl
            have gL84_3 : jGet L84 3 = some (.int (i32 (r36))) := eL84 ▸ jg_eq
            refine jx_ld (pc' := 32) (l' := L84) (st' := [.ref 66]) rfl (jl_aloadn gL84_0) ?_
            refine jx_ar (pc' := 33) (st' := [.int (i32 (4)), .ref 66]) rfl rfl rfl rfl ?_
            refine jx_ld (pc' := 34) (l' := L84) (st' := [.int (i32 (r12)), .int (i32 (4)), .ref 66]) rfl (jl_iloadn gL84_2) ?_
            refine jx_ld (pc' := 35) (l' := L84) (st' := [.int (i32 (x)), .int (i32 (r12)), .int (i32 (4)), .ref 66]) rfl (jl_iloadn gL84_1) ?_
            refine jx_ld (pc' := 36) (l' := L84) (st' := [.int (i32 (r36)), .int (i32 (x)), .int (i32 (r12)), .int (i32 (4)), .ref 66]) rfl (jl_iloadn gL84_3) ?_
            refine jx_ar (pc' := 37) (st' := [.int (i32 (0)), .int (i32 (r36)), .int (i32 (x)), .int (i32 (r12)), .int (i32 (4)), .ref 66]) rfl rfl rfl rfl ?_
            refine jx_vr (pc' := 40) (as := [.int (i32 (4)), .int (i32 (r12)), .int (i32 (x)), .int (i32 (r36)), .int (i32 (0))]) (st := []) rfl rfl rfl rfl ⟨rfl, rfl, Nat.le_of_ble_eq_true rfl⟩ rfl rfl (c_node (dd := d) (hd := by omega) (hW := hW42) (kind := 4) (a := r12) (b := x) (c := r36) (e := 0) (nd := nd2_40) (e_nd := show G34 31 = nd2_40 from (e48))  (h_kind := by omega) (h_a := by omega) (h_b := by omega) (h_c := by omega) (h_e := by omega)  (p_0 := by omega) (p_1 := by omega)) (fun o V' hq => ?_)
            obtain ⟨G85, A86, r87, nd2_88, rfl, rfl, hW89, hF90, b91, e92, p93, p94, -⟩ := hq
            have hF96 := Fr_tr hF57 hF90 (Fr_sub (by decide)) (Fr_sub (by decide))
            have bnd2_88 : (0 : Int) ≤ nd2_88 ∧ nd2_88 ≤ 6999 := e92 ▸ hW89.1 31
            refine .inr ⟨_, rfl, ?_⟩
            refine jx_rt (v := some (.int (i32 (r87)))) rfl rfl rfl rfl rfl rfl ?_
            have z97 := tz_f (tk2_41)
            exact ⟨_, _, _, at2_37, fk2_38, op2_39, nd2_88, tk2_41, rfl, rfl, hW89, hF96, by omega, ((hF90.1 10 rfl).trans (e45)), ((hF90.1 16 rfl).trans (e46)), ((hF90.1 15 rfl).trans (e47)), (e92), ((hF90.1 11 rfl).trans (e49)), by omega, by omega, by omega, by omega, by omega, by omega, by first | exact Or.inl (⟨by omega, by omega, by omega, by omega, by omega, by omega⟩) | exact Or.inr (Or.inl (⟨by omega, by omega, by omega⟩)) | exact Or.inr (Or.inr ((⟨by omega, by omega, by omega⟩)))⟩
        · have _q := h20
          refine jx_ld (pc' := 21) (l' := L19) (st' := [.int (i32 (x))]) rfl (jl_iloadn gL19_1) ?_
          refine jx_rt (v := some (.int (i32 (x)))) rfl rfl rfl rfl rfl rfl ?_
          have z98 := tz_f (tk0)
          exact ⟨_, _, _, at0, fk, op0, nd, tk0, rfl, rfl, hW, hF0, by omega, (e_at0), (e_fk), (e_op0), (e_nd), (e_tk0), by omega, by omega, by omega, by omega, by omega, by omega, by first | exact Or.inl (⟨by omega, by omega, by omega, by omega, by omega, by omega⟩) | exact Or.inr (Or.inl (⟨by omega, by omega, by omega⟩)) | exact Or.inr (Or.inr ((⟨by omega, by omega, by omega⟩)))⟩
    · have _q := h10
      exact absurd h10 (by omega)
set_option maxRecDepth 20000 in
set_option maxHeartbeats 4000000 in
theorem c_readE_s {X : jX} {k : Nat} (hE : RE X k) {dd : Nat} {c0 c1 : jC} {G : Nat → Int} {A : Nat → Nat → Int} {T : jH} {ln le at0 fk op0 nd tk0 : Int} (hd : 6 * (k + 1) + 10 ≤ dd) (hW : Wk G A) (e_ln : G 9 = ln) (e_le : A 4 (ln).toNat = le) (e_at0 : G 10 = at0) (e_fk : G 16 = fk) (e_op0 : G 15 = op0) (e_nd : G 31 = nd) (e_tk0 : G 11 = tk0) (p_0 : 0 ≤ op0) (p_1 : op0 ≤ 9) (p_2 : op0 ≤ 8 ∨ 1 ≤ fk) (p_3 : 9 - op0 ≤ ((k + 1 : Nat) : Int) ∨ 1 ≤ fk) (p_4 : nd ≤ 2 * at0 - tz tk0 + 50) (p_5 : at0 ≤ le) : wk X dd 286 [.ref 66] (rV c0 c1 G A T) (fun o V' => ∃ (G' : Nat → Int) (A' : Nat → Nat → Int) (r : Int) (at2 : Int) (fk2 : Int) (op2 : Int) (nd2 : Int) (tk2 : Int), V' = rV c0 c1 G' A' T ∧ o = .inl (some (.int (i32 r))) ∧ Wk G' A' ∧ Fr [10, 11, 12, 13, 14, 15, 16, 17, 18, 31] [15, 16, 17, 18, 19, 20, 21, 22, 24, 28] G A G' A' ∧ ((-2147483648 : Int) ≤ r ∧ r ≤ 2147483647) ∧ G' 10 = at2 ∧ G' 16 = fk2 ∧ G' 15 = op2 ∧ G' 31 = nd2 ∧ G' 11 = tk2 ∧ (at0 ≤ at2) ∧ (at2 ≤ le) ∧ (nd ≤ nd2) ∧ (op2 = op0) ∧ (0 ≤ r) ∧ (r ≤ nd2) ∧ (((1 ≤ fk) ∧ (1 ≤ fk2) ∧ (nd2 = nd) ∧ (at2 = at0) ∧ (tk2 = tk0) ∧ (tz tk2 = tz tk0)) ∨ ((fk = 0) ∧ (1 ≤ fk2) ∧ (nd2 - nd ≤ (2 * at2 - tz tk2) - (2 * at0 - tz tk0) + 1)) ∨ ((fk = 0) ∧ (fk2 = 0) ∧ (nd2 - nd ≤ (2 * at2 - tz tk2) - (2 * at0 - tz tk0))))) := by
  obtain ⟨d, rfl⟩ : ∃ d, dd = d + 1 := ⟨dd - 1, by omega⟩
  refine wk_of (e := jm286) rfl (Nat.le_of_ble_eq_true rfl) ?_
  show wj X d jm286 (0, [(0, .ref 66)], [], rV c0 c1 G A T) _
  have hF0 : Fr [10, 11, 12, 13, 14, 15, 16, 17, 18, 31] [15, 16, 17, 18, 19, 20, 21, 22, 24, 28] G A G A := Fr_rf
  have b_ln : (0 : Int) ≤ ln ∧ ln ≤ 3000 := e_ln ▸ hW.1 9
  have b_le : (0 : Int) ≤ le ∧ le ≤ 3000 := e_le ▸ hW.2 4 _
  have b_at0 : (0 : Int) ≤ at0 ∧ at0 ≤ 3002 := e_at0 ▸ hW.1 10
  have b_fk : (0 : Int) ≤ fk ∧ fk ≤ 6 := e_fk ▸ hW.1 16
  have b_op0 : (-2147483648 : Int) ≤ op0 ∧ op0 ≤ 2147483647 := e_op0 ▸ hW.1 15
  have b_nd : (0 : Int) ≤ nd ∧ nd ≤ 6999 := e_nd ▸ hW.1 31
  have z_tk0 := tz_f tk0
  have b_tk0 : (0 : Int) ≤ tk0 ∧ tk0 ≤ 5 := e_tk0 ▸ hW.1 11
  refine jx_ld (pc' := 1) (l' := [(0, .ref 66)]) (st' := [.ref 66]) rfl (jl_aloadn rfl) ?_
  refine jx_vr (pc' := 4) (as := []) (st := []) rfl rfl rfl rfl ⟨rfl, rfl, Nat.le_of_ble_eq_true rfl⟩ rfl rfl (c_bad (dd := d) (hd := by omega) (hW := hW)  (fk := fk) (e_fk := show G 16 = fk from (e_fk))    ) (fun o V' hq => ?_)
  obtain ⟨r1, rfl, rfl, b2, q3⟩ := hq
  refine .inr ⟨_, rfl, ?_⟩
  rcases q3 with ⟨rfl, a4⟩ | ⟨rfl, a5⟩
  · have _q : True := trivial
    refine jx_if_eq (pc' := 7) (tg := 9) rfl rfl rfl (by omega) (by omega) (fun h6 => ?_) (fun h6 => ?_)
    · have _q := h6
      exact absurd h6 (by omega)
    · have _q := h6
      refine jx_ar (pc' := 8) (st' := [.int (i32 (0))]) rfl rfl rfl rfl ?_
      refine jx_rt (v := some (.int (i32 (0)))) rfl rfl rfl rfl rfl rfl ?_
      have z7 := tz_f (tk0)
      exact ⟨_, _, _, at0, fk, op0, nd, tk0, rfl, rfl, hW, hF0, by omega, (e_at0), (e_fk), (e_op0), (e_nd), (e_tk0), by omega, by omega, by omega, by omega, by omega, by omega, by first | exact Or.inl (⟨by omega, by omega, by omega, by omega, by omega, by omega⟩) | exact Or.inr (Or.inl (⟨by omega, by omega, by omega⟩)) | exact Or.inr (Or.inr ((⟨by omega, by omega, by omega⟩)))⟩
  · have _q : True := trivial
    refine jx_if_eq (pc' := 7) (tg := 9) rfl rfl rfl (by omega) (by omega) (fun h8 => ?_) (fun h8 => ?_)
    · have _q := h8
      refine jx_ld (pc' := 10) (l' := [(0, .ref 66)]) (st' := [.ref 66]) rfl (jl_aloadn rfl) ?_
      refine jx_ar (pc' := 12) (st' := [.int (i32 (45)), .ref 66]) rfl rfl rfl rfl ?_
      have b9 : (-2147483648 : Int) ≤ G 13 ∧ G 13 ≤ 2147483647 := hW.1 13
      refine jx_vr (pc' := 15) (as := [.int (i32 (45))]) (st := []) rfl rfl rfl rfl ⟨rfl, rfl, Nat.le_of_ble_eq_true rfl⟩ rfl rfl (c_is (dd := d) (hd := by omega) (hW := hW) (k := 45) (tk := tk0) (e_tk := show G 11 = tk0 from (e_tk0)) (tn := G 13) (e_tn := show G 13 = G 13 from rfl)  (h_k := by omega)  ) (fun o V' hq => ?_)
      obtain ⟨r10, rfl, rfl, b11, q12⟩ := hq
      refine .inr ⟨_, rfl, ?_⟩
      rcases q12 with ⟨rfl, a13, a14, a15⟩ | rfl
      · have _q : True := trivial
        refine jx_if_ne (pc' := 18) (tg := 27) rfl rfl rfl (by omega) (by omega) (fun h16 => ?_) (fun h16 => ?_)
        · have _q := h16
          refine jx_ld (pc' := 28) (l' := [(0, .ref 66)]) (st' := [.ref 66]) rfl (jl_aloadn rfl) ?_
          refine jx_ar (pc' := 30) (st' := [.int (i32 (45)), .ref 66]) rfl rfl rfl rfl ?_
          refine jx_vr (pc' := 33) (as := [.int (i32 (45))]) (st := []) rfl rfl rfl rfl ⟨rfl, rfl, Nat.le_of_ble_eq_true rfl⟩ rfl rfl (c_is (dd := d) (hd := by omega) (hW := hW) (k := 45) (tk := tk0) (e_tk := show G 11 = tk0 from (e_tk0)) (tn := G 13) (e_tn := show G 13 = G 13 from rfl)  (h_k := by omega)  ) (fun o V' hq => ?_)
          obtain ⟨r17, rfl, rfl, b18, q19⟩ := hq
          refine .inr ⟨_, rfl, ?_⟩
          rcases q19 with ⟨rfl, a20, a21, a22⟩ | rfl
          · have _q : True := trivial
            refine jx_if_eq (pc' := 36) (tg := 40) rfl rfl rfl (by omega) (by omega) (fun h23 => ?_) (fun h23 => ?_)
            · have _q := h23
              exact absurd h23 (by omega)
            · have _q := h23
              refine jx_ar (pc' := 37) (st' := [.int (i32 (5))]) rfl rfl rfl rfl ?_
              refine jx_go (tg := 42) rfl rfl ?_
              refine jx_ld (pc' := 43) (l' := jSto1 [(0, .ref 66)] 1 (.int (i32 (5)))) (st' := []) rfl rfl ?_
              obtain ⟨L24, eL24⟩ : ∃ q, q = jSto1 [(0, .ref 66)] 1 (.int (i32 (5))) := ⟨_, rfl⟩
              rw [← eL24]
              have gL24_0 : jGet L24 0 = some (.ref 66) := eL24 ▸ jg_ne (by decide) (rfl : jGet [(0, .ref 66)] 0 = some (.ref 66)) rfl
              have gL24_1 : jGet L24 1 = some (.int (i32 (5))) := eL24 ▸ jg_eq
              refine jx_ld (pc' := 44) (l' := L24) (st' := [.ref 66]) rfl (jl_aloadn gL24_0) ?_
              refine jx_vr (pc' := 47) (as := []) (st := []) rfl rfl rfl rfl ⟨rfl, rfl, Nat.le_of_ble_eq_true rfl⟩ rfl rfl (c_next (dd := d) (hd := by omega) (hW := hW)  (ln := ln) (e_ln := show G 9 = ln from (e_ln)) (le := le) (e_le := show A 4 (ln).toNat = le from (e_le)) (at0 := at0) (e_at0 := show G 10 = at0 from (e_at0))    (p_0 := by omega)) (fun o V' hq => ?_)
              obtain ⟨G25, A26, at2_27, tk2_28, rfl, rfl, hW29, hF30, e31, e32, p33, p34, p35, -⟩ := hq
              have hF37 := Fr_tr hF0 hF30 (Fr_sub (by decide)) (Fr_sub (by decide))
              have bat2_27 : (0 : Int) ≤ at2_27 ∧ at2_27 ≤ 3002 := e31 ▸ hW29.1 10
              have ztk2_28 := tz_b tk2_28
              have btk2_28 : (0 : Int) ≤ tk2_28 ∧ tk2_28 ≤ 5 := e32 ▸ hW29.1 11
              refine .inl ⟨rfl, ?_⟩
              refine jx_ld (pc' := 48) (l' := L24) (st' := [.ref 66]) rfl (jl_aloadn gL24_0) ?_
              refine jx_vr (pc' := 51) (as := []) (st := []) rfl rfl rfl rfl ⟨rfl, rfl, Nat.le_of_ble_eq_true rfl⟩ rfl rfl (c_readOperand (dd := d) (hE := hE) (hd := by omega) (hW := hW29)  (ln := ln) (e_ln := show G25 9 = ln from ((hF30.1 9 rfl).trans (e_ln))) (le := le) (e_le := show A26 4 (ln).toNat = le from (congrFun (hF30.2 4 rfl) _).trans (e_le)) (at0 := at2_27) (e_at0 := show G25 10 = at2_27 from (e31)) (fk := fk) (e_fk := show G25 16 = fk from ((hF30.1 16 rfl).trans (e_fk))) (op0 := op0) (e_op0 := show G25 15 = op0 from ((hF30.1 15 rfl).trans (e_op0))) (nd := nd) (e_nd := show G25 31 = nd from ((hF30.1 31 rfl).trans (e_nd))) (tk0 := tk2_28) (e_tk0 := show G25 11 = tk2_28 from (e32))    (p_0 := by omega) (p_1 := by omega) (p_2 := by omega) (p_3 := by omega) (p_4 := by omega) (p_5 := by omega)) (fun o V' hq => ?_)
              obtain ⟨G38, A39, r40, at2_41, fk2_42, op2_43, nd2_44, tk2_45, rfl, rfl, hW46, hF47, b48, e49, e50, e51, e52, e53, p54, p55, p56, p57, p58, p59, q60⟩ := hq
              have hF61 := Fr_tr hF37 hF47 (Fr_sub (by decide)) (Fr_sub (by decide))
              have bat2_41 : (0 : Int) ≤ at2_41 ∧ at2_41 ≤ 3002 := e49 ▸ hW46.1 10
              have bfk2_42 : (0 : Int) ≤ fk2_42 ∧ fk2_42 ≤ 6 := e50 ▸ hW46.1 16
              have bop2_43 : (-2147483648 : Int) ≤ op2_43 ∧ op2_43 ≤ 2147483647 := e51 ▸ hW46.1 15
              have bnd2_44 : (0 : Int) ≤ nd2_44 ∧ nd2_44 ≤ 6999 := e52 ▸ hW46.1 31
              have ztk2_45 := tz_b tk2_45
              have btk2_45 : (0 : Int) ≤ tk2_45 ∧ tk2_45 ≤ 5 := e53 ▸ hW46.1 11
              refine .inr ⟨_, rfl, ?_⟩
              rcases q60 with ⟨a62, a63, a64, a65, a66, a67⟩ | ⟨a68, a69, a70⟩ | ⟨a71, a72, a73⟩
              · have _q : True := trivial
                exfalso
                omega
              · have _q : True := trivial
                refine jx_ld (pc' := 52) (l' := jSto1 L24 2 (.int (i32 (r40)))) (st' := []) rfl rfl ?_
                obtain ⟨L74, eL74⟩ : ∃ q, q = jSto1 L24 2 (.int (i32 (r40))) := ⟨_, rfl⟩
                rw [← eL74]
                have gL74_0 : jGet L74 0 = some (.ref 66) := eL74 ▸ jg_ne (by decide) gL24_0 rfl
                have gL74_1 : jGet L74 1 = some (.int (i32 (5))) := eL74 ▸ jg_ne (by decide) gL24_1 rfl
                have gL74_2 : jGet L74 2 = some (.int (i32 (r40))) := eL74 ▸ jg_eq
                refine jx_ld (pc' := 53) (l' := L74) (st' := [.ref 66]) rfl (jl_aloadn gL74_0) ?_
                refine jx_ld (pc' := 54) (l' := L74) (st' := [.int (i32 (5)), .ref 66]) rfl (jl_iloadn gL74_1) ?_
                refine jx_ld (pc' := 55) (l' := L74) (st' := [.int (i32 (r40)), .int (i32 (5)), .ref 66]) rfl (jl_iloadn gL74_2) ?_
                refine jx_ar (pc' := 56) (st' := [.int (i32 (0)), .int (i32 (r40)), .int (i32 (5)), .ref 66]) rfl rfl rfl rfl ?_
                refine jx_ar (pc' := 57) (st' := [.int (i32 (0)), .int (i32 (0)), .int (i32 (r40)), .int (i32 (5)), .ref 66]) rfl rfl rfl rfl ?_
                refine jx_ar (pc' := 58) (st' := [.int (i32 (0)), .int (i32 (0)), .int (i32 (0)), .int (i32 (r40)), .int (i32 (5)), .ref 66]) rfl rfl rfl rfl ?_
                refine jx_vr (pc' := 61) (as := [.int (i32 (5)), .int (i32 (r40)), .int (i32 (0)), .int (i32 (0)), .int (i32 (0))]) (st := []) rfl rfl rfl rfl ⟨rfl, rfl, Nat.le_of_ble_eq_true rfl⟩ rfl rfl (c_node (dd := d) (hd := by omega) (hW := hW46) (kind := 5) (a := r40) (b := 0) (c := 0) (e := 0) (nd := nd2_44) (e_nd := show G38 31 = nd2_44 from (e52))  (h_kind := by omega) (h_a := by omega) (h_b := by omega) (h_c := by omega) (h_e := by omega)  (p_0 := by omega) (p_1 := by omega)) (fun o V' hq => ?_)
                obtain ⟨G75, A76, r77, nd2_78, rfl, rfl, hW79, hF80, b81, e82, p83, p84, -⟩ := hq
                have hF86 := Fr_tr hF61 hF80 (Fr_sub (by decide)) (Fr_sub (by decide))
                have bnd2_78 : (0 : Int) ≤ nd2_78 ∧ nd2_78 ≤ 6999 := e82 ▸ hW79.1 31
                refine .inr ⟨_, rfl, ?_⟩
                refine jx_rt (v := some (.int (i32 (r77)))) rfl rfl rfl rfl rfl rfl ?_
                have z87 := tz_f (tk2_45)
                exact ⟨_, _, _, at2_41, fk2_42, op2_43, nd2_78, tk2_45, rfl, rfl, hW79, hF86, by omega, ((hF80.1 10 rfl).trans (e49)), ((hF80.1 16 rfl).trans (e50)), ((hF80.1 15 rfl).trans (e51)), (e82), ((hF80.1 11 rfl).trans (e53)), by omega, by omega, by omega, by omega, by omega, by omega, by first | exact Or.inl (⟨by omega, by omega, by omega, by omega, by omega, by omega⟩) | exact Or.inr (Or.inl (⟨by omega, by omega, by omega⟩)) | exact Or.inr (Or.inr ((⟨by omega, by omega, by omega⟩)))⟩
              · have _q : True := trivial
                refine jx_ld (pc' := 52) (l' := jSto1 L24 2 (.int (i32 (r40)))) (st' := []) rfl rfl ?_
                obtain ⟨L88, eL88⟩ : ∃ q, q = jSto1 L24 2 (.int (i32 (r40))) := ⟨_, rfl⟩
                rw [← eL88]
                have gL88_0 : jGet L88 0 = some (.ref 66) := eL88 ▸ jg_ne (by decide) gL24_0 rfl
                have gL88_1 : jGet L88 1 = some (.int (i32 (5))) := eL88 ▸ jg_ne (by decide) gL24_1 rfl
                have gL88_2 : jGet L88 2 = some (.int (i32 (r40))) := eL88 ▸ jg_eq
                refine jx_ld (pc' := 53) (l' := L88) (st' := [.ref 66]) rfl (jl_aloadn gL88_0) ?_
                refine jx_ld (pc' := 54) (l' := L88) (st' := [.int (i32 (5)), .ref 66]) rfl (jl_iloadn gL88_1) ?_
                refine jx_ld (pc' := 55) (l' := L88) (st' := [.int (i32 (r40)), .int (i32 (5)), .ref 66]) rfl (jl_iloadn gL88_2) ?_
                refine jx_ar (pc' := 56) (st' := [.int (i32 (0)), .int (i32 (r40)), .int (i32 (5)), .ref 66]) rfl rfl rfl rfl ?_
                refine jx_ar (pc' := 57) (st' := [.int (i32 (0)), .int (i32 (0)), .int (i32 (r40)), .int (i32 (5)), .ref 66]) rfl rfl rfl rfl ?_
                refine jx_ar (pc' := 58) (st' := [.int (i32 (0)), .int (i32 (0)), .int (i32 (0)), .int (i32 (r40)), .int (i32 (5)), .ref 66]) rfl rfl rfl rfl ?_
                refine jx_vr (pc' := 61) (as := [.int (i32 (5)), .int (i32 (r40)), .int (i32 (0)), .int (i32 (0)), .int (i32 (0))]) (st := []) rfl rfl rfl rfl ⟨rfl, rfl, Nat.le_of_ble_eq_true rfl⟩ rfl rfl (c_node (dd := d) (hd := by omega) (hW := hW46) (kind := 5) (a := r40) (b := 0) (c := 0) (e := 0) (nd := nd2_44) (e_nd := show G38 31 = nd2_44 from (e52))  (h_kind := by omega) (h_a := by omega) (h_b := by omega) (h_c := by omega) (h_e := by omega)  (p_0 := by omega) (p_1 := by omega)) (fun o V' hq => ?_)
                obtain ⟨G89, A90, r91, nd2_92, rfl, rfl, hW93, hF94, b95, e96, p97, p98, -⟩ := hq
                have hF100 := Fr_tr hF61 hF94 (Fr_sub (by decide)) (Fr_sub (by decide))
                have bnd2_92 : (0 : Int) ≤ nd2_92 ∧ nd2_92 ≤ 6999 := e96 ▸ hW93.1 31
                refine .inr ⟨_, rfl, ?_⟩
                refine jx_rt (v := some (.int (i32 (r91)))) rfl rfl rfl rfl rfl rfl ?_
                have z101 := tz_f (tk2_45)
                exact ⟨_, _, _, at2_41, fk2_42, op2_43, nd2_92, tk2_45, rfl, rfl, hW93, hF100, by omega, ((hF94.1 10 rfl).trans (e49)), ((hF94.1 16 rfl).trans (e50)), ((hF94.1 15 rfl).trans (e51)), (e96), ((hF94.1 11 rfl).trans (e53)), by omega, by omega, by omega, by omega, by omega, by omega, by first | exact Or.inl (⟨by omega, by omega, by omega, by omega, by omega, by omega⟩) | exact Or.inr (Or.inl (⟨by omega, by omega, by omega⟩)) | exact Or.inr (Or.inr ((⟨by omega, by omega, by omega⟩)))⟩
          · have _q : True := trivial
            refine jx_if_eq (pc' := 36) (tg := 40) rfl rfl rfl (by omega) (by omega) (fun h102 => ?_) (fun h102 => ?_)
            · have _q := h102
              refine jx_ar (pc' := 42) (st' := [.int (i32 (6))]) rfl rfl rfl rfl ?_
              refine jx_ld (pc' := 43) (l' := jSto1 [(0, .ref 66)] 1 (.int (i32 (6)))) (st' := []) rfl rfl ?_
              obtain ⟨L103, eL103⟩ : ∃ q, q = jSto1 [(0, .ref 66)] 1 (.int (i32 (6))) := ⟨_, rfl⟩
              rw [← eL103]
              have gL103_0 : jGet L103 0 = some (.ref 66) := eL103 ▸ jg_ne (by decide) (rfl : jGet [(0, .ref 66)] 0 = some (.ref 66)) rfl
              have gL103_1 : jGet L103 1 = some (.int (i32 (6))) := eL103 ▸ jg_eq
              refine jx_ld (pc' := 44) (l' := L103) (st' := [.ref 66]) rfl (jl_aloadn gL103_0) ?_
              refine jx_vr (pc' := 47) (as := []) (st := []) rfl rfl rfl rfl ⟨rfl, rfl, Nat.le_of_ble_eq_true rfl⟩ rfl rfl (c_next (dd := d) (hd := by omega) (hW := hW)  (ln := ln) (e_ln := show G 9 = ln from (e_ln)) (le := le) (e_le := show A 4 (ln).toNat = le from (e_le)) (at0 := at0) (e_at0 := show G 10 = at0 from (e_at0))    (p_0 := by omega)) (fun o V' hq => ?_)
              obtain ⟨G104, A105, at2_106, tk2_107, rfl, rfl, hW108, hF109, e110, e111, p112, p113, p114, -⟩ := hq
              have hF116 := Fr_tr hF0 hF109 (Fr_sub (by decide)) (Fr_sub (by decide))
              have bat2_106 : (0 : Int) ≤ at2_106 ∧ at2_106 ≤ 3002 := e110 ▸ hW108.1 10
              have ztk2_107 := tz_b tk2_107
              have btk2_107 : (0 : Int) ≤ tk2_107 ∧ tk2_107 ≤ 5 := e111 ▸ hW108.1 11
              refine .inl ⟨rfl, ?_⟩
              refine jx_ld (pc' := 48) (l' := L103) (st' := [.ref 66]) rfl (jl_aloadn gL103_0) ?_
              refine jx_vr (pc' := 51) (as := []) (st := []) rfl rfl rfl rfl ⟨rfl, rfl, Nat.le_of_ble_eq_true rfl⟩ rfl rfl (c_readOperand (dd := d) (hE := hE) (hd := by omega) (hW := hW108)  (ln := ln) (e_ln := show G104 9 = ln from ((hF109.1 9 rfl).trans (e_ln))) (le := le) (e_le := show A105 4 (ln).toNat = le from (congrFun (hF109.2 4 rfl) _).trans (e_le)) (at0 := at2_106) (e_at0 := show G104 10 = at2_106 from (e110)) (fk := fk) (e_fk := show G104 16 = fk from ((hF109.1 16 rfl).trans (e_fk))) (op0 := op0) (e_op0 := show G104 15 = op0 from ((hF109.1 15 rfl).trans (e_op0))) (nd := nd) (e_nd := show G104 31 = nd from ((hF109.1 31 rfl).trans (e_nd))) (tk0 := tk2_107) (e_tk0 := show G104 11 = tk2_107 from (e111))    (p_0 := by omega) (p_1 := by omega) (p_2 := by omega) (p_3 := by omega) (p_4 := by omega) (p_5 := by omega)) (fun o V' hq => ?_)
              obtain ⟨G117, A118, r119, at2_120, fk2_121, op2_122, nd2_123, tk2_124, rfl, rfl, hW125, hF126, b127, e128, e129, e130, e131, e132, p133, p134, p135, p136, p137, p138, q139⟩ := hq
              have hF140 := Fr_tr hF116 hF126 (Fr_sub (by decide)) (Fr_sub (by decide))
              have bat2_120 : (0 : Int) ≤ at2_120 ∧ at2_120 ≤ 3002 := e128 ▸ hW125.1 10
              have bfk2_121 : (0 : Int) ≤ fk2_121 ∧ fk2_121 ≤ 6 := e129 ▸ hW125.1 16
              have bop2_122 : (-2147483648 : Int) ≤ op2_122 ∧ op2_122 ≤ 2147483647 := e130 ▸ hW125.1 15
              have bnd2_123 : (0 : Int) ≤ nd2_123 ∧ nd2_123 ≤ 6999 := e131 ▸ hW125.1 31
              have ztk2_124 := tz_b tk2_124
              have btk2_124 : (0 : Int) ≤ tk2_124 ∧ tk2_124 ≤ 5 := e132 ▸ hW125.1 11
              refine .inr ⟨_, rfl, ?_⟩
              rcases q139 with ⟨a141, a142, a143, a144, a145, a146⟩ | ⟨a147, a148, a149⟩ | ⟨a150, a151, a152⟩
              · have _q : True := trivial
                exfalso
                omega
              · have _q : True := trivial
                refine jx_ld (pc' := 52) (l' := jSto1 L103 2 (.int (i32 (r119)))) (st' := []) rfl rfl ?_
                obtain ⟨L153, eL153⟩ : ∃ q, q = jSto1 L103 2 (.int (i32 (r119))) := ⟨_, rfl⟩
                rw [← eL153]
                have gL153_0 : jGet L153 0 = some (.ref 66) := eL153 ▸ jg_ne (by decide) gL103_0 rfl
                have gL153_1 : jGet L153 1 = some (.int (i32 (6))) := eL153 ▸ jg_ne (by decide) gL103_1 rfl
                have gL153_2 : jGet L153 2 = some (.int (i32 (r119))) := eL153 ▸ jg_eq
                refine jx_ld (pc' := 53) (l' := L153) (st' := [.ref 66]) rfl (jl_aloadn gL153_0) ?_
                refine jx_ld (pc' := 54) (l' := L153) (st' := [.int (i32 (6)), .ref 66]) rfl (jl_iloadn gL153_1) ?_
                refine jx_ld (pc' := 55) (l' := L153) (st' := [.int (i32 (r119)), .int (i32 (6)), .ref 66]) rfl (jl_iloadn gL153_2) ?_
                refine jx_ar (pc' := 56) (st' := [.int (i32 (0)), .int (i32 (r119)), .int (i32 (6)), .ref 66]) rfl rfl rfl rfl ?_
                refine jx_ar (pc' := 57) (st' := [.int (i32 (0)), .int (i32 (0)), .int (i32 (r119)), .int (i32 (6)), .ref 66]) rfl rfl rfl rfl ?_
                refine jx_ar (pc' := 58) (st' := [.int (i32 (0)), .int (i32 (0)), .int (i32 (0)), .int (i32 (r119)), .int (i32 (6)), .ref 66]) rfl rfl rfl rfl ?_
                refine jx_vr (pc' := 61) (as := [.int (i32 (6)), .int (i32 (r119)), .int (i32 (0)), .int (i32 (0)), .int (i32 (0))]) (st := []) rfl rfl rfl rfl ⟨rfl, rfl, Nat.le_of_ble_eq_true rfl⟩ rfl rfl (c_node (dd := d) (hd := by omega) (hW := hW125) (kind := 6) (a := r119) (b := 0) (c := 0) (e := 0) (nd := nd2_123) (e_nd := show G117 31 = nd2_123 from (e131))  (h_kind := by omega) (h_a := by omega) (h_b := by omega) (h_c := by omega) (h_e := by omega)  (p_0 := by omega) (p_1 := by omega)) (fun o V' hq => ?_)
                obtain ⟨G154, A155, r156, nd2_157, rfl, rfl, hW158, hF159, b160, e161, p162, p163, -⟩ := hq
                have hF165 := Fr_tr hF140 hF159 (Fr_sub (by decide)) (Fr_sub (by decide))
                have bnd2_157 : (0 : Int) ≤ nd2_157 ∧ nd2_157 ≤ 6999 := e161 ▸ hW158.1 31
                refine .inr ⟨_, rfl, ?_⟩
                refine jx_rt (v := some (.int (i32 (r156)))) rfl rfl rfl rfl rfl rfl ?_
                have z166 := tz_f (tk2_124)
                exact ⟨_, _, _, at2_120, fk2_121, op2_122, nd2_157, tk2_124, rfl, rfl, hW158, hF165, by omega, ((hF159.1 10 rfl).trans (e128)), ((hF159.1 16 rfl).trans (e129)), ((hF159.1 15 rfl).trans (e130)), (e161), ((hF159.1 11 rfl).trans (e132)), by omega, by omega, by omega, by omega, by omega, by omega, by first | exact Or.inl (⟨by omega, by omega, by omega, by omega, by omega, by omega⟩) | exact Or.inr (Or.inl (⟨by omega, by omega, by omega⟩)) | exact Or.inr (Or.inr ((⟨by omega, by omega, by omega⟩)))⟩
              · have _q : True := trivial
                refine jx_ld (pc' := 52) (l' := jSto1 L103 2 (.int (i32 (r119)))) (st' := []) rfl rfl ?_
                obtain ⟨L167, eL167⟩ : ∃ q, q = jSto1 L103 2 (.int (i32 (r119))) := ⟨_, rfl⟩
                rw [← eL167]
                have gL167_0 : jGet L167 0 = some (.ref 66) := eL167 ▸ jg_ne (by decide) gL103_0 rfl
                have gL167_1 : jGet L167 1 = some (.int (i32 (6))) := eL167 ▸ jg_ne (by decide) gL103_1 rfl
                have gL167_2 : jGet L167 2 = some (.int (i32 (r119))) := eL167 ▸ jg_eq
                refine jx_ld (pc' := 53) (l' := L167) (st' := [.ref 66]) rfl (jl_aloadn gL167_0) ?_
                refine jx_ld (pc' := 54) (l' := L167) (st' := [.int (i32 (6)), .ref 66]) rfl (jl_iloadn gL167_1) ?_
                refine jx_ld (pc' := 55) (l' := L167) (st' := [.int (i32 (r119)), .int (i32 (6)), .ref 66]) rfl (jl_iloadn gL167_2) ?_
                refine jx_ar (pc' := 56) (st' := [.int (i32 (0)), .int (i32 (r119)), .int (i32 (6)), .ref 66]) rfl rfl rfl rfl ?_
                refine jx_ar (pc' := 57) (st' := [.int (i32 (0)), .int (i32 (0)), .int (i32 (r119)), .int (i32 (6)), .ref 66]) rfl rfl rfl rfl ?_
                refine jx_ar (pc' := 58) (st' := [.int (i32 (0)), .int (i32 (0)), .int (i32 (0)), .int (i32 (r119)), .int (i32 (6)), .ref 66]) rfl rfl rfl rfl ?_
                refine jx_vr (pc' := 61) (as := [.int (i32 (6)), .int (i32 (r119)), .int (i32 (0)), .int (i32 (0)), .int (i32 (0))]) (st := []) rfl rfl rfl rfl ⟨rfl, rfl, Nat.le_of_ble_eq_true rfl⟩ rfl rfl (c_node (dd := d) (hd := by omega) (hW := hW125) (kind := 6) (a := r119) (b := 0) (c := 0) (e := 0) (nd := nd2_123) (e_nd := show G117 31 = nd2_123 from (e131))  (h_kind := by omega) (h_a := by omega) (h_b := by omega) (h_c := by omega) (h_e := by omega)  (p_0 := by omega) (p_1 := by omega)) (fun o V' hq => ?_)
                obtain ⟨G168, A169, r170, nd2_171, rfl, rfl, hW172, hF173, b174, e175, p176, p177, -⟩ := hq
                have hF179 := Fr_tr hF140 hF173 (Fr_sub (by decide)) (Fr_sub (by decide))
                have bnd2_171 : (0 : Int) ≤ nd2_171 ∧ nd2_171 ≤ 6999 := e175 ▸ hW172.1 31
                refine .inr ⟨_, rfl, ?_⟩
                refine jx_rt (v := some (.int (i32 (r170)))) rfl rfl rfl rfl rfl rfl ?_
                have z180 := tz_f (tk2_124)
                exact ⟨_, _, _, at2_120, fk2_121, op2_122, nd2_171, tk2_124, rfl, rfl, hW172, hF179, by omega, ((hF173.1 10 rfl).trans (e128)), ((hF173.1 16 rfl).trans (e129)), ((hF173.1 15 rfl).trans (e130)), (e175), ((hF173.1 11 rfl).trans (e132)), by omega, by omega, by omega, by omega, by omega, by omega, by first | exact Or.inl (⟨by omega, by omega, by omega, by omega, by omega, by omega⟩) | exact Or.inr (Or.inl (⟨by omega, by omega, by omega⟩)) | exact Or.inr (Or.inr ((⟨by omega, by omega, by omega⟩)))⟩
            · have _q := h102
              exact absurd h102 (by omega)
        · have _q := h16
          exact absurd h16 (by omega)
      · have _q : True := trivial
        refine jx_if_ne (pc' := 18) (tg := 27) rfl rfl rfl (by omega) (by omega) (fun h181 => ?_) (fun h181 => ?_)
        · have _q := h181
          exact absurd h181 (by omega)
        · have _q := h181
          refine jx_ld (pc' := 19) (l' := [(0, .ref 66)]) (st' := [.ref 66]) rfl (jl_aloadn rfl) ?_
          refine jx_ar (pc' := 21) (st' := [.int (i32 (16)), .ref 66]) rfl rfl rfl rfl ?_
          refine jx_vr (pc' := 24) (as := [.int (i32 (16))]) (st := []) rfl rfl rfl rfl ⟨rfl, rfl, Nat.le_of_ble_eq_true rfl⟩ rfl rfl (c_isKey (dd := d) (hd := by omega) (hW := hW) (k := 16) (tk := tk0) (e_tk := show G 11 = tk0 from (e_tk0)) (tn := G 13) (e_tn := show G 13 = G 13 from rfl)  (h_k := by omega)  ) (fun o V' hq => ?_)
          obtain ⟨r182, rfl, rfl, b183, q184⟩ := hq
          refine .inr ⟨_, rfl, ?_⟩
          rcases q184 with ⟨rfl, a185, a186, a187⟩ | rfl
          · have _q : True := trivial
            refine jx_if_eq (pc' := 27) (tg := 62) rfl rfl rfl (by omega) (by omega) (fun h188 => ?_) (fun h188 => ?_)
            · have _q := h188
              exact absurd h188 (by omega)
            · have _q := h188
              refine jx_ld (pc' := 28) (l' := [(0, .ref 66)]) (st' := [.ref 66]) rfl (jl_aloadn rfl) ?_
              refine jx_ar (pc' := 30) (st' := [.int (i32 (45)), .ref 66]) rfl rfl rfl rfl ?_
              refine jx_vr (pc' := 33) (as := [.int (i32 (45))]) (st := []) rfl rfl rfl rfl ⟨rfl, rfl, Nat.le_of_ble_eq_true rfl⟩ rfl rfl (c_is (dd := d) (hd := by omega) (hW := hW) (k := 45) (tk := tk0) (e_tk := show G 11 = tk0 from (e_tk0)) (tn := G 13) (e_tn := show G 13 = G 13 from rfl)  (h_k := by omega)  ) (fun o V' hq => ?_)
              obtain ⟨r189, rfl, rfl, b190, q191⟩ := hq
              refine .inr ⟨_, rfl, ?_⟩
              rcases q191 with ⟨rfl, a192, a193, a194⟩ | rfl
              · have _q : True := trivial
                refine jx_if_eq (pc' := 36) (tg := 40) rfl rfl rfl (by omega) (by omega) (fun h195 => ?_) (fun h195 => ?_)
                · have _q := h195
                  exact absurd h195 (by omega)
                · have _q := h195
                  refine jx_ar (pc' := 37) (st' := [.int (i32 (5))]) rfl rfl rfl rfl ?_
                  refine jx_go (tg := 42) rfl rfl ?_
                  refine jx_ld (pc' := 43) (l' := jSto1 [(0, .ref 66)] 1 (.int (i32 (5)))) (st' := []) rfl rfl ?_
                  obtain ⟨L196, eL196⟩ : ∃ q, q = jSto1 [(0, .ref 66)] 1 (.int (i32 (5))) := ⟨_, rfl⟩
                  rw [← eL196]
                  have gL196_0 : jGet L196 0 = some (.ref 66) := eL196 ▸ jg_ne (by decide) (rfl : jGet [(0, .ref 66)] 0 = some (.ref 66)) rfl
                  have gL196_1 : jGet L196 1 = some (.int (i32 (5))) := eL196 ▸ jg_eq
                  refine jx_ld (pc' := 44) (l' := L196) (st' := [.ref 66]) rfl (jl_aloadn gL196_0) ?_
                  refine jx_vr (pc' := 47) (as := []) (st := []) rfl rfl rfl rfl ⟨rfl, rfl, Nat.le_of_ble_eq_true rfl⟩ rfl rfl (c_next (dd := d) (hd := by omega) (hW := hW)  (ln := ln) (e_ln := show G 9 = ln from (e_ln)) (le := le) (e_le := show A 4 (ln).toNat = le from (e_le)) (at0 := at0) (e_at0 := show G 10 = at0 from (e_at0))    (p_0 := by omega)) (fun o V' hq => ?_)
                  obtain ⟨G197, A198, at2_199, tk2_200, rfl, rfl, hW201, hF202, e203, e204, p205, p206, p207, -⟩ := hq
                  have hF209 := Fr_tr hF0 hF202 (Fr_sub (by decide)) (Fr_sub (by decide))
                  have bat2_199 : (0 : Int) ≤ at2_199 ∧ at2_199 ≤ 3002 := e203 ▸ hW201.1 10
                  have ztk2_200 := tz_b tk2_200
                  have btk2_200 : (0 : Int) ≤ tk2_200 ∧ tk2_200 ≤ 5 := e204 ▸ hW201.1 11
                  refine .inl ⟨rfl, ?_⟩
                  refine jx_ld (pc' := 48) (l' := L196) (st' := [.ref 66]) rfl (jl_aloadn gL196_0) ?_
                  refine jx_vr (pc' := 51) (as := []) (st := []) rfl rfl rfl rfl ⟨rfl, rfl, Nat.le_of_ble_eq_true rfl⟩ rfl rfl (c_readOperand (dd := d) (hE := hE) (hd := by omega) (hW := hW201)  (ln := ln) (e_ln := show G197 9 = ln from ((hF202.1 9 rfl).trans (e_ln))) (le := le) (e_le := show A198 4 (ln).toNat = le from (congrFun (hF202.2 4 rfl) _).trans (e_le)) (at0 := at2_199) (e_at0 := show G197 10 = at2_199 from (e203)) (fk := fk) (e_fk := show G197 16 = fk from ((hF202.1 16 rfl).trans (e_fk))) (op0 := op0) (e_op0 := show G197 15 = op0 from ((hF202.1 15 rfl).trans (e_op0))) (nd := nd) (e_nd := show G197 31 = nd from ((hF202.1 31 rfl).trans (e_nd))) (tk0 := tk2_200) (e_tk0 := show G197 11 = tk2_200 from (e204))    (p_0 := by omega) (p_1 := by omega) (p_2 := by omega) (p_3 := by omega) (p_4 := by omega) (p_5 := by omega)) (fun o V' hq => ?_)
                  obtain ⟨G210, A211, r212, at2_213, fk2_214, op2_215, nd2_216, tk2_217, rfl, rfl, hW218, hF219, b220, e221, e222, e223, e224, e225, p226, p227, p228, p229, p230, p231, q232⟩ := hq
                  have hF233 := Fr_tr hF209 hF219 (Fr_sub (by decide)) (Fr_sub (by decide))
                  have bat2_213 : (0 : Int) ≤ at2_213 ∧ at2_213 ≤ 3002 := e221 ▸ hW218.1 10
                  have bfk2_214 : (0 : Int) ≤ fk2_214 ∧ fk2_214 ≤ 6 := e222 ▸ hW218.1 16
                  have bop2_215 : (-2147483648 : Int) ≤ op2_215 ∧ op2_215 ≤ 2147483647 := e223 ▸ hW218.1 15
                  have bnd2_216 : (0 : Int) ≤ nd2_216 ∧ nd2_216 ≤ 6999 := e224 ▸ hW218.1 31
                  have ztk2_217 := tz_b tk2_217
                  have btk2_217 : (0 : Int) ≤ tk2_217 ∧ tk2_217 ≤ 5 := e225 ▸ hW218.1 11
                  refine .inr ⟨_, rfl, ?_⟩
                  rcases q232 with ⟨a234, a235, a236, a237, a238, a239⟩ | ⟨a240, a241, a242⟩ | ⟨a243, a244, a245⟩
                  · have _q : True := trivial
                    exfalso
                    omega
                  · have _q : True := trivial
                    refine jx_ld (pc' := 52) (l' := jSto1 L196 2 (.int (i32 (r212)))) (st' := []) rfl rfl ?_
                    obtain ⟨L246, eL246⟩ : ∃ q, q = jSto1 L196 2 (.int (i32 (r212))) := ⟨_, rfl⟩
                    rw [← eL246]
                    have gL246_0 : jGet L246 0 = some (.ref 66) := eL246 ▸ jg_ne (by decide) gL196_0 rfl
                    have gL246_1 : jGet L246 1 = some (.int (i32 (5))) := eL246 ▸ jg_ne (by decide) gL196_1 rfl
                    have gL246_2 : jGet L246 2 = some (.int (i32 (r212))) := eL246 ▸ jg_eq
                    refine jx_ld (pc' := 53) (l' := L246) (st' := [.ref 66]) rfl (jl_aloadn gL246_0) ?_
                    refine jx_ld (pc' := 54) (l' := L246) (st' := [.int (i32 (5)), .ref 66]) rfl (jl_iloadn gL246_1) ?_
                    refine jx_ld (pc' := 55) (l' := L246) (st' := [.int (i32 (r212)), .int (i32 (5)), .ref 66]) rfl (jl_iloadn gL246_2) ?_
                    refine jx_ar (pc' := 56) (st' := [.int (i32 (0)), .int (i32 (r212)), .int (i32 (5)), .ref 66]) rfl rfl rfl rfl ?_
                    refine jx_ar (pc' := 57) (st' := [.int (i32 (0)), .int (i32 (0)), .int (i32 (r212)), .int (i32 (5)), .ref 66]) rfl rfl rfl rfl ?_
                    refine jx_ar (pc' := 58) (st' := [.int (i32 (0)), .int (i32 (0)), .int (i32 (0)), .int (i32 (r212)), .int (i32 (5)), .ref 66]) rfl rfl rfl rfl ?_
                    refine jx_vr (pc' := 61) (as := [.int (i32 (5)), .int (i32 (r212)), .int (i32 (0)), .int (i32 (0)), .int (i32 (0))]) (st := []) rfl rfl rfl rfl ⟨rfl, rfl, Nat.le_of_ble_eq_true rfl⟩ rfl rfl (c_node (dd := d) (hd := by omega) (hW := hW218) (kind := 5) (a := r212) (b := 0) (c := 0) (e := 0) (nd := nd2_216) (e_nd := show G210 31 = nd2_216 from (e224))  (h_kind := by omega) (h_a := by omega) (h_b := by omega) (h_c := by omega) (h_e := by omega)  (p_0 := by omega) (p_1 := by omega)) (fun o V' hq => ?_)
                    obtain ⟨G247, A248, r249, nd2_250, rfl, rfl, hW251, hF252, b253, e254, p255, p256, -⟩ := hq
                    have hF258 := Fr_tr hF233 hF252 (Fr_sub (by decide)) (Fr_sub (by decide))
                    have bnd2_250 : (0 : Int) ≤ nd2_250 ∧ nd2_250 ≤ 6999 := e254 ▸ hW251.1 31
                    refine .inr ⟨_, rfl, ?_⟩
                    refine jx_rt (v := some (.int (i32 (r249)))) rfl rfl rfl rfl rfl rfl ?_
                    have z259 := tz_f (tk2_217)
                    exact ⟨_, _, _, at2_213, fk2_214, op2_215, nd2_250, tk2_217, rfl, rfl, hW251, hF258, by omega, ((hF252.1 10 rfl).trans (e221)), ((hF252.1 16 rfl).trans (e222)), ((hF252.1 15 rfl).trans (e223)), (e254), ((hF252.1 11 rfl).trans (e225)), by omega, by omega, by omega, by omega, by omega, by omega, by first | exact Or.inl (⟨by omega, by omega, by omega, by omega, by omega, by omega⟩) | exact Or.inr (Or.inl (⟨by omega, by omega, by omega⟩)) | exact Or.inr (Or.inr ((⟨by omega, by omega, by omega⟩)))⟩
                  · have _q : True := trivial
                    refine jx_ld (pc' := 52) (l' := jSto1 L196 2 (.int (i32 (r212)))) (st' := []) rfl rfl ?_
                    obtain ⟨L260, eL260⟩ : ∃ q, q = jSto1 L196 2 (.int (i32 (r212))) := ⟨_, rfl⟩
                    rw [← eL260]
                    have gL260_0 : jGet L260 0 = some (.ref 66) := eL260 ▸ jg_ne (by decide) gL196_0 rfl
                    have gL260_1 : jGet L260 1 = some (.int (i32 (5))) := eL260 ▸ jg_ne (by decide) gL196_1 rfl
                    have gL260_2 : jGet L260 2 = some (.int (i32 (r212))) := eL260 ▸ jg_eq
                    refine jx_ld (pc' := 53) (l' := L260) (st' := [.ref 66]) rfl (jl_aloadn gL260_0) ?_
                    refine jx_ld (pc' := 54) (l' := L260) (st' := [.int (i32 (5)), .ref 66]) rfl (jl_iloadn gL260_1) ?_
                    refine jx_ld (pc' := 55) (l' := L260) (st' := [.int (i32 (r212)), .int (i32 (5)), .ref 66]) rfl (jl_iloadn gL260_2) ?_
                    refine jx_ar (pc' := 56) (st' := [.int (i32 (0)), .int (i32 (r212)), .int (i32 (5)), .ref 66]) rfl rfl rfl rfl ?_
                    refine jx_ar (pc' := 57) (st' := [.int (i32 (0)), .int (i32 (0)), .int (i32 (r212)), .int (i32 (5)), .ref 66]) rfl rfl rfl rfl ?_
                    refine jx_ar (pc' := 58) (st' := [.int (i32 (0)), .int (i32 (0)), .int (i32 (0)), .int (i32 (r212)), .int (i32 (5)), .ref 66]) rfl rfl rfl rfl ?_
                    refine jx_vr (pc' := 61) (as := [.int (i32 (5)), .int (i32 (r212)), .int (i32 (0)), .int (i32 (0)), .int (i32 (0))]) (st := []) rfl rfl rfl rfl ⟨rfl, rfl, Nat.le_of_ble_eq_true rfl⟩ rfl rfl (c_node (dd := d) (hd := by omega) (hW := hW218) (kind := 5) (a := r212) (b := 0) (c := 0) (e := 0) (nd := nd2_216) (e_nd := show G210 31 = nd2_216 from (e224))  (h_kind := by omega) (h_a := by omega) (h_b := by omega) (h_c := by omega) (h_e := by omega)  (p_0 := by omega) (p_1 := by omega)) (fun o V' hq => ?_)
                    obtain ⟨G261, A262, r263, nd2_264, rfl, rfl, hW265, hF266, b267, e268, p269, p270, -⟩ := hq
                    have hF272 := Fr_tr hF233 hF266 (Fr_sub (by decide)) (Fr_sub (by decide))
                    have bnd2_264 : (0 : Int) ≤ nd2_264 ∧ nd2_264 ≤ 6999 := e268 ▸ hW265.1 31
                    refine .inr ⟨_, rfl, ?_⟩
                    refine jx_rt (v := some (.int (i32 (r263)))) rfl rfl rfl rfl rfl rfl ?_
                    have z273 := tz_f (tk2_217)
                    exact ⟨_, _, _, at2_213, fk2_214, op2_215, nd2_264, tk2_217, rfl, rfl, hW265, hF272, by omega, ((hF266.1 10 rfl).trans (e221)), ((hF266.1 16 rfl).trans (e222)), ((hF266.1 15 rfl).trans (e223)), (e268), ((hF266.1 11 rfl).trans (e225)), by omega, by omega, by omega, by omega, by omega, by omega, by first | exact Or.inl (⟨by omega, by omega, by omega, by omega, by omega, by omega⟩) | exact Or.inr (Or.inl (⟨by omega, by omega, by omega⟩)) | exact Or.inr (Or.inr ((⟨by omega, by omega, by omega⟩)))⟩
              · have _q : True := trivial
                refine jx_if_eq (pc' := 36) (tg := 40) rfl rfl rfl (by omega) (by omega) (fun h274 => ?_) (fun h274 => ?_)
                · have _q := h274
                  refine jx_ar (pc' := 42) (st' := [.int (i32 (6))]) rfl rfl rfl rfl ?_
                  refine jx_ld (pc' := 43) (l' := jSto1 [(0, .ref 66)] 1 (.int (i32 (6)))) (st' := []) rfl rfl ?_
                  obtain ⟨L275, eL275⟩ : ∃ q, q = jSto1 [(0, .ref 66)] 1 (.int (i32 (6))) := ⟨_, rfl⟩
                  rw [← eL275]
                  have gL275_0 : jGet L275 0 = some (.ref 66) := eL275 ▸ jg_ne (by decide) (rfl : jGet [(0, .ref 66)] 0 = some (.ref 66)) rfl
                  have gL275_1 : jGet L275 1 = some (.int (i32 (6))) := eL275 ▸ jg_eq
                  refine jx_ld (pc' := 44) (l' := L275) (st' := [.ref 66]) rfl (jl_aloadn gL275_0) ?_
                  refine jx_vr (pc' := 47) (as := []) (st := []) rfl rfl rfl rfl ⟨rfl, rfl, Nat.le_of_ble_eq_true rfl⟩ rfl rfl (c_next (dd := d) (hd := by omega) (hW := hW)  (ln := ln) (e_ln := show G 9 = ln from (e_ln)) (le := le) (e_le := show A 4 (ln).toNat = le from (e_le)) (at0 := at0) (e_at0 := show G 10 = at0 from (e_at0))    (p_0 := by omega)) (fun o V' hq => ?_)
                  obtain ⟨G276, A277, at2_278, tk2_279, rfl, rfl, hW280, hF281, e282, e283, p284, p285, p286, -⟩ := hq
                  have hF288 := Fr_tr hF0 hF281 (Fr_sub (by decide)) (Fr_sub (by decide))
                  have bat2_278 : (0 : Int) ≤ at2_278 ∧ at2_278 ≤ 3002 := e282 ▸ hW280.1 10
                  have ztk2_279 := tz_b tk2_279
                  have btk2_279 : (0 : Int) ≤ tk2_279 ∧ tk2_279 ≤ 5 := e283 ▸ hW280.1 11
                  refine .inl ⟨rfl, ?_⟩
                  refine jx_ld (pc' := 48) (l' := L275) (st' := [.ref 66]) rfl (jl_aloadn gL275_0) ?_
                  refine jx_vr (pc' := 51) (as := []) (st := []) rfl rfl rfl rfl ⟨rfl, rfl, Nat.le_of_ble_eq_true rfl⟩ rfl rfl (c_readOperand (dd := d) (hE := hE) (hd := by omega) (hW := hW280)  (ln := ln) (e_ln := show G276 9 = ln from ((hF281.1 9 rfl).trans (e_ln))) (le := le) (e_le := show A277 4 (ln).toNat = le from (congrFun (hF281.2 4 rfl) _).trans (e_le)) (at0 := at2_278) (e_at0 := show G276 10 = at2_278 from (e282)) (fk := fk) (e_fk := show G276 16 = fk from ((hF281.1 16 rfl).trans (e_fk))) (op0 := op0) (e_op0 := show G276 15 = op0 from ((hF281.1 15 rfl).trans (e_op0))) (nd := nd) (e_nd := show G276 31 = nd from ((hF281.1 31 rfl).trans (e_nd))) (tk0 := tk2_279) (e_tk0 := show G276 11 = tk2_279 from (e283))    (p_0 := by omega) (p_1 := by omega) (p_2 := by omega) (p_3 := by omega) (p_4 := by omega) (p_5 := by omega)) (fun o V' hq => ?_)
                  obtain ⟨G289, A290, r291, at2_292, fk2_293, op2_294, nd2_295, tk2_296, rfl, rfl, hW297, hF298, b299, e300, e301, e302, e303, e304, p305, p306, p307, p308, p309, p310, q311⟩ := hq
                  have hF312 := Fr_tr hF288 hF298 (Fr_sub (by decide)) (Fr_sub (by decide))
                  have bat2_292 : (0 : Int) ≤ at2_292 ∧ at2_292 ≤ 3002 := e300 ▸ hW297.1 10
                  have bfk2_293 : (0 : Int) ≤ fk2_293 ∧ fk2_293 ≤ 6 := e301 ▸ hW297.1 16
                  have bop2_294 : (-2147483648 : Int) ≤ op2_294 ∧ op2_294 ≤ 2147483647 := e302 ▸ hW297.1 15
                  have bnd2_295 : (0 : Int) ≤ nd2_295 ∧ nd2_295 ≤ 6999 := e303 ▸ hW297.1 31
                  have ztk2_296 := tz_b tk2_296
                  have btk2_296 : (0 : Int) ≤ tk2_296 ∧ tk2_296 ≤ 5 := e304 ▸ hW297.1 11
                  refine .inr ⟨_, rfl, ?_⟩
                  rcases q311 with ⟨a313, a314, a315, a316, a317, a318⟩ | ⟨a319, a320, a321⟩ | ⟨a322, a323, a324⟩
                  · have _q : True := trivial
                    exfalso
                    omega
                  · have _q : True := trivial
                    refine jx_ld (pc' := 52) (l' := jSto1 L275 2 (.int (i32 (r291)))) (st' := []) rfl rfl ?_
                    obtain ⟨L325, eL325⟩ : ∃ q, q = jSto1 L275 2 (.int (i32 (r291))) := ⟨_, rfl⟩
                    rw [← eL325]
                    have gL325_0 : jGet L325 0 = some (.ref 66) := eL325 ▸ jg_ne (by decide) gL275_0 rfl
                    have gL325_1 : jGet L325 1 = some (.int (i32 (6))) := eL325 ▸ jg_ne (by decide) gL275_1 rfl
                    have gL325_2 : jGet L325 2 = some (.int (i32 (r291))) := eL325 ▸ jg_eq
                    refine jx_ld (pc' := 53) (l' := L325) (st' := [.ref 66]) rfl (jl_aloadn gL325_0) ?_
                    refine jx_ld (pc' := 54) (l' := L325) (st' := [.int (i32 (6)), .ref 66]) rfl (jl_iloadn gL325_1) ?_
                    refine jx_ld (pc' := 55) (l' := L325) (st' := [.int (i32 (r291)), .int (i32 (6)), .ref 66]) rfl (jl_iloadn gL325_2) ?_
                    refine jx_ar (pc' := 56) (st' := [.int (i32 (0)), .int (i32 (r291)), .int (i32 (6)), .ref 66]) rfl rfl rfl rfl ?_
                    refine jx_ar (pc' := 57) (st' := [.int (i32 (0)), .int (i32 (0)), .int (i32 (r291)), .int (i32 (6)), .ref 66]) rfl rfl rfl rfl ?_
                    refine jx_ar (pc' := 58) (st' := [.int (i32 (0)), .int (i32 (0)), .int (i32 (0)), .int (i32 (r291)), .int (i32 (6)), .ref 66]) rfl rfl rfl rfl ?_
                    refine jx_vr (pc' := 61) (as := [.int (i32 (6)), .int (i32 (r291)), .int (i32 (0)), .int (i32 (0)), .int (i32 (0))]) (st := []) rfl rfl rfl rfl ⟨rfl, rfl, Nat.le_of_ble_eq_true rfl⟩ rfl rfl (c_node (dd := d) (hd := by omega) (hW := hW297) (kind := 6) (a := r291) (b := 0) (c := 0) (e := 0) (nd := nd2_295) (e_nd := show G289 31 = nd2_295 from (e303))  (h_kind := by omega) (h_a := by omega) (h_b := by omega) (h_c := by omega) (h_e := by omega)  (p_0 := by omega) (p_1 := by omega)) (fun o V' hq => ?_)
                    obtain ⟨G326, A327, r328, nd2_329, rfl, rfl, hW330, hF331, b332, e333, p334, p335, -⟩ := hq
                    have hF337 := Fr_tr hF312 hF331 (Fr_sub (by decide)) (Fr_sub (by decide))
                    have bnd2_329 : (0 : Int) ≤ nd2_329 ∧ nd2_329 ≤ 6999 := e333 ▸ hW330.1 31
                    refine .inr ⟨_, rfl, ?_⟩
                    refine jx_rt (v := some (.int (i32 (r328)))) rfl rfl rfl rfl rfl rfl ?_
                    have z338 := tz_f (tk2_296)
                    exact ⟨_, _, _, at2_292, fk2_293, op2_294, nd2_329, tk2_296, rfl, rfl, hW330, hF337, by omega, ((hF331.1 10 rfl).trans (e300)), ((hF331.1 16 rfl).trans (e301)), ((hF331.1 15 rfl).trans (e302)), (e333), ((hF331.1 11 rfl).trans (e304)), by omega, by omega, by omega, by omega, by omega, by omega, by first | exact Or.inl (⟨by omega, by omega, by omega, by omega, by omega, by omega⟩) | exact Or.inr (Or.inl (⟨by omega, by omega, by omega⟩)) | exact Or.inr (Or.inr ((⟨by omega, by omega, by omega⟩)))⟩
                  · have _q : True := trivial
                    refine jx_ld (pc' := 52) (l' := jSto1 L275 2 (.int (i32 (r291)))) (st' := []) rfl rfl ?_
                    obtain ⟨L339, eL339⟩ : ∃ q, q = jSto1 L275 2 (.int (i32 (r291))) := ⟨_, rfl⟩
                    rw [← eL339]
                    have gL339_0 : jGet L339 0 = some (.ref 66) := eL339 ▸ jg_ne (by decide) gL275_0 rfl
                    have gL339_1 : jGet L339 1 = some (.int (i32 (6))) := eL339 ▸ jg_ne (by decide) gL275_1 rfl
                    have gL339_2 : jGet L339 2 = some (.int (i32 (r291))) := eL339 ▸ jg_eq
                    refine jx_ld (pc' := 53) (l' := L339) (st' := [.ref 66]) rfl (jl_aloadn gL339_0) ?_
                    refine jx_ld (pc' := 54) (l' := L339) (st' := [.int (i32 (6)), .ref 66]) rfl (jl_iloadn gL339_1) ?_
                    refine jx_ld (pc' := 55) (l' := L339) (st' := [.int (i32 (r291)), .int (i32 (6)), .ref 66]) rfl (jl_iloadn gL339_2) ?_
                    refine jx_ar (pc' := 56) (st' := [.int (i32 (0)), .int (i32 (r291)), .int (i32 (6)), .ref 66]) rfl rfl rfl rfl ?_
                    refine jx_ar (pc' := 57) (st' := [.int (i32 (0)), .int (i32 (0)), .int (i32 (r291)), .int (i32 (6)), .ref 66]) rfl rfl rfl rfl ?_
                    refine jx_ar (pc' := 58) (st' := [.int (i32 (0)), .int (i32 (0)), .int (i32 (0)), .int (i32 (r291)), .int (i32 (6)), .ref 66]) rfl rfl rfl rfl ?_
                    refine jx_vr (pc' := 61) (as := [.int (i32 (6)), .int (i32 (r291)), .int (i32 (0)), .int (i32 (0)), .int (i32 (0))]) (st := []) rfl rfl rfl rfl ⟨rfl, rfl, Nat.le_of_ble_eq_true rfl⟩ rfl rfl (c_node (dd := d) (hd := by omega) (hW := hW297) (kind := 6) (a := r291) (b := 0) (c := 0) (e := 0) (nd := nd2_295) (e_nd := show G289 31 = nd2_295 from (e303))  (h_kind := by omega) (h_a := by omega) (h_b := by omega) (h_c := by omega) (h_e := by omega)  (p_0 := by omega) (p_1 := by omega)) (fun o V' hq => ?_)
                    obtain ⟨G340, A341, r342, nd2_343, rfl, rfl, hW344, hF345, b346, e347, p348, p349, -⟩ := hq
                    have hF351 := Fr_tr hF312 hF345 (Fr_sub (by decide)) (Fr_sub (by decide))
                    have bnd2_343 : (0 : Int) ≤ nd2_343 ∧ nd2_343 ≤ 6999 := e347 ▸ hW344.1 31
                    refine .inr ⟨_, rfl, ?_⟩
                    refine jx_rt (v := some (.int (i32 (r342)))) rfl rfl rfl rfl rfl rfl ?_
                    have z352 := tz_f (tk2_296)
                    exact ⟨_, _, _, at2_292, fk2_293, op2_294, nd2_343, tk2_296, rfl, rfl, hW344, hF351, by omega, ((hF345.1 10 rfl).trans (e300)), ((hF345.1 16 rfl).trans (e301)), ((hF345.1 15 rfl).trans (e302)), (e347), ((hF345.1 11 rfl).trans (e304)), by omega, by omega, by omega, by omega, by omega, by omega, by first | exact Or.inl (⟨by omega, by omega, by omega, by omega, by omega, by omega⟩) | exact Or.inr (Or.inl (⟨by omega, by omega, by omega⟩)) | exact Or.inr (Or.inr ((⟨by omega, by omega, by omega⟩)))⟩
                · have _q := h274
                  exact absurd h274 (by omega)
          · have _q : True := trivial
            refine jx_if_eq (pc' := 27) (tg := 62) rfl rfl rfl (by omega) (by omega) (fun h353 => ?_) (fun h353 => ?_)
            · have _q := h353
              refine jx_ld (pc' := 63) (l' := [(0, .ref 66)]) (st' := [.ref 66]) rfl (jl_aloadn rfl) ?_
              refine jx_ld (pc' := 64) (l' := [(0, .ref 66)]) (st' := [.ref 66, .ref 66]) rfl (jl_aloadn rfl) ?_
              refine jx_vr (pc' := 67) (as := []) (st := [.ref 66]) rfl rfl rfl rfl ⟨rfl, rfl, Nat.le_of_ble_eq_true rfl⟩ rfl rfl (c_readOperand (dd := d) (hE := hE) (hd := by omega) (hW := hW)  (ln := ln) (e_ln := show G 9 = ln from (e_ln)) (le := le) (e_le := show A 4 (ln).toNat = le from (e_le)) (at0 := at0) (e_at0 := show G 10 = at0 from (e_at0)) (fk := fk) (e_fk := show G 16 = fk from (e_fk)) (op0 := op0) (e_op0 := show G 15 = op0 from (e_op0)) (nd := nd) (e_nd := show G 31 = nd from (e_nd)) (tk0 := tk0) (e_tk0 := show G 11 = tk0 from (e_tk0))    (p_0 := by omega) (p_1 := by omega) (p_2 := by omega) (p_3 := by omega) (p_4 := by omega) (p_5 := by omega)) (fun o V' hq => ?_)
              obtain ⟨G354, A355, r356, at2_357, fk2_358, op2_359, nd2_360, tk2_361, rfl, rfl, hW362, hF363, b364, e365, e366, e367, e368, e369, p370, p371, p372, p373, p374, p375, q376⟩ := hq
              have hF377 := Fr_tr hF0 hF363 (Fr_sub (by decide)) (Fr_sub (by decide))
              have bat2_357 : (0 : Int) ≤ at2_357 ∧ at2_357 ≤ 3002 := e365 ▸ hW362.1 10
              have bfk2_358 : (0 : Int) ≤ fk2_358 ∧ fk2_358 ≤ 6 := e366 ▸ hW362.1 16
              have bop2_359 : (-2147483648 : Int) ≤ op2_359 ∧ op2_359 ≤ 2147483647 := e367 ▸ hW362.1 15
              have bnd2_360 : (0 : Int) ≤ nd2_360 ∧ nd2_360 ≤ 6999 := e368 ▸ hW362.1 31
              have ztk2_361 := tz_b tk2_361
              have btk2_361 : (0 : Int) ≤ tk2_361 ∧ tk2_361 ≤ 5 := e369 ▸ hW362.1 11
              refine .inr ⟨_, rfl, ?_⟩
              rcases q376 with ⟨a378, a379, a380, a381, a382, a383⟩ | ⟨a384, a385, a386⟩ | ⟨a387, a388, a389⟩
              · have _q : True := trivial
                exfalso
                omega
              · have _q : True := trivial
                refine jx_vr (pc' := 70) (as := [.int (i32 (r356))]) (st := []) rfl rfl rfl rfl ⟨rfl, rfl, Nat.le_of_ble_eq_true rfl⟩ rfl rfl (c_readRest (dd := d) (hE := hE) (hd := by omega) (hW := hW362) (x := r356) (ln := ln) (e_ln := show G354 9 = ln from ((hF363.1 9 rfl).trans (e_ln))) (le := le) (e_le := show A355 4 (ln).toNat = le from (congrFun (hF363.2 4 rfl) _).trans (e_le)) (at0 := at2_357) (e_at0 := show G354 10 = at2_357 from (e365)) (fk := fk2_358) (e_fk := show G354 16 = fk2_358 from (e366)) (op0 := op2_359) (e_op0 := show G354 15 = op2_359 from (e367)) (nd := nd2_360) (e_nd := show G354 31 = nd2_360 from (e368)) (tk0 := tk2_361) (e_tk0 := show G354 11 = tk2_361 from (e369))  (h_x := by omega)  (p_0 := by omega) (p_1 := by omega) (p_2 := by omega) (p_3 := by omega) (p_4 := by omega) (p_5 := by omega) (p_6 := by omega) (p_7 := by omega)) (fun o V' hq => ?_)
                obtain ⟨G390, A391, r392, at2_393, fk2_394, op2_395, nd2_396, tk2_397, rfl, rfl, hW398, hF399, b400, e401, e402, e403, e404, e405, p406, p407, p408, p409, p410, p411, q412⟩ := hq
                have hF413 := Fr_tr hF377 hF399 (Fr_sub (by decide)) (Fr_sub (by decide))
                have bat2_393 : (0 : Int) ≤ at2_393 ∧ at2_393 ≤ 3002 := e401 ▸ hW398.1 10
                have bfk2_394 : (0 : Int) ≤ fk2_394 ∧ fk2_394 ≤ 6 := e402 ▸ hW398.1 16
                have bop2_395 : (-2147483648 : Int) ≤ op2_395 ∧ op2_395 ≤ 2147483647 := e403 ▸ hW398.1 15
                have bnd2_396 : (0 : Int) ≤ nd2_396 ∧ nd2_396 ≤ 6999 := e404 ▸ hW398.1 31
                have ztk2_397 := tz_b tk2_397
                have btk2_397 : (0 : Int) ≤ tk2_397 ∧ tk2_397 ≤ 5 := e405 ▸ hW398.1 11
                refine .inr ⟨_, rfl, ?_⟩
                rcases q412 with ⟨a414, a415, a416, a417, a418, a419⟩ | ⟨a420, a421, a422⟩ | ⟨a423, a424, a425⟩
                · have _q : True := trivial
                  refine jx_rt (v := some (.int (i32 (r392)))) rfl rfl rfl rfl rfl rfl ?_
                  have z426 := tz_f (tk2_397)
                  exact ⟨_, _, _, at2_393, fk2_394, op2_395, nd2_396, tk2_397, rfl, rfl, hW398, hF413, by omega, (e401), (e402), (e403), (e404), (e405), by omega, by omega, by omega, by omega, by omega, by omega, by first | exact Or.inl (⟨by omega, by omega, by omega, by omega, by omega, by omega⟩) | exact Or.inr (Or.inl (⟨by omega, by omega, by omega⟩)) | exact Or.inr (Or.inr ((⟨by omega, by omega, by omega⟩)))⟩
                · have _q : True := trivial
                  exfalso
                  omega
                · have _q : True := trivial
                  exfalso
                  omega
              · have _q : True := trivial
                refine jx_vr (pc' := 70) (as := [.int (i32 (r356))]) (st := []) rfl rfl rfl rfl ⟨rfl, rfl, Nat.le_of_ble_eq_true rfl⟩ rfl rfl (c_readRest (dd := d) (hE := hE) (hd := by omega) (hW := hW362) (x := r356) (ln := ln) (e_ln := show G354 9 = ln from ((hF363.1 9 rfl).trans (e_ln))) (le := le) (e_le := show A355 4 (ln).toNat = le from (congrFun (hF363.2 4 rfl) _).trans (e_le)) (at0 := at2_357) (e_at0 := show G354 10 = at2_357 from (e365)) (fk := fk2_358) (e_fk := show G354 16 = fk2_358 from (e366)) (op0 := op2_359) (e_op0 := show G354 15 = op2_359 from (e367)) (nd := nd2_360) (e_nd := show G354 31 = nd2_360 from (e368)) (tk0 := tk2_361) (e_tk0 := show G354 11 = tk2_361 from (e369))  (h_x := by omega)  (p_0 := by omega) (p_1 := by omega) (p_2 := by omega) (p_3 := by omega) (p_4 := by omega) (p_5 := by omega) (p_6 := by omega) (p_7 := by omega)) (fun o V' hq => ?_)
                obtain ⟨G427, A428, r429, at2_430, fk2_431, op2_432, nd2_433, tk2_434, rfl, rfl, hW435, hF436, b437, e438, e439, e440, e441, e442, p443, p444, p445, p446, p447, p448, q449⟩ := hq
                have hF450 := Fr_tr hF377 hF436 (Fr_sub (by decide)) (Fr_sub (by decide))
                have bat2_430 : (0 : Int) ≤ at2_430 ∧ at2_430 ≤ 3002 := e438 ▸ hW435.1 10
                have bfk2_431 : (0 : Int) ≤ fk2_431 ∧ fk2_431 ≤ 6 := e439 ▸ hW435.1 16
                have bop2_432 : (-2147483648 : Int) ≤ op2_432 ∧ op2_432 ≤ 2147483647 := e440 ▸ hW435.1 15
                have bnd2_433 : (0 : Int) ≤ nd2_433 ∧ nd2_433 ≤ 6999 := e441 ▸ hW435.1 31
                have ztk2_434 := tz_b tk2_434
                have btk2_434 : (0 : Int) ≤ tk2_434 ∧ tk2_434 ≤ 5 := e442 ▸ hW435.1 11
                refine .inr ⟨_, rfl, ?_⟩
                rcases q449 with ⟨a451, a452, a453, a454, a455, a456⟩ | ⟨a457, a458, a459⟩ | ⟨a460, a461, a462⟩
                · have _q : True := trivial
                  exfalso
                  omega
                · have _q : True := trivial
                  refine jx_rt (v := some (.int (i32 (r429)))) rfl rfl rfl rfl rfl rfl ?_
                  have z463 := tz_f (tk2_434)
                  exact ⟨_, _, _, at2_430, fk2_431, op2_432, nd2_433, tk2_434, rfl, rfl, hW435, hF450, by omega, (e438), (e439), (e440), (e441), (e442), by omega, by omega, by omega, by omega, by omega, by omega, by first | exact Or.inl (⟨by omega, by omega, by omega, by omega, by omega, by omega⟩) | exact Or.inr (Or.inl (⟨by omega, by omega, by omega⟩)) | exact Or.inr (Or.inr ((⟨by omega, by omega, by omega⟩)))⟩
                · have _q : True := trivial
                  refine jx_rt (v := some (.int (i32 (r429)))) rfl rfl rfl rfl rfl rfl ?_
                  have z464 := tz_f (tk2_434)
                  exact ⟨_, _, _, at2_430, fk2_431, op2_432, nd2_433, tk2_434, rfl, rfl, hW435, hF450, by omega, (e438), (e439), (e440), (e441), (e442), by omega, by omega, by omega, by omega, by omega, by omega, by first | exact Or.inl (⟨by omega, by omega, by omega, by omega, by omega, by omega⟩) | exact Or.inr (Or.inl (⟨by omega, by omega, by omega⟩)) | exact Or.inr (Or.inr ((⟨by omega, by omega, by omega⟩)))⟩
            · have _q := h353
              exact absurd h353 (by omega)
    · have _q := h8
      exact absurd h8 (by omega)
set_option maxRecDepth 20000 in
set_option maxHeartbeats 4000000 in
theorem c_readE_0 {X : jX} {dd : Nat} {c0 c1 : jC} {G : Nat → Int} {A : Nat → Nat → Int} {T : jH} {ln le at0 fk op0 nd tk0 : Int} (hd : 6 * 0 + 10 ≤ dd) (hW : Wk G A) (e_ln : G 9 = ln) (e_le : A 4 (ln).toNat = le) (e_at0 : G 10 = at0) (e_fk : G 16 = fk) (e_op0 : G 15 = op0) (e_nd : G 31 = nd) (e_tk0 : G 11 = tk0) (p_0 : 0 ≤ op0) (p_1 : op0 ≤ 9) (p_2 : op0 ≤ 8 ∨ 1 ≤ fk) (p_3 : 9 - op0 ≤ ((0 : Nat) : Int) ∨ 1 ≤ fk) (p_4 : nd ≤ 2 * at0 - tz tk0 + 50) (p_5 : at0 ≤ le) : wk X dd 286 [.ref 66] (rV c0 c1 G A T) (fun o V' => ∃ (G' : Nat → Int) (A' : Nat → Nat → Int) (r : Int) (at2 : Int) (fk2 : Int) (op2 : Int) (nd2 : Int) (tk2 : Int), V' = rV c0 c1 G' A' T ∧ o = .inl (some (.int (i32 r))) ∧ Wk G' A' ∧ Fr [10, 11, 12, 13, 14, 15, 16, 17, 18, 31] [15, 16, 17, 18, 19, 20, 21, 22, 24, 28] G A G' A' ∧ ((-2147483648 : Int) ≤ r ∧ r ≤ 2147483647) ∧ G' 10 = at2 ∧ G' 16 = fk2 ∧ G' 15 = op2 ∧ G' 31 = nd2 ∧ G' 11 = tk2 ∧ (at0 ≤ at2) ∧ (at2 ≤ le) ∧ (nd ≤ nd2) ∧ (op2 = op0) ∧ (0 ≤ r) ∧ (r ≤ nd2) ∧ (((1 ≤ fk) ∧ (1 ≤ fk2) ∧ (nd2 = nd) ∧ (at2 = at0) ∧ (tk2 = tk0) ∧ (tz tk2 = tz tk0)) ∨ ((fk = 0) ∧ (1 ≤ fk2) ∧ (nd2 - nd ≤ (2 * at2 - tz tk2) - (2 * at0 - tz tk0) + 1)) ∨ ((fk = 0) ∧ (fk2 = 0) ∧ (nd2 - nd ≤ (2 * at2 - tz tk2) - (2 * at0 - tz tk0))))) := by
  obtain ⟨d, rfl⟩ : ∃ d, dd = d + 1 := ⟨dd - 1, by omega⟩
  refine wk_of (e := jm286) rfl (Nat.le_of_ble_eq_true rfl) ?_
  show wj X d jm286 (0, [(0, .ref 66)], [], rV c0 c1 G A T) _
  have hF0 : Fr [10, 11, 12, 13, 14, 15, 16, 17, 18, 31] [15, 16, 17, 18, 19, 20, 21, 22, 24, 28] G A G A := Fr_rf
  have b_ln : (0 : Int) ≤ ln ∧ ln ≤ 3000 := e_ln ▸ hW.1 9
  have b_le : (0 : Int) ≤ le ∧ le ≤ 3000 := e_le ▸ hW.2 4 _
  have b_at0 : (0 : Int) ≤ at0 ∧ at0 ≤ 3002 := e_at0 ▸ hW.1 10
  have b_fk : (0 : Int) ≤ fk ∧ fk ≤ 6 := e_fk ▸ hW.1 16
  have b_op0 : (-2147483648 : Int) ≤ op0 ∧ op0 ≤ 2147483647 := e_op0 ▸ hW.1 15
  have b_nd : (0 : Int) ≤ nd ∧ nd ≤ 6999 := e_nd ▸ hW.1 31
  have z_tk0 := tz_f tk0
  have b_tk0 : (0 : Int) ≤ tk0 ∧ tk0 ≤ 5 := e_tk0 ▸ hW.1 11
  refine jx_ld (pc' := 1) (l' := [(0, .ref 66)]) (st' := [.ref 66]) rfl (jl_aloadn rfl) ?_
  refine jx_vr (pc' := 4) (as := []) (st := []) rfl rfl rfl rfl ⟨rfl, rfl, Nat.le_of_ble_eq_true rfl⟩ rfl rfl (c_bad (dd := d) (hd := by omega) (hW := hW)  (fk := fk) (e_fk := show G 16 = fk from (e_fk))    ) (fun o V' hq => ?_)
  obtain ⟨r1, rfl, rfl, b2, q3⟩ := hq
  refine .inr ⟨_, rfl, ?_⟩
  rcases q3 with ⟨rfl, a4⟩ | ⟨rfl, a5⟩
  · have _q : True := trivial
    refine jx_if_eq (pc' := 7) (tg := 9) rfl rfl rfl (by omega) (by omega) (fun h6 => ?_) (fun h6 => ?_)
    · have _q := h6
      exact absurd h6 (by omega)
    · have _q := h6
      refine jx_ar (pc' := 8) (st' := [.int (i32 (0))]) rfl rfl rfl rfl ?_
      refine jx_rt (v := some (.int (i32 (0)))) rfl rfl rfl rfl rfl rfl ?_
      have z7 := tz_f (tk0)
      exact ⟨_, _, _, at0, fk, op0, nd, tk0, rfl, rfl, hW, hF0, by omega, (e_at0), (e_fk), (e_op0), (e_nd), (e_tk0), by omega, by omega, by omega, by omega, by omega, by omega, by first | exact Or.inl (⟨by omega, by omega, by omega, by omega, by omega, by omega⟩) | exact Or.inr (Or.inl (⟨by omega, by omega, by omega⟩)) | exact Or.inr (Or.inr ((⟨by omega, by omega, by omega⟩)))⟩
  · have _q : True := trivial
    refine jx_if_eq (pc' := 7) (tg := 9) rfl rfl rfl (by omega) (by omega) (fun h8 => ?_) (fun h8 => ?_)
    · have _q := h8
      exfalso
      omega
    · have _q := h8
      exact absurd h8 (by omega)
theorem RE_all (X : jX) : ∀ k, RE X k
  | 0 => @c_readE_0 X
  | k + 1 => @c_readE_s X k (RE_all X k)

