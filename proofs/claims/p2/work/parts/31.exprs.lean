def RE (X : jX) (k : Nat) : Prop := ∀ ⦃dd : Nat⦄ ⦃c0 c1 : jC⦄ ⦃G : Nat → Int⦄ ⦃A : Nat → Nat → Int⦄ ⦃T : jH⦄ ⦃ln le at0 fk op0 nd tk0 : Int⦄ (hd : 6 * k + 10 ≤ dd) (hW : Wk G A) (e_ln : G 9 = ln) (e_le : A 4 (ln).toNat = le) (e_at0 : G 10 = at0) (e_fk : G 16 = fk) (e_op0 : G 15 = op0) (e_nd : G 31 = nd) (e_tk0 : G 11 = tk0) (p_0 : 0 ≤ op0) (p_1 : op0 ≤ 9) (p_2 : op0 ≤ 8 ∨ 1 ≤ fk) (p_3 : 9 - op0 ≤ (k : Int) ∨ 1 ≤ fk) (p_4 : nd ≤ 2 * at0 - tz tk0 + 50) (p_5 : at0 ≤ le), wk X dd 286 [.ref 66] (rV c0 c1 G A T) (fun o V' => ∃ (G' : Nat → Int) (A' : Nat → Nat → Int) (r : Int) (at2 : Int) (fk2 : Int) (op2 : Int) (nd2 : Int) (tk2 : Int), V' = rV c0 c1 G' A' T ∧ o = .inl (some (.int (i32 r))) ∧ Wk G' A' ∧ Fr [10, 11, 12, 13, 14, 15, 16, 17, 18, 31] [15, 16, 17, 18, 19, 20, 21, 22, 24, 28] G A G' A' ∧ ((-2147483648 : Int) ≤ r ∧ r ≤ 2147483647) ∧ G' 10 = at2 ∧ G' 16 = fk2 ∧ G' 15 = op2 ∧ G' 31 = nd2 ∧ G' 11 = tk2 ∧ (at0 ≤ at2) ∧ (at2 ≤ le) ∧ (nd ≤ nd2) ∧ (op2 = op0) ∧ (0 ≤ r) ∧ (r ≤ nd2) ∧ (((1 ≤ fk) ∧ (1 ≤ fk2) ∧ (nd2 = nd) ∧ (at2 = at0) ∧ (tk2 = tk0) ∧ (tz tk2 = tz tk0)) ∨ ((fk = 0) ∧ (1 ≤ fk2) ∧ (nd2 - nd ≤ (2 * at2 - tz tk2) - (2 * at0 - tz tk0) + 1)) ∨ ((fk = 0) ∧ (fk2 = 0) ∧ (nd2 - nd ≤ (2 * at2 - tz tk2) - (2 * at0 - tz tk0)))))
set_option maxRecDepth 20000 in
set_option maxHeartbeats 4000000 in
theorem c_readIndex {X : jX} {k : Nat} (hE : RE X k) {dd : Nat} {c0 c1 : jC} {G : Nat → Int} {A : Nat → Nat → Int} {T : jH} {ln le at0 fk op0 nd tk0 : Int} (hd : 6 * k + 12 ≤ dd) (hW : Wk G A) (e_ln : G 9 = ln) (e_le : A 4 (ln).toNat = le) (e_at0 : G 10 = at0) (e_fk : G 16 = fk) (e_op0 : G 15 = op0) (e_nd : G 31 = nd) (e_tk0 : G 11 = tk0) (p_0 : 0 ≤ op0) (p_1 : op0 ≤ 9) (p_2 : op0 ≤ 8 ∨ 1 ≤ fk) (p_3 : 9 - op0 ≤ ((k + 1 : Nat) : Int) ∨ 1 ≤ fk) (p_4 : nd ≤ 2 * at0 - tz tk0 + 50) (p_5 : at0 ≤ le) (p_6 : 1 ≤ tk0) (p_7 : op0 ≤ 8) (p_8 : fk = 0) : wk X dd 284 [.ref 66] (rV c0 c1 G A T) (fun o V' => ∃ (G' : Nat → Int) (A' : Nat → Nat → Int) (r : Int) (at2 : Int) (fk2 : Int) (op2 : Int) (nd2 : Int) (tk2 : Int), V' = rV c0 c1 G' A' T ∧ o = .inl (some (.int (i32 r))) ∧ Wk G' A' ∧ Fr [10, 11, 12, 13, 14, 15, 16, 17, 18, 31] [15, 16, 17, 18, 19, 20, 21, 22, 24, 28] G A G' A' ∧ ((-2147483648 : Int) ≤ r ∧ r ≤ 2147483647) ∧ G' 10 = at2 ∧ G' 16 = fk2 ∧ G' 15 = op2 ∧ G' 31 = nd2 ∧ G' 11 = tk2 ∧ (at0 ≤ at2) ∧ (at2 ≤ le) ∧ (nd ≤ nd2) ∧ (op2 = op0) ∧ (0 ≤ r) ∧ (r ≤ nd2) ∧ (((fk = 0) ∧ (1 ≤ fk2) ∧ (nd2 - nd ≤ (2 * at2 - tz tk2) - (2 * at0 - tz tk0) + 1)) ∨ ((fk = 0) ∧ (fk2 = 0) ∧ (nd2 - nd ≤ (2 * at2 - tz tk2) - (2 * at0 - tz tk0))))) := by
  obtain ⟨d, rfl⟩ : ∃ d, dd = d + 1 := ⟨dd - 1, by omega⟩
  refine wk_of (e := jm284) rfl (Nat.le_of_ble_eq_true rfl) ?_
  show wj X d jm284 (0, [(0, .ref 66)], [], rV c0 c1 G A T) _
  have hF0 : Fr [10, 11, 12, 13, 14, 15, 16, 17, 18, 31] [15, 16, 17, 18, 19, 20, 21, 22, 24, 28] G A G A := Fr_rf
  have b_ln : (0 : Int) ≤ ln ∧ ln ≤ 3000 := e_ln ▸ hW.1 9
  have b_le : (0 : Int) ≤ le ∧ le ≤ 3000 := e_le ▸ hW.2 4 _
  have b_at0 : (0 : Int) ≤ at0 ∧ at0 ≤ 3002 := e_at0 ▸ hW.1 10
  have b_fk : (0 : Int) ≤ fk ∧ fk ≤ 6 := e_fk ▸ hW.1 16
  have b_op0 : (-2147483648 : Int) ≤ op0 ∧ op0 ≤ 2147483647 := e_op0 ▸ hW.1 15
  have b_nd : (0 : Int) ≤ nd ∧ nd ≤ 6999 := e_nd ▸ hW.1 31
  have z_tk0 := tz_f tk0
  have b_tk0 : (0 : Int) ≤ tk0 ∧ tk0 ≤ 5 := e_tk0 ▸ hW.1 11
  refine jx_ld (pc' := 1) (l' := [(0, .ref 66)]) (st' := [.ref 66]) rfl (jl_aloadn rfl) ?_
  refine jx_vr (pc' := 4) (as := []) (st := []) rfl rfl rfl rfl ⟨rfl, rfl, Nat.le_of_ble_eq_true rfl⟩ rfl rfl (c_open (dd := d) (hd := by omega) (hW := hW)  (fk := fk) (e_fk := show G 16 = fk from (e_fk)) (op0 := op0) (e_op0 := show G 15 = op0 from (e_op0))    (p_0 := by omega)) (fun o V' hq => ?_)
  obtain ⟨G1, A2, fk2_3, op2_4, rfl, rfl, hW5, hF6, e7, e8, p9, q10⟩ := hq
  have hF11 := Fr_tr hF0 hF6 (Fr_sub (by decide)) (Fr_sub (by decide))
  have bfk2_3 : (0 : Int) ≤ fk2_3 ∧ fk2_3 ≤ 6 := e7 ▸ hW5.1 16
  have bop2_4 : (-2147483648 : Int) ≤ op2_4 ∧ op2_4 ≤ 2147483647 := e8 ▸ hW5.1 15
  refine .inl ⟨rfl, ?_⟩
  rcases q10 with a12 | ⟨a13, a14, a15⟩
  · have _q : True := trivial
    refine jx_ld (pc' := 5) (l' := [(0, .ref 66)]) (st' := [.ref 66]) rfl (jl_aloadn rfl) ?_
    refine jx_ar (pc' := 6) (st' := [.int (i32 (1)), .ref 66]) rfl rfl rfl rfl ?_
    refine jx_vr (pc' := 9) (as := [.int (i32 (1))]) (st := []) rfl rfl rfl rfl ⟨rfl, rfl, Nat.le_of_ble_eq_true rfl⟩ rfl rfl (c_need (dd := d) (hd := by omega) (hW := hW5) (g := 1) (ln := ln) (e_ln := show G1 9 = ln from ((hF6.1 9 rfl).trans (e_ln))) (le := le) (e_le := show A2 4 (ln).toNat = le from (congrFun (hF6.2 4 rfl) _).trans (e_le)) (at0 := at0) (e_at0 := show G1 10 = at0 from ((hF6.1 10 rfl).trans (e_at0))) (fk := fk2_3) (e_fk := show G1 16 = fk2_3 from (e7)) (tk0 := tk0) (e_tk0 := show G1 11 = tk0 from ((hF6.1 11 rfl).trans (e_tk0)))  (h_g := by omega)  (p_0 := by omega)) (fun o V' hq => ?_)
    obtain ⟨G16, A17, at2_18, tk2_19, fk2_20, rfl, rfl, hW21, hF22, e23, e24, e25, p26, p27, q28⟩ := hq
    have hF29 := Fr_tr hF11 hF22 (Fr_sub (by decide)) (Fr_sub (by decide))
    have bat2_18 : (0 : Int) ≤ at2_18 ∧ at2_18 ≤ 3002 := e23 ▸ hW21.1 10
    have ztk2_19 := tz_b tk2_19
    have btk2_19 : (0 : Int) ≤ tk2_19 ∧ tk2_19 ≤ 5 := e24 ▸ hW21.1 11
    have bfk2_20 : (0 : Int) ≤ fk2_20 ∧ fk2_20 ≤ 6 := e25 ▸ hW21.1 16
    refine .inl ⟨rfl, ?_⟩
    rcases q28 with ⟨a30, a31, a32, a33⟩ | ⟨a34, a35, a36, a37⟩
    · have _q : True := trivial
      refine jx_ld (pc' := 10) (l' := [(0, .ref 66)]) (st' := [.ref 66]) rfl (jl_aloadn rfl) ?_
      refine jx_vr (pc' := 13) (as := []) (st := []) rfl rfl rfl rfl ⟨rfl, rfl, Nat.le_of_ble_eq_true rfl⟩ rfl rfl (hE (dd := d) (hd := by omega) (hW := hW21)  (ln := ln) (e_ln := show G16 9 = ln from ((hF22.1 9 rfl).trans ((hF6.1 9 rfl).trans (e_ln)))) (le := le) (e_le := show A17 4 (ln).toNat = le from (congrFun ((hF22.2 4 rfl).trans (hF6.2 4 rfl)) _).trans (e_le)) (at0 := at2_18) (e_at0 := show G16 10 = at2_18 from (e23)) (fk := fk2_20) (e_fk := show G16 16 = fk2_20 from (e25)) (op0 := op2_4) (e_op0 := show G16 15 = op2_4 from ((hF22.1 15 rfl).trans (e8))) (nd := nd) (e_nd := show G16 31 = nd from ((hF22.1 31 rfl).trans ((hF6.1 31 rfl).trans (e_nd)))) (tk0 := tk2_19) (e_tk0 := show G16 11 = tk2_19 from (e24))    (p_0 := by omega) (p_1 := by omega) (p_2 := by omega) (p_3 := by omega) (p_4 := by omega) (p_5 := by omega)) (fun o V' hq => ?_)
      obtain ⟨G38, A39, r40, at2_41, fk2_42, op2_43, nd2_44, tk2_45, rfl, rfl, hW46, hF47, b48, e49, e50, e51, e52, e53, p54, p55, p56, p57, p58, p59, q60⟩ := hq
      have hF61 := Fr_tr hF29 hF47 (Fr_sub (by decide)) (Fr_sub (by decide))
      have bat2_41 : (0 : Int) ≤ at2_41 ∧ at2_41 ≤ 3002 := e49 ▸ hW46.1 10
      have bfk2_42 : (0 : Int) ≤ fk2_42 ∧ fk2_42 ≤ 6 := e50 ▸ hW46.1 16
      have bop2_43 : (-2147483648 : Int) ≤ op2_43 ∧ op2_43 ≤ 2147483647 := e51 ▸ hW46.1 15
      have bnd2_44 : (0 : Int) ≤ nd2_44 ∧ nd2_44 ≤ 6999 := e52 ▸ hW46.1 31
      have ztk2_45 := tz_b tk2_45
      have btk2_45 : (0 : Int) ≤ tk2_45 ∧ tk2_45 ≤ 5 := e53 ▸ hW46.1 11
      refine .inr ⟨_, rfl, ?_⟩
      rcases q60 with ⟨a62, a63, a64, a65, a66, a67⟩ | ⟨a68, a69, a70⟩ | ⟨a71, a72, a73⟩
      · have _q : True := trivial
        refine jx_ld (pc' := 14) (l' := jSto1 [(0, .ref 66)] 1 (.int (i32 (r40)))) (st' := []) rfl rfl ?_
        obtain ⟨L74, eL74⟩ : ∃ q, q = jSto1 [(0, .ref 66)] 1 (.int (i32 (r40))) := ⟨_, rfl⟩
        rw [← eL74]
        have gL74_0 : jGet L74 0 = some (.ref 66) := eL74 ▸ jg_ne (by decide) (rfl : jGet [(0, .ref 66)] 0 = some (.ref 66)) rfl
        have gL74_1 : jGet L74 1 = some (.int (i32 (r40))) := eL74 ▸ jg_eq
        refine jx_ld (pc' := 15) (l' := L74) (st' := [.ref 66]) rfl (jl_aloadn gL74_0) ?_
        refine jx_ld (pc' := 16) (l' := L74) (st' := [.ref 66, .ref 66]) rfl (jl_aloadn gL74_0) ?_
        refine jx_ar (pc' := 18) (st' := [.int (i32 (93)), .ref 66, .ref 66]) rfl rfl rfl rfl ?_
        have b75 : (-2147483648 : Int) ≤ G38 13 ∧ G38 13 ≤ 2147483647 := hW46.1 13
        refine jx_vr (pc' := 21) (as := [.int (i32 (93))]) (st := [.ref 66]) rfl rfl rfl rfl ⟨rfl, rfl, Nat.le_of_ble_eq_true rfl⟩ rfl rfl (c_is (dd := d) (hd := by omega) (hW := hW46) (k := 93) (tk := tk2_45) (e_tk := show G38 11 = tk2_45 from (e53)) (tn := G38 13) (e_tn := show G38 13 = G38 13 from rfl)  (h_k := by omega)  ) (fun o V' hq => ?_)
        obtain ⟨r76, rfl, rfl, b77, q78⟩ := hq
        refine .inr ⟨_, rfl, ?_⟩
        rcases q78 with ⟨rfl, a79, a80, a81⟩ | rfl
        · have _q : True := trivial
          refine jx_vr (pc' := 24) (as := [.int (i32 (1))]) (st := []) rfl rfl rfl rfl ⟨rfl, rfl, Nat.le_of_ble_eq_true rfl⟩ rfl rfl (c_need (dd := d) (hd := by omega) (hW := hW46) (g := 1) (ln := ln) (e_ln := show G38 9 = ln from ((hF47.1 9 rfl).trans ((hF22.1 9 rfl).trans ((hF6.1 9 rfl).trans (e_ln))))) (le := le) (e_le := show A39 4 (ln).toNat = le from (congrFun ((hF47.2 4 rfl).trans ((hF22.2 4 rfl).trans (hF6.2 4 rfl))) _).trans (e_le)) (at0 := at2_41) (e_at0 := show G38 10 = at2_41 from (e49)) (fk := fk2_42) (e_fk := show G38 16 = fk2_42 from (e50)) (tk0 := tk2_45) (e_tk0 := show G38 11 = tk2_45 from (e53))  (h_g := by omega)  (p_0 := by omega)) (fun o V' hq => ?_)
          obtain ⟨G82, A83, at2_84, tk2_85, fk2_86, rfl, rfl, hW87, hF88, e89, e90, e91, p92, p93, q94⟩ := hq
          have hF95 := Fr_tr hF61 hF88 (Fr_sub (by decide)) (Fr_sub (by decide))
          have bat2_84 : (0 : Int) ≤ at2_84 ∧ at2_84 ≤ 3002 := e89 ▸ hW87.1 10
          have ztk2_85 := tz_b tk2_85
          have btk2_85 : (0 : Int) ≤ tk2_85 ∧ tk2_85 ≤ 5 := e90 ▸ hW87.1 11
          have bfk2_86 : (0 : Int) ≤ fk2_86 ∧ fk2_86 ≤ 6 := e91 ▸ hW87.1 16
          refine .inl ⟨rfl, ?_⟩
          rcases q94 with ⟨a96, a97, a98, a99⟩ | ⟨a100, a101, a102, a103⟩
          · have _q : True := trivial
            refine jx_ld (pc' := 25) (l' := L74) (st' := [.ref 66]) rfl (jl_aloadn gL74_0) ?_
            refine jx_ar (pc' := 26) (st' := [.ref 66, .ref 66]) rfl rfl rfl rfl ?_
            refine jr_get (pc' := 29) (i := 15) (v := .int (i32 (op2_43))) rfl rfl (by decide) (rFv_eq (by decide) (show G82 15 = op2_43 from ((hF88.1 15 rfl).trans (e51)))) rfl ?_
            refine jx_ar (pc' := 30) (st' := [.int (i32 (1)), .int (i32 (op2_43)), .ref 66]) rfl rfl rfl rfl ?_
            refine jx_sub (pc' := 31) rfl rfl ?_
            refine jr_put (pc' := 34) (i := 15) (z := (op2_43 - 1)) rfl rfl (by decide) rfl rfl rfl rfl rfl rfl ?_
            have hW104 : Wk (uG G82 15 ((op2_43 - 1))) A83 := Wk_g hW87 (show (-2147483648 : Int) ≤ (op2_43 - 1) by omega) (show (op2_43 - 1) ≤ (2147483647 : Int) by omega)
            have hF105 := Fr_g (z := (op2_43 - 1)) (i := 15) hF95 (by decide)
            refine jx_ld (pc' := 35) (l' := L74) (st' := [.int (i32 (r40))]) rfl (jl_iloadn gL74_1) ?_
            refine jx_rt (v := some (.int (i32 (r40)))) rfl rfl rfl rfl rfl rfl ?_
            have z106 := tz_f (tk2_85)
            exact ⟨_, _, _, at2_84, fk2_86, (op2_43 - 1), nd2_44, tk2_85, rfl, rfl, hW104, hF105, by omega, (e89), (e91), rfl, ((hF88.1 31 rfl).trans (e52)), (e90), by omega, by omega, by omega, by omega, by omega, by omega, by first | exact Or.inl (⟨by omega, by omega, by omega⟩) | exact Or.inr ((⟨by omega, by omega, by omega⟩))⟩
          · have _q : True := trivial
            exfalso
            omega
        · have _q : True := trivial
          refine jx_vr (pc' := 24) (as := [.int (i32 (0))]) (st := []) rfl rfl rfl rfl ⟨rfl, rfl, Nat.le_of_ble_eq_true rfl⟩ rfl rfl (c_need (dd := d) (hd := by omega) (hW := hW46) (g := 0) (ln := ln) (e_ln := show G38 9 = ln from ((hF47.1 9 rfl).trans ((hF22.1 9 rfl).trans ((hF6.1 9 rfl).trans (e_ln))))) (le := le) (e_le := show A39 4 (ln).toNat = le from (congrFun ((hF47.2 4 rfl).trans ((hF22.2 4 rfl).trans (hF6.2 4 rfl))) _).trans (e_le)) (at0 := at2_41) (e_at0 := show G38 10 = at2_41 from (e49)) (fk := fk2_42) (e_fk := show G38 16 = fk2_42 from (e50)) (tk0 := tk2_45) (e_tk0 := show G38 11 = tk2_45 from (e53))  (h_g := by omega)  (p_0 := by omega)) (fun o V' hq => ?_)
          obtain ⟨G107, A108, at2_109, tk2_110, fk2_111, rfl, rfl, hW112, hF113, e114, e115, e116, p117, p118, q119⟩ := hq
          have hF120 := Fr_tr hF61 hF113 (Fr_sub (by decide)) (Fr_sub (by decide))
          have bat2_109 : (0 : Int) ≤ at2_109 ∧ at2_109 ≤ 3002 := e114 ▸ hW112.1 10
          have ztk2_110 := tz_b tk2_110
          have btk2_110 : (0 : Int) ≤ tk2_110 ∧ tk2_110 ≤ 5 := e115 ▸ hW112.1 11
          have bfk2_111 : (0 : Int) ≤ fk2_111 ∧ fk2_111 ≤ 6 := e116 ▸ hW112.1 16
          refine .inl ⟨rfl, ?_⟩
          rcases q119 with ⟨a121, a122, a123, a124⟩ | ⟨a125, a126, a127, a128⟩
          · have _q : True := trivial
            refine jx_ld (pc' := 25) (l' := L74) (st' := [.ref 66]) rfl (jl_aloadn gL74_0) ?_
            refine jx_ar (pc' := 26) (st' := [.ref 66, .ref 66]) rfl rfl rfl rfl ?_
            refine jr_get (pc' := 29) (i := 15) (v := .int (i32 (op2_43))) rfl rfl (by decide) (rFv_eq (by decide) (show G107 15 = op2_43 from ((hF113.1 15 rfl).trans (e51)))) rfl ?_
            refine jx_ar (pc' := 30) (st' := [.int (i32 (1)), .int (i32 (op2_43)), .ref 66]) rfl rfl rfl rfl ?_
            refine jx_sub (pc' := 31) rfl rfl ?_
            refine jr_put (pc' := 34) (i := 15) (z := (op2_43 - 1)) rfl rfl (by decide) rfl rfl rfl rfl rfl rfl ?_
            have hW129 : Wk (uG G107 15 ((op2_43 - 1))) A108 := Wk_g hW112 (show (-2147483648 : Int) ≤ (op2_43 - 1) by omega) (show (op2_43 - 1) ≤ (2147483647 : Int) by omega)
            have hF130 := Fr_g (z := (op2_43 - 1)) (i := 15) hF120 (by decide)
            refine jx_ld (pc' := 35) (l' := L74) (st' := [.int (i32 (r40))]) rfl (jl_iloadn gL74_1) ?_
            refine jx_rt (v := some (.int (i32 (r40)))) rfl rfl rfl rfl rfl rfl ?_
            have z131 := tz_f (tk2_110)
            exact ⟨_, _, _, at2_109, fk2_111, (op2_43 - 1), nd2_44, tk2_110, rfl, rfl, hW129, hF130, by omega, (e114), (e116), rfl, ((hF113.1 31 rfl).trans (e52)), (e115), by omega, by omega, by omega, by omega, by omega, by omega, by first | exact Or.inl (⟨by omega, by omega, by omega⟩) | exact Or.inr ((⟨by omega, by omega, by omega⟩))⟩
          · have _q : True := trivial
            exfalso
            omega
      · have _q : True := trivial
        exfalso
        omega
      · have _q : True := trivial
        exfalso
        omega
    · have _q : True := trivial
      exfalso
      omega
  · have _q : True := trivial
    refine jx_ld (pc' := 5) (l' := [(0, .ref 66)]) (st' := [.ref 66]) rfl (jl_aloadn rfl) ?_
    refine jx_ar (pc' := 6) (st' := [.int (i32 (1)), .ref 66]) rfl rfl rfl rfl ?_
    refine jx_vr (pc' := 9) (as := [.int (i32 (1))]) (st := []) rfl rfl rfl rfl ⟨rfl, rfl, Nat.le_of_ble_eq_true rfl⟩ rfl rfl (c_need (dd := d) (hd := by omega) (hW := hW5) (g := 1) (ln := ln) (e_ln := show G1 9 = ln from ((hF6.1 9 rfl).trans (e_ln))) (le := le) (e_le := show A2 4 (ln).toNat = le from (congrFun (hF6.2 4 rfl) _).trans (e_le)) (at0 := at0) (e_at0 := show G1 10 = at0 from ((hF6.1 10 rfl).trans (e_at0))) (fk := fk2_3) (e_fk := show G1 16 = fk2_3 from (e7)) (tk0 := tk0) (e_tk0 := show G1 11 = tk0 from ((hF6.1 11 rfl).trans (e_tk0)))  (h_g := by omega)  (p_0 := by omega)) (fun o V' hq => ?_)
    obtain ⟨G132, A133, at2_134, tk2_135, fk2_136, rfl, rfl, hW137, hF138, e139, e140, e141, p142, p143, q144⟩ := hq
    have hF145 := Fr_tr hF11 hF138 (Fr_sub (by decide)) (Fr_sub (by decide))
    have bat2_134 : (0 : Int) ≤ at2_134 ∧ at2_134 ≤ 3002 := e139 ▸ hW137.1 10
    have ztk2_135 := tz_b tk2_135
    have btk2_135 : (0 : Int) ≤ tk2_135 ∧ tk2_135 ≤ 5 := e140 ▸ hW137.1 11
    have bfk2_136 : (0 : Int) ≤ fk2_136 ∧ fk2_136 ≤ 6 := e141 ▸ hW137.1 16
    refine .inl ⟨rfl, ?_⟩
    rcases q144 with ⟨a146, a147, a148, a149⟩ | ⟨a150, a151, a152, a153⟩
    · have _q : True := trivial
      refine jx_ld (pc' := 10) (l' := [(0, .ref 66)]) (st' := [.ref 66]) rfl (jl_aloadn rfl) ?_
      refine jx_vr (pc' := 13) (as := []) (st := []) rfl rfl rfl rfl ⟨rfl, rfl, Nat.le_of_ble_eq_true rfl⟩ rfl rfl (hE (dd := d) (hd := by omega) (hW := hW137)  (ln := ln) (e_ln := show G132 9 = ln from ((hF138.1 9 rfl).trans ((hF6.1 9 rfl).trans (e_ln)))) (le := le) (e_le := show A133 4 (ln).toNat = le from (congrFun ((hF138.2 4 rfl).trans (hF6.2 4 rfl)) _).trans (e_le)) (at0 := at2_134) (e_at0 := show G132 10 = at2_134 from (e139)) (fk := fk2_136) (e_fk := show G132 16 = fk2_136 from (e141)) (op0 := op2_4) (e_op0 := show G132 15 = op2_4 from ((hF138.1 15 rfl).trans (e8))) (nd := nd) (e_nd := show G132 31 = nd from ((hF138.1 31 rfl).trans ((hF6.1 31 rfl).trans (e_nd)))) (tk0 := tk2_135) (e_tk0 := show G132 11 = tk2_135 from (e140))    (p_0 := by omega) (p_1 := by omega) (p_2 := by omega) (p_3 := by omega) (p_4 := by omega) (p_5 := by omega)) (fun o V' hq => ?_)
      obtain ⟨G154, A155, r156, at2_157, fk2_158, op2_159, nd2_160, tk2_161, rfl, rfl, hW162, hF163, b164, e165, e166, e167, e168, e169, p170, p171, p172, p173, p174, p175, q176⟩ := hq
      have hF177 := Fr_tr hF145 hF163 (Fr_sub (by decide)) (Fr_sub (by decide))
      have bat2_157 : (0 : Int) ≤ at2_157 ∧ at2_157 ≤ 3002 := e165 ▸ hW162.1 10
      have bfk2_158 : (0 : Int) ≤ fk2_158 ∧ fk2_158 ≤ 6 := e166 ▸ hW162.1 16
      have bop2_159 : (-2147483648 : Int) ≤ op2_159 ∧ op2_159 ≤ 2147483647 := e167 ▸ hW162.1 15
      have bnd2_160 : (0 : Int) ≤ nd2_160 ∧ nd2_160 ≤ 6999 := e168 ▸ hW162.1 31
      have ztk2_161 := tz_b tk2_161
      have btk2_161 : (0 : Int) ≤ tk2_161 ∧ tk2_161 ≤ 5 := e169 ▸ hW162.1 11
      refine .inr ⟨_, rfl, ?_⟩
      rcases q176 with ⟨a178, a179, a180, a181, a182, a183⟩ | ⟨a184, a185, a186⟩ | ⟨a187, a188, a189⟩
      · have _q : True := trivial
        refine jx_ld (pc' := 14) (l' := jSto1 [(0, .ref 66)] 1 (.int (i32 (r156)))) (st' := []) rfl rfl ?_
        obtain ⟨L190, eL190⟩ : ∃ q, q = jSto1 [(0, .ref 66)] 1 (.int (i32 (r156))) := ⟨_, rfl⟩
        rw [← eL190]
        have gL190_0 : jGet L190 0 = some (.ref 66) := eL190 ▸ jg_ne (by decide) (rfl : jGet [(0, .ref 66)] 0 = some (.ref 66)) rfl
        have gL190_1 : jGet L190 1 = some (.int (i32 (r156))) := eL190 ▸ jg_eq
        refine jx_ld (pc' := 15) (l' := L190) (st' := [.ref 66]) rfl (jl_aloadn gL190_0) ?_
        refine jx_ld (pc' := 16) (l' := L190) (st' := [.ref 66, .ref 66]) rfl (jl_aloadn gL190_0) ?_
        refine jx_ar (pc' := 18) (st' := [.int (i32 (93)), .ref 66, .ref 66]) rfl rfl rfl rfl ?_
        have b191 : (-2147483648 : Int) ≤ G154 13 ∧ G154 13 ≤ 2147483647 := hW162.1 13
        refine jx_vr (pc' := 21) (as := [.int (i32 (93))]) (st := [.ref 66]) rfl rfl rfl rfl ⟨rfl, rfl, Nat.le_of_ble_eq_true rfl⟩ rfl rfl (c_is (dd := d) (hd := by omega) (hW := hW162) (k := 93) (tk := tk2_161) (e_tk := show G154 11 = tk2_161 from (e169)) (tn := G154 13) (e_tn := show G154 13 = G154 13 from rfl)  (h_k := by omega)  ) (fun o V' hq => ?_)
        obtain ⟨r192, rfl, rfl, b193, q194⟩ := hq
        refine .inr ⟨_, rfl, ?_⟩
        rcases q194 with ⟨rfl, a195, a196, a197⟩ | rfl
        · have _q : True := trivial
          refine jx_vr (pc' := 24) (as := [.int (i32 (1))]) (st := []) rfl rfl rfl rfl ⟨rfl, rfl, Nat.le_of_ble_eq_true rfl⟩ rfl rfl (c_need (dd := d) (hd := by omega) (hW := hW162) (g := 1) (ln := ln) (e_ln := show G154 9 = ln from ((hF163.1 9 rfl).trans ((hF138.1 9 rfl).trans ((hF6.1 9 rfl).trans (e_ln))))) (le := le) (e_le := show A155 4 (ln).toNat = le from (congrFun ((hF163.2 4 rfl).trans ((hF138.2 4 rfl).trans (hF6.2 4 rfl))) _).trans (e_le)) (at0 := at2_157) (e_at0 := show G154 10 = at2_157 from (e165)) (fk := fk2_158) (e_fk := show G154 16 = fk2_158 from (e166)) (tk0 := tk2_161) (e_tk0 := show G154 11 = tk2_161 from (e169))  (h_g := by omega)  (p_0 := by omega)) (fun o V' hq => ?_)
          obtain ⟨G198, A199, at2_200, tk2_201, fk2_202, rfl, rfl, hW203, hF204, e205, e206, e207, p208, p209, q210⟩ := hq
          have hF211 := Fr_tr hF177 hF204 (Fr_sub (by decide)) (Fr_sub (by decide))
          have bat2_200 : (0 : Int) ≤ at2_200 ∧ at2_200 ≤ 3002 := e205 ▸ hW203.1 10
          have ztk2_201 := tz_b tk2_201
          have btk2_201 : (0 : Int) ≤ tk2_201 ∧ tk2_201 ≤ 5 := e206 ▸ hW203.1 11
          have bfk2_202 : (0 : Int) ≤ fk2_202 ∧ fk2_202 ≤ 6 := e207 ▸ hW203.1 16
          refine .inl ⟨rfl, ?_⟩
          rcases q210 with ⟨a212, a213, a214, a215⟩ | ⟨a216, a217, a218, a219⟩
          · have _q : True := trivial
            refine jx_ld (pc' := 25) (l' := L190) (st' := [.ref 66]) rfl (jl_aloadn gL190_0) ?_
            refine jx_ar (pc' := 26) (st' := [.ref 66, .ref 66]) rfl rfl rfl rfl ?_
            refine jr_get (pc' := 29) (i := 15) (v := .int (i32 (op2_159))) rfl rfl (by decide) (rFv_eq (by decide) (show G198 15 = op2_159 from ((hF204.1 15 rfl).trans (e167)))) rfl ?_
            refine jx_ar (pc' := 30) (st' := [.int (i32 (1)), .int (i32 (op2_159)), .ref 66]) rfl rfl rfl rfl ?_
            refine jx_sub (pc' := 31) rfl rfl ?_
            refine jr_put (pc' := 34) (i := 15) (z := (op2_159 - 1)) rfl rfl (by decide) rfl rfl rfl rfl rfl rfl ?_
            have hW220 : Wk (uG G198 15 ((op2_159 - 1))) A199 := Wk_g hW203 (show (-2147483648 : Int) ≤ (op2_159 - 1) by omega) (show (op2_159 - 1) ≤ (2147483647 : Int) by omega)
            have hF221 := Fr_g (z := (op2_159 - 1)) (i := 15) hF211 (by decide)
            refine jx_ld (pc' := 35) (l' := L190) (st' := [.int (i32 (r156))]) rfl (jl_iloadn gL190_1) ?_
            refine jx_rt (v := some (.int (i32 (r156)))) rfl rfl rfl rfl rfl rfl ?_
            have z222 := tz_f (tk2_201)
            exact ⟨_, _, _, at2_200, fk2_202, (op2_159 - 1), nd2_160, tk2_201, rfl, rfl, hW220, hF221, by omega, (e205), (e207), rfl, ((hF204.1 31 rfl).trans (e168)), (e206), by omega, by omega, by omega, by omega, by omega, by omega, by first | exact Or.inl (⟨by omega, by omega, by omega⟩) | exact Or.inr ((⟨by omega, by omega, by omega⟩))⟩
          · have _q : True := trivial
            exfalso
            omega
        · have _q : True := trivial
          refine jx_vr (pc' := 24) (as := [.int (i32 (0))]) (st := []) rfl rfl rfl rfl ⟨rfl, rfl, Nat.le_of_ble_eq_true rfl⟩ rfl rfl (c_need (dd := d) (hd := by omega) (hW := hW162) (g := 0) (ln := ln) (e_ln := show G154 9 = ln from ((hF163.1 9 rfl).trans ((hF138.1 9 rfl).trans ((hF6.1 9 rfl).trans (e_ln))))) (le := le) (e_le := show A155 4 (ln).toNat = le from (congrFun ((hF163.2 4 rfl).trans ((hF138.2 4 rfl).trans (hF6.2 4 rfl))) _).trans (e_le)) (at0 := at2_157) (e_at0 := show G154 10 = at2_157 from (e165)) (fk := fk2_158) (e_fk := show G154 16 = fk2_158 from (e166)) (tk0 := tk2_161) (e_tk0 := show G154 11 = tk2_161 from (e169))  (h_g := by omega)  (p_0 := by omega)) (fun o V' hq => ?_)
          obtain ⟨G223, A224, at2_225, tk2_226, fk2_227, rfl, rfl, hW228, hF229, e230, e231, e232, p233, p234, q235⟩ := hq
          have hF236 := Fr_tr hF177 hF229 (Fr_sub (by decide)) (Fr_sub (by decide))
          have bat2_225 : (0 : Int) ≤ at2_225 ∧ at2_225 ≤ 3002 := e230 ▸ hW228.1 10
          have ztk2_226 := tz_b tk2_226
          have btk2_226 : (0 : Int) ≤ tk2_226 ∧ tk2_226 ≤ 5 := e231 ▸ hW228.1 11
          have bfk2_227 : (0 : Int) ≤ fk2_227 ∧ fk2_227 ≤ 6 := e232 ▸ hW228.1 16
          refine .inl ⟨rfl, ?_⟩
          rcases q235 with ⟨a237, a238, a239, a240⟩ | ⟨a241, a242, a243, a244⟩
          · have _q : True := trivial
            refine jx_ld (pc' := 25) (l' := L190) (st' := [.ref 66]) rfl (jl_aloadn gL190_0) ?_
            refine jx_ar (pc' := 26) (st' := [.ref 66, .ref 66]) rfl rfl rfl rfl ?_
            refine jr_get (pc' := 29) (i := 15) (v := .int (i32 (op2_159))) rfl rfl (by decide) (rFv_eq (by decide) (show G223 15 = op2_159 from ((hF229.1 15 rfl).trans (e167)))) rfl ?_
            refine jx_ar (pc' := 30) (st' := [.int (i32 (1)), .int (i32 (op2_159)), .ref 66]) rfl rfl rfl rfl ?_
            refine jx_sub (pc' := 31) rfl rfl ?_
            refine jr_put (pc' := 34) (i := 15) (z := (op2_159 - 1)) rfl rfl (by decide) rfl rfl rfl rfl rfl rfl ?_
            have hW245 : Wk (uG G223 15 ((op2_159 - 1))) A224 := Wk_g hW228 (show (-2147483648 : Int) ≤ (op2_159 - 1) by omega) (show (op2_159 - 1) ≤ (2147483647 : Int) by omega)
            have hF246 := Fr_g (z := (op2_159 - 1)) (i := 15) hF236 (by decide)
            refine jx_ld (pc' := 35) (l' := L190) (st' := [.int (i32 (r156))]) rfl (jl_iloadn gL190_1) ?_
            refine jx_rt (v := some (.int (i32 (r156)))) rfl rfl rfl rfl rfl rfl ?_
            have z247 := tz_f (tk2_226)
            exact ⟨_, _, _, at2_225, fk2_227, (op2_159 - 1), nd2_160, tk2_226, rfl, rfl, hW245, hF246, by omega, (e230), (e232), rfl, ((hF229.1 31 rfl).trans (e168)), (e231), by omega, by omega, by omega, by omega, by omega, by omega, by first | exact Or.inl (⟨by omega, by omega, by omega⟩) | exact Or.inr ((⟨by omega, by omega, by omega⟩))⟩
          · have _q : True := trivial
            exfalso
            omega
      · have _q : True := trivial
        exfalso
        omega
      · have _q : True := trivial
        exfalso
        omega
    · have _q : True := trivial
      refine jx_ld (pc' := 10) (l' := [(0, .ref 66)]) (st' := [.ref 66]) rfl (jl_aloadn rfl) ?_
      refine jx_vr (pc' := 13) (as := []) (st := []) rfl rfl rfl rfl ⟨rfl, rfl, Nat.le_of_ble_eq_true rfl⟩ rfl rfl (hE (dd := d) (hd := by omega) (hW := hW137)  (ln := ln) (e_ln := show G132 9 = ln from ((hF138.1 9 rfl).trans ((hF6.1 9 rfl).trans (e_ln)))) (le := le) (e_le := show A133 4 (ln).toNat = le from (congrFun ((hF138.2 4 rfl).trans (hF6.2 4 rfl)) _).trans (e_le)) (at0 := at2_134) (e_at0 := show G132 10 = at2_134 from (e139)) (fk := fk2_136) (e_fk := show G132 16 = fk2_136 from (e141)) (op0 := op2_4) (e_op0 := show G132 15 = op2_4 from ((hF138.1 15 rfl).trans (e8))) (nd := nd) (e_nd := show G132 31 = nd from ((hF138.1 31 rfl).trans ((hF6.1 31 rfl).trans (e_nd)))) (tk0 := tk2_135) (e_tk0 := show G132 11 = tk2_135 from (e140))    (p_0 := by omega) (p_1 := by omega) (p_2 := by omega) (p_3 := by omega) (p_4 := by omega) (p_5 := by omega)) (fun o V' hq => ?_)
      obtain ⟨G248, A249, r250, at2_251, fk2_252, op2_253, nd2_254, tk2_255, rfl, rfl, hW256, hF257, b258, e259, e260, e261, e262, e263, p264, p265, p266, p267, p268, p269, q270⟩ := hq
      have hF271 := Fr_tr hF145 hF257 (Fr_sub (by decide)) (Fr_sub (by decide))
      have bat2_251 : (0 : Int) ≤ at2_251 ∧ at2_251 ≤ 3002 := e259 ▸ hW256.1 10
      have bfk2_252 : (0 : Int) ≤ fk2_252 ∧ fk2_252 ≤ 6 := e260 ▸ hW256.1 16
      have bop2_253 : (-2147483648 : Int) ≤ op2_253 ∧ op2_253 ≤ 2147483647 := e261 ▸ hW256.1 15
      have bnd2_254 : (0 : Int) ≤ nd2_254 ∧ nd2_254 ≤ 6999 := e262 ▸ hW256.1 31
      have ztk2_255 := tz_b tk2_255
      have btk2_255 : (0 : Int) ≤ tk2_255 ∧ tk2_255 ≤ 5 := e263 ▸ hW256.1 11
      refine .inr ⟨_, rfl, ?_⟩
      rcases q270 with ⟨a272, a273, a274, a275, a276, a277⟩ | ⟨a278, a279, a280⟩ | ⟨a281, a282, a283⟩
      · have _q : True := trivial
        exfalso
        omega
      · have _q : True := trivial
        refine jx_ld (pc' := 14) (l' := jSto1 [(0, .ref 66)] 1 (.int (i32 (r250)))) (st' := []) rfl rfl ?_
        obtain ⟨L284, eL284⟩ : ∃ q, q = jSto1 [(0, .ref 66)] 1 (.int (i32 (r250))) := ⟨_, rfl⟩
        rw [← eL284]
        have gL284_0 : jGet L284 0 = some (.ref 66) := eL284 ▸ jg_ne (by decide) (rfl : jGet [(0, .ref 66)] 0 = some (.ref 66)) rfl
        have gL284_1 : jGet L284 1 = some (.int (i32 (r250))) := eL284 ▸ jg_eq
        refine jx_ld (pc' := 15) (l' := L284) (st' := [.ref 66]) rfl (jl_aloadn gL284_0) ?_
        refine jx_ld (pc' := 16) (l' := L284) (st' := [.ref 66, .ref 66]) rfl (jl_aloadn gL284_0) ?_
        refine jx_ar (pc' := 18) (st' := [.int (i32 (93)), .ref 66, .ref 66]) rfl rfl rfl rfl ?_
        have b285 : (-2147483648 : Int) ≤ G248 13 ∧ G248 13 ≤ 2147483647 := hW256.1 13
        refine jx_vr (pc' := 21) (as := [.int (i32 (93))]) (st := [.ref 66]) rfl rfl rfl rfl ⟨rfl, rfl, Nat.le_of_ble_eq_true rfl⟩ rfl rfl (c_is (dd := d) (hd := by omega) (hW := hW256) (k := 93) (tk := tk2_255) (e_tk := show G248 11 = tk2_255 from (e263)) (tn := G248 13) (e_tn := show G248 13 = G248 13 from rfl)  (h_k := by omega)  ) (fun o V' hq => ?_)
        obtain ⟨r286, rfl, rfl, b287, q288⟩ := hq
        refine .inr ⟨_, rfl, ?_⟩
        rcases q288 with ⟨rfl, a289, a290, a291⟩ | rfl
        · have _q : True := trivial
          refine jx_vr (pc' := 24) (as := [.int (i32 (1))]) (st := []) rfl rfl rfl rfl ⟨rfl, rfl, Nat.le_of_ble_eq_true rfl⟩ rfl rfl (c_need (dd := d) (hd := by omega) (hW := hW256) (g := 1) (ln := ln) (e_ln := show G248 9 = ln from ((hF257.1 9 rfl).trans ((hF138.1 9 rfl).trans ((hF6.1 9 rfl).trans (e_ln))))) (le := le) (e_le := show A249 4 (ln).toNat = le from (congrFun ((hF257.2 4 rfl).trans ((hF138.2 4 rfl).trans (hF6.2 4 rfl))) _).trans (e_le)) (at0 := at2_251) (e_at0 := show G248 10 = at2_251 from (e259)) (fk := fk2_252) (e_fk := show G248 16 = fk2_252 from (e260)) (tk0 := tk2_255) (e_tk0 := show G248 11 = tk2_255 from (e263))  (h_g := by omega)  (p_0 := by omega)) (fun o V' hq => ?_)
          obtain ⟨G292, A293, at2_294, tk2_295, fk2_296, rfl, rfl, hW297, hF298, e299, e300, e301, p302, p303, q304⟩ := hq
          have hF305 := Fr_tr hF271 hF298 (Fr_sub (by decide)) (Fr_sub (by decide))
          have bat2_294 : (0 : Int) ≤ at2_294 ∧ at2_294 ≤ 3002 := e299 ▸ hW297.1 10
          have ztk2_295 := tz_b tk2_295
          have btk2_295 : (0 : Int) ≤ tk2_295 ∧ tk2_295 ≤ 5 := e300 ▸ hW297.1 11
          have bfk2_296 : (0 : Int) ≤ fk2_296 ∧ fk2_296 ≤ 6 := e301 ▸ hW297.1 16
          refine .inl ⟨rfl, ?_⟩
          rcases q304 with ⟨a306, a307, a308, a309⟩ | ⟨a310, a311, a312, a313⟩
          · have _q : True := trivial
            refine jx_ld (pc' := 25) (l' := L284) (st' := [.ref 66]) rfl (jl_aloadn gL284_0) ?_
            refine jx_ar (pc' := 26) (st' := [.ref 66, .ref 66]) rfl rfl rfl rfl ?_
            refine jr_get (pc' := 29) (i := 15) (v := .int (i32 (op2_253))) rfl rfl (by decide) (rFv_eq (by decide) (show G292 15 = op2_253 from ((hF298.1 15 rfl).trans (e261)))) rfl ?_
            refine jx_ar (pc' := 30) (st' := [.int (i32 (1)), .int (i32 (op2_253)), .ref 66]) rfl rfl rfl rfl ?_
            refine jx_sub (pc' := 31) rfl rfl ?_
            refine jr_put (pc' := 34) (i := 15) (z := (op2_253 - 1)) rfl rfl (by decide) rfl rfl rfl rfl rfl rfl ?_
            have hW314 : Wk (uG G292 15 ((op2_253 - 1))) A293 := Wk_g hW297 (show (-2147483648 : Int) ≤ (op2_253 - 1) by omega) (show (op2_253 - 1) ≤ (2147483647 : Int) by omega)
            have hF315 := Fr_g (z := (op2_253 - 1)) (i := 15) hF305 (by decide)
            refine jx_ld (pc' := 35) (l' := L284) (st' := [.int (i32 (r250))]) rfl (jl_iloadn gL284_1) ?_
            refine jx_rt (v := some (.int (i32 (r250)))) rfl rfl rfl rfl rfl rfl ?_
            have z316 := tz_f (tk2_295)
            exact ⟨_, _, _, at2_294, fk2_296, (op2_253 - 1), nd2_254, tk2_295, rfl, rfl, hW314, hF315, by omega, (e299), (e301), rfl, ((hF298.1 31 rfl).trans (e262)), (e300), by omega, by omega, by omega, by omega, by omega, by omega, by first | exact Or.inl (⟨by omega, by omega, by omega⟩) | exact Or.inr ((⟨by omega, by omega, by omega⟩))⟩
          · have _q : True := trivial
            exfalso
            omega
        · have _q : True := trivial
          refine jx_vr (pc' := 24) (as := [.int (i32 (0))]) (st := []) rfl rfl rfl rfl ⟨rfl, rfl, Nat.le_of_ble_eq_true rfl⟩ rfl rfl (c_need (dd := d) (hd := by omega) (hW := hW256) (g := 0) (ln := ln) (e_ln := show G248 9 = ln from ((hF257.1 9 rfl).trans ((hF138.1 9 rfl).trans ((hF6.1 9 rfl).trans (e_ln))))) (le := le) (e_le := show A249 4 (ln).toNat = le from (congrFun ((hF257.2 4 rfl).trans ((hF138.2 4 rfl).trans (hF6.2 4 rfl))) _).trans (e_le)) (at0 := at2_251) (e_at0 := show G248 10 = at2_251 from (e259)) (fk := fk2_252) (e_fk := show G248 16 = fk2_252 from (e260)) (tk0 := tk2_255) (e_tk0 := show G248 11 = tk2_255 from (e263))  (h_g := by omega)  (p_0 := by omega)) (fun o V' hq => ?_)
          obtain ⟨G317, A318, at2_319, tk2_320, fk2_321, rfl, rfl, hW322, hF323, e324, e325, e326, p327, p328, q329⟩ := hq
          have hF330 := Fr_tr hF271 hF323 (Fr_sub (by decide)) (Fr_sub (by decide))
          have bat2_319 : (0 : Int) ≤ at2_319 ∧ at2_319 ≤ 3002 := e324 ▸ hW322.1 10
          have ztk2_320 := tz_b tk2_320
          have btk2_320 : (0 : Int) ≤ tk2_320 ∧ tk2_320 ≤ 5 := e325 ▸ hW322.1 11
          have bfk2_321 : (0 : Int) ≤ fk2_321 ∧ fk2_321 ≤ 6 := e326 ▸ hW322.1 16
          refine .inl ⟨rfl, ?_⟩
          rcases q329 with ⟨a331, a332, a333, a334⟩ | ⟨a335, a336, a337, a338⟩
          · have _q : True := trivial
            refine jx_ld (pc' := 25) (l' := L284) (st' := [.ref 66]) rfl (jl_aloadn gL284_0) ?_
            refine jx_ar (pc' := 26) (st' := [.ref 66, .ref 66]) rfl rfl rfl rfl ?_
            refine jr_get (pc' := 29) (i := 15) (v := .int (i32 (op2_253))) rfl rfl (by decide) (rFv_eq (by decide) (show G317 15 = op2_253 from ((hF323.1 15 rfl).trans (e261)))) rfl ?_
            refine jx_ar (pc' := 30) (st' := [.int (i32 (1)), .int (i32 (op2_253)), .ref 66]) rfl rfl rfl rfl ?_
            refine jx_sub (pc' := 31) rfl rfl ?_
            refine jr_put (pc' := 34) (i := 15) (z := (op2_253 - 1)) rfl rfl (by decide) rfl rfl rfl rfl rfl rfl ?_
            have hW339 : Wk (uG G317 15 ((op2_253 - 1))) A318 := Wk_g hW322 (show (-2147483648 : Int) ≤ (op2_253 - 1) by omega) (show (op2_253 - 1) ≤ (2147483647 : Int) by omega)
            have hF340 := Fr_g (z := (op2_253 - 1)) (i := 15) hF330 (by decide)
            refine jx_ld (pc' := 35) (l' := L284) (st' := [.int (i32 (r250))]) rfl (jl_iloadn gL284_1) ?_
            refine jx_rt (v := some (.int (i32 (r250)))) rfl rfl rfl rfl rfl rfl ?_
            have z341 := tz_f (tk2_320)
            exact ⟨_, _, _, at2_319, fk2_321, (op2_253 - 1), nd2_254, tk2_320, rfl, rfl, hW339, hF340, by omega, (e324), (e326), rfl, ((hF323.1 31 rfl).trans (e262)), (e325), by omega, by omega, by omega, by omega, by omega, by omega, by first | exact Or.inl (⟨by omega, by omega, by omega⟩) | exact Or.inr ((⟨by omega, by omega, by omega⟩))⟩
          · have _q : True := trivial
            exfalso
            omega
      · have _q : True := trivial
        refine jx_ld (pc' := 14) (l' := jSto1 [(0, .ref 66)] 1 (.int (i32 (r250)))) (st' := []) rfl rfl ?_
        obtain ⟨L342, eL342⟩ : ∃ q, q = jSto1 [(0, .ref 66)] 1 (.int (i32 (r250))) := ⟨_, rfl⟩
        rw [← eL342]
        have gL342_0 : jGet L342 0 = some (.ref 66) := eL342 ▸ jg_ne (by decide) (rfl : jGet [(0, .ref 66)] 0 = some (.ref 66)) rfl
        have gL342_1 : jGet L342 1 = some (.int (i32 (r250))) := eL342 ▸ jg_eq
        refine jx_ld (pc' := 15) (l' := L342) (st' := [.ref 66]) rfl (jl_aloadn gL342_0) ?_
        refine jx_ld (pc' := 16) (l' := L342) (st' := [.ref 66, .ref 66]) rfl (jl_aloadn gL342_0) ?_
        refine jx_ar (pc' := 18) (st' := [.int (i32 (93)), .ref 66, .ref 66]) rfl rfl rfl rfl ?_
        have b343 : (-2147483648 : Int) ≤ G248 13 ∧ G248 13 ≤ 2147483647 := hW256.1 13
        refine jx_vr (pc' := 21) (as := [.int (i32 (93))]) (st := [.ref 66]) rfl rfl rfl rfl ⟨rfl, rfl, Nat.le_of_ble_eq_true rfl⟩ rfl rfl (c_is (dd := d) (hd := by omega) (hW := hW256) (k := 93) (tk := tk2_255) (e_tk := show G248 11 = tk2_255 from (e263)) (tn := G248 13) (e_tn := show G248 13 = G248 13 from rfl)  (h_k := by omega)  ) (fun o V' hq => ?_)
        obtain ⟨r344, rfl, rfl, b345, q346⟩ := hq
        refine .inr ⟨_, rfl, ?_⟩
        rcases q346 with ⟨rfl, a347, a348, a349⟩ | rfl
        · have _q : True := trivial
          refine jx_vr (pc' := 24) (as := [.int (i32 (1))]) (st := []) rfl rfl rfl rfl ⟨rfl, rfl, Nat.le_of_ble_eq_true rfl⟩ rfl rfl (c_need (dd := d) (hd := by omega) (hW := hW256) (g := 1) (ln := ln) (e_ln := show G248 9 = ln from ((hF257.1 9 rfl).trans ((hF138.1 9 rfl).trans ((hF6.1 9 rfl).trans (e_ln))))) (le := le) (e_le := show A249 4 (ln).toNat = le from (congrFun ((hF257.2 4 rfl).trans ((hF138.2 4 rfl).trans (hF6.2 4 rfl))) _).trans (e_le)) (at0 := at2_251) (e_at0 := show G248 10 = at2_251 from (e259)) (fk := fk2_252) (e_fk := show G248 16 = fk2_252 from (e260)) (tk0 := tk2_255) (e_tk0 := show G248 11 = tk2_255 from (e263))  (h_g := by omega)  (p_0 := by omega)) (fun o V' hq => ?_)
          obtain ⟨G350, A351, at2_352, tk2_353, fk2_354, rfl, rfl, hW355, hF356, e357, e358, e359, p360, p361, q362⟩ := hq
          have hF363 := Fr_tr hF271 hF356 (Fr_sub (by decide)) (Fr_sub (by decide))
          have bat2_352 : (0 : Int) ≤ at2_352 ∧ at2_352 ≤ 3002 := e357 ▸ hW355.1 10
          have ztk2_353 := tz_b tk2_353
          have btk2_353 : (0 : Int) ≤ tk2_353 ∧ tk2_353 ≤ 5 := e358 ▸ hW355.1 11
          have bfk2_354 : (0 : Int) ≤ fk2_354 ∧ fk2_354 ≤ 6 := e359 ▸ hW355.1 16
          refine .inl ⟨rfl, ?_⟩
          rcases q362 with ⟨a364, a365, a366, a367⟩ | ⟨a368, a369, a370, a371⟩
          · have _q : True := trivial
            refine jx_ld (pc' := 25) (l' := L342) (st' := [.ref 66]) rfl (jl_aloadn gL342_0) ?_
            refine jx_ar (pc' := 26) (st' := [.ref 66, .ref 66]) rfl rfl rfl rfl ?_
            refine jr_get (pc' := 29) (i := 15) (v := .int (i32 (op2_253))) rfl rfl (by decide) (rFv_eq (by decide) (show G350 15 = op2_253 from ((hF356.1 15 rfl).trans (e261)))) rfl ?_
            refine jx_ar (pc' := 30) (st' := [.int (i32 (1)), .int (i32 (op2_253)), .ref 66]) rfl rfl rfl rfl ?_
            refine jx_sub (pc' := 31) rfl rfl ?_
            refine jr_put (pc' := 34) (i := 15) (z := (op2_253 - 1)) rfl rfl (by decide) rfl rfl rfl rfl rfl rfl ?_
            have hW372 : Wk (uG G350 15 ((op2_253 - 1))) A351 := Wk_g hW355 (show (-2147483648 : Int) ≤ (op2_253 - 1) by omega) (show (op2_253 - 1) ≤ (2147483647 : Int) by omega)
            have hF373 := Fr_g (z := (op2_253 - 1)) (i := 15) hF363 (by decide)
            refine jx_ld (pc' := 35) (l' := L342) (st' := [.int (i32 (r250))]) rfl (jl_iloadn gL342_1) ?_
            refine jx_rt (v := some (.int (i32 (r250)))) rfl rfl rfl rfl rfl rfl ?_
            have z374 := tz_f (tk2_353)
            exact ⟨_, _, _, at2_352, fk2_354, (op2_253 - 1), nd2_254, tk2_353, rfl, rfl, hW372, hF373, by omega, (e357), (e359), rfl, ((hF356.1 31 rfl).trans (e262)), (e358), by omega, by omega, by omega, by omega, by omega, by omega, by first | exact Or.inl (⟨by omega, by omega, by omega⟩) | exact Or.inr ((⟨by omega, by omega, by omega⟩))⟩
          · have _q : True := trivial
            refine jx_ld (pc' := 25) (l' := L342) (st' := [.ref 66]) rfl (jl_aloadn gL342_0) ?_
            refine jx_ar (pc' := 26) (st' := [.ref 66, .ref 66]) rfl rfl rfl rfl ?_
            refine jr_get (pc' := 29) (i := 15) (v := .int (i32 (op2_253))) rfl rfl (by decide) (rFv_eq (by decide) (show G350 15 = op2_253 from ((hF356.1 15 rfl).trans (e261)))) rfl ?_
            refine jx_ar (pc' := 30) (st' := [.int (i32 (1)), .int (i32 (op2_253)), .ref 66]) rfl rfl rfl rfl ?_
            refine jx_sub (pc' := 31) rfl rfl ?_
            refine jr_put (pc' := 34) (i := 15) (z := (op2_253 - 1)) rfl rfl (by decide) rfl rfl rfl rfl rfl rfl ?_
            have hW375 : Wk (uG G350 15 ((op2_253 - 1))) A351 := Wk_g hW355 (show (-2147483648 : Int) ≤ (op2_253 - 1) by omega) (show (op2_253 - 1) ≤ (2147483647 : Int) by omega)
            have hF376 := Fr_g (z := (op2_253 - 1)) (i := 15) hF363 (by decide)
            refine jx_ld (pc' := 35) (l' := L342) (st' := [.int (i32 (r250))]) rfl (jl_iloadn gL342_1) ?_
            refine jx_rt (v := some (.int (i32 (r250)))) rfl rfl rfl rfl rfl rfl ?_
            have z377 := tz_f (tk2_353)
            exact ⟨_, _, _, at2_352, fk2_354, (op2_253 - 1), nd2_254, tk2_353, rfl, rfl, hW375, hF376, by omega, (e357), (e359), rfl, ((hF356.1 31 rfl).trans (e262)), (e358), by omega, by omega, by omega, by omega, by omega, by omega, by first | exact Or.inl (⟨by omega, by omega, by omega⟩) | exact Or.inr ((⟨by omega, by omega, by omega⟩))⟩
        · have _q : True := trivial
          refine jx_vr (pc' := 24) (as := [.int (i32 (0))]) (st := []) rfl rfl rfl rfl ⟨rfl, rfl, Nat.le_of_ble_eq_true rfl⟩ rfl rfl (c_need (dd := d) (hd := by omega) (hW := hW256) (g := 0) (ln := ln) (e_ln := show G248 9 = ln from ((hF257.1 9 rfl).trans ((hF138.1 9 rfl).trans ((hF6.1 9 rfl).trans (e_ln))))) (le := le) (e_le := show A249 4 (ln).toNat = le from (congrFun ((hF257.2 4 rfl).trans ((hF138.2 4 rfl).trans (hF6.2 4 rfl))) _).trans (e_le)) (at0 := at2_251) (e_at0 := show G248 10 = at2_251 from (e259)) (fk := fk2_252) (e_fk := show G248 16 = fk2_252 from (e260)) (tk0 := tk2_255) (e_tk0 := show G248 11 = tk2_255 from (e263))  (h_g := by omega)  (p_0 := by omega)) (fun o V' hq => ?_)
          obtain ⟨G378, A379, at2_380, tk2_381, fk2_382, rfl, rfl, hW383, hF384, e385, e386, e387, p388, p389, q390⟩ := hq
          have hF391 := Fr_tr hF271 hF384 (Fr_sub (by decide)) (Fr_sub (by decide))
          have bat2_380 : (0 : Int) ≤ at2_380 ∧ at2_380 ≤ 3002 := e385 ▸ hW383.1 10
          have ztk2_381 := tz_b tk2_381
          have btk2_381 : (0 : Int) ≤ tk2_381 ∧ tk2_381 ≤ 5 := e386 ▸ hW383.1 11
          have bfk2_382 : (0 : Int) ≤ fk2_382 ∧ fk2_382 ≤ 6 := e387 ▸ hW383.1 16
          refine .inl ⟨rfl, ?_⟩
          rcases q390 with ⟨a392, a393, a394, a395⟩ | ⟨a396, a397, a398, a399⟩
          · have _q : True := trivial
            refine jx_ld (pc' := 25) (l' := L342) (st' := [.ref 66]) rfl (jl_aloadn gL342_0) ?_
            refine jx_ar (pc' := 26) (st' := [.ref 66, .ref 66]) rfl rfl rfl rfl ?_
            refine jr_get (pc' := 29) (i := 15) (v := .int (i32 (op2_253))) rfl rfl (by decide) (rFv_eq (by decide) (show G378 15 = op2_253 from ((hF384.1 15 rfl).trans (e261)))) rfl ?_
            refine jx_ar (pc' := 30) (st' := [.int (i32 (1)), .int (i32 (op2_253)), .ref 66]) rfl rfl rfl rfl ?_
            refine jx_sub (pc' := 31) rfl rfl ?_
            refine jr_put (pc' := 34) (i := 15) (z := (op2_253 - 1)) rfl rfl (by decide) rfl rfl rfl rfl rfl rfl ?_
            have hW400 : Wk (uG G378 15 ((op2_253 - 1))) A379 := Wk_g hW383 (show (-2147483648 : Int) ≤ (op2_253 - 1) by omega) (show (op2_253 - 1) ≤ (2147483647 : Int) by omega)
            have hF401 := Fr_g (z := (op2_253 - 1)) (i := 15) hF391 (by decide)
            refine jx_ld (pc' := 35) (l' := L342) (st' := [.int (i32 (r250))]) rfl (jl_iloadn gL342_1) ?_
            refine jx_rt (v := some (.int (i32 (r250)))) rfl rfl rfl rfl rfl rfl ?_
            have z402 := tz_f (tk2_381)
            exact ⟨_, _, _, at2_380, fk2_382, (op2_253 - 1), nd2_254, tk2_381, rfl, rfl, hW400, hF401, by omega, (e385), (e387), rfl, ((hF384.1 31 rfl).trans (e262)), (e386), by omega, by omega, by omega, by omega, by omega, by omega, by first | exact Or.inl (⟨by omega, by omega, by omega⟩) | exact Or.inr ((⟨by omega, by omega, by omega⟩))⟩
          · have _q : True := trivial
            exfalso
            omega
set_option maxRecDepth 20000 in
set_option maxHeartbeats 4000000 in
theorem c_readValue {X : jX} {k : Nat} (hE : RE X k) {dd : Nat} {c0 c1 : jC} {G : Nat → Int} {A : Nat → Nat → Int} {T : jH} {s place : Int} {ln le at0 fk op0 nd tk0 : Int} (hd : 6 * k + 13 ≤ dd) (hW : Wk G A) (e_ln : G 9 = ln) (e_le : A 4 (ln).toNat = le) (e_at0 : G 10 = at0) (e_fk : G 16 = fk) (e_op0 : G 15 = op0) (e_nd : G 31 = nd) (e_tk0 : G 11 = tk0) (h_s : (-2147483648 : Int) ≤ s ∧ s ≤ 2147483647) (h_place : (-2147483648 : Int) ≤ place ∧ place ≤ 2147483647) (p_0 : 0 ≤ op0) (p_1 : op0 ≤ 9) (p_2 : op0 ≤ 8 ∨ 1 ≤ fk) (p_3 : 9 - op0 ≤ ((k + 1 : Nat) : Int) ∨ 1 ≤ fk) (p_4 : nd ≤ 2 * at0 - tz tk0 + 50) (p_5 : at0 ≤ le) (p_6 : op0 ≤ 8) (p_7 : fk = 0) (p_8 : 0 ≤ s ∧ s ≤ 201) (p_9 : -3000 ≤ place ∧ place ≤ 3002) : wk X dd 289 [.ref 66, .int (i32 s), .int (i32 place)] (rV c0 c1 G A T) (fun o V' => ∃ (G' : Nat → Int) (A' : Nat → Nat → Int) (r : Int) (at2 : Int) (fk2 : Int) (op2 : Int) (nd2 : Int) (tk2 : Int), V' = rV c0 c1 G' A' T ∧ o = .inl (some (.int (i32 r))) ∧ Wk G' A' ∧ Fr [10, 11, 12, 13, 14, 15, 16, 17, 18, 31] [15, 16, 17, 18, 19, 20, 21, 22, 24, 28] G A G' A' ∧ ((-2147483648 : Int) ≤ r ∧ r ≤ 2147483647) ∧ G' 10 = at2 ∧ G' 16 = fk2 ∧ G' 15 = op2 ∧ G' 31 = nd2 ∧ G' 11 = tk2 ∧ (at0 ≤ at2) ∧ (at2 ≤ le) ∧ (nd ≤ nd2) ∧ (op2 = op0) ∧ (0 ≤ r) ∧ (r ≤ nd2) ∧ (((fk = 0) ∧ (1 ≤ fk2) ∧ (nd2 - nd ≤ (2 * at2 - tz tk2) - (2 * at0 - tz tk0) + 2)) ∨ ((fk = 0) ∧ (fk2 = 0) ∧ (nd2 - nd ≤ (2 * at2 - tz tk2) - (2 * at0 - tz tk0) + 1)))) := by
  obtain ⟨d, rfl⟩ : ∃ d, dd = d + 1 := ⟨dd - 1, by omega⟩
  refine wk_of (e := jm289) rfl (Nat.le_of_ble_eq_true rfl) ?_
  show wj X d jm289 (0, [(0, .ref 66), (1, .int (i32 (s))), (2, .int (i32 (place)))], [], rV c0 c1 G A T) _
  have hF0 : Fr [10, 11, 12, 13, 14, 15, 16, 17, 18, 31] [15, 16, 17, 18, 19, 20, 21, 22, 24, 28] G A G A := Fr_rf
  have b_ln : (0 : Int) ≤ ln ∧ ln ≤ 3000 := e_ln ▸ hW.1 9
  have b_le : (0 : Int) ≤ le ∧ le ≤ 3000 := e_le ▸ hW.2 4 _
  have b_at0 : (0 : Int) ≤ at0 ∧ at0 ≤ 3002 := e_at0 ▸ hW.1 10
  have b_fk : (0 : Int) ≤ fk ∧ fk ≤ 6 := e_fk ▸ hW.1 16
  have b_op0 : (-2147483648 : Int) ≤ op0 ∧ op0 ≤ 2147483647 := e_op0 ▸ hW.1 15
  have b_nd : (0 : Int) ≤ nd ∧ nd ≤ 6999 := e_nd ▸ hW.1 31
  have z_tk0 := tz_f tk0
  have b_tk0 : (0 : Int) ≤ tk0 ∧ tk0 ≤ 5 := e_tk0 ▸ hW.1 11
  refine jx_ld (pc' := 1) (l' := [(0, .ref 66), (1, .int (i32 (s))), (2, .int (i32 (place)))]) (st' := [.ref 66]) rfl (jl_aloadn rfl) ?_
  refine jx_ar (pc' := 3) (st' := [.int (i32 (91)), .ref 66]) rfl rfl rfl rfl ?_
  have b1 : (-2147483648 : Int) ≤ G 13 ∧ G 13 ≤ 2147483647 := hW.1 13
  refine jx_vr (pc' := 6) (as := [.int (i32 (91))]) (st := []) rfl rfl rfl rfl ⟨rfl, rfl, Nat.le_of_ble_eq_true rfl⟩ rfl rfl (c_is (dd := d) (hd := by omega) (hW := hW) (k := 91) (tk := tk0) (e_tk := show G 11 = tk0 from (e_tk0)) (tn := G 13) (e_tn := show G 13 = G 13 from rfl)  (h_k := by omega)  ) (fun o V' hq => ?_)
  obtain ⟨r2, rfl, rfl, b3, q4⟩ := hq
  refine .inr ⟨_, rfl, ?_⟩
  rcases q4 with ⟨rfl, a5, a6, a7⟩ | rfl
  · have _q : True := trivial
    refine jx_if_eq (pc' := 9) (tg := 44) rfl rfl rfl (by omega) (by omega) (fun h8 => ?_) (fun h8 => ?_)
    · have _q := h8
      exact absurd h8 (by omega)
    · have _q := h8
      refine jx_ld (pc' := 10) (l' := [(0, .ref 66), (1, .int (i32 (s))), (2, .int (i32 (place)))]) (st' := [.ref 66]) rfl (jl_aloadn rfl) ?_
      refine jr_get (pc' := 13) (i := 21) (v := .ref 74) rfl rfl (by decide) rfl rfl ?_
      refine jx_ld (pc' := 14) (l' := [(0, .ref 66), (1, .int (i32 (s))), (2, .int (i32 (place)))]) (st' := [.int (i32 (s)), .ref 74]) rfl (jl_iloadn rfl) ?_
      have b9 : (0 : Int) ≤ A 7 (s).toNat ∧ A 7 (s).toNat ≤ 14 := hW.2 7 _
      refine jr_ldv (pc' := 15) (i := 7) (m := 260) (z := s) (y := A 7 (s).toNat) rfl (by decide) rfl (by decide) (by omega) (by omega) rfl (show A 7 (s).toNat = A 7 (s).toNat from rfl) ?_
      refine jx_st (pc' := 18) (as := [.int (i32 (A 7 (s).toNat))]) (st := []) rfl rfl ⟨rfl, Nat.le_of_ble_eq_true rfl⟩ rfl rfl rfl (c_isArray (dd := d) (hd := by omega) (k := A 7 (s).toNat)   (h_k := by omega)  ) (fun o V' hq => ?_)
      obtain ⟨r10, rfl, rfl, b11, q12⟩ := hq
      refine .inr ⟨_, rfl, ?_⟩
      rcases q12 with rfl | rfl
      · have _q : True := trivial
        refine jx_if_ne (pc' := 21) (tg := 29) rfl rfl rfl (by omega) (by omega) (fun h13 => ?_) (fun h13 => ?_)
        · have _q := h13
          refine jx_ld (pc' := 30) (l' := [(0, .ref 66), (1, .int (i32 (s))), (2, .int (i32 (place)))]) (st' := [.ref 66]) rfl (jl_aloadn rfl) ?_
          refine jx_vr (pc' := 33) (as := []) (st := []) rfl rfl rfl rfl ⟨rfl, rfl, Nat.le_of_ble_eq_true rfl⟩ rfl rfl (c_readIndex (dd := d) (hE := hE) (hd := by omega) (hW := hW)  (ln := ln) (e_ln := show G 9 = ln from (e_ln)) (le := le) (e_le := show A 4 (ln).toNat = le from (e_le)) (at0 := at0) (e_at0 := show G 10 = at0 from (e_at0)) (fk := fk) (e_fk := show G 16 = fk from (e_fk)) (op0 := op0) (e_op0 := show G 15 = op0 from (e_op0)) (nd := nd) (e_nd := show G 31 = nd from (e_nd)) (tk0 := tk0) (e_tk0 := show G 11 = tk0 from (e_tk0))    (p_0 := by omega) (p_1 := by omega) (p_2 := by omega) (p_3 := by omega) (p_4 := by omega) (p_5 := by omega) (p_6 := by omega) (p_7 := by omega) (p_8 := by omega)) (fun o V' hq => ?_)
          obtain ⟨G14, A15, r16, at2_17, fk2_18, op2_19, nd2_20, tk2_21, rfl, rfl, hW22, hF23, b24, e25, e26, e27, e28, e29, p30, p31, p32, p33, p34, p35, q36⟩ := hq
          have hF37 := Fr_tr hF0 hF23 (Fr_sub (by decide)) (Fr_sub (by decide))
          have bat2_17 : (0 : Int) ≤ at2_17 ∧ at2_17 ≤ 3002 := e25 ▸ hW22.1 10
          have bfk2_18 : (0 : Int) ≤ fk2_18 ∧ fk2_18 ≤ 6 := e26 ▸ hW22.1 16
          have bop2_19 : (-2147483648 : Int) ≤ op2_19 ∧ op2_19 ≤ 2147483647 := e27 ▸ hW22.1 15
          have bnd2_20 : (0 : Int) ≤ nd2_20 ∧ nd2_20 ≤ 6999 := e28 ▸ hW22.1 31
          have ztk2_21 := tz_b tk2_21
          have btk2_21 : (0 : Int) ≤ tk2_21 ∧ tk2_21 ≤ 5 := e29 ▸ hW22.1 11
          refine .inr ⟨_, rfl, ?_⟩
          rcases q36 with ⟨a38, a39, a40⟩ | ⟨a41, a42, a43⟩
          · have _q : True := trivial
            refine jx_ld (pc' := 34) (l' := jSto1 [(0, .ref 66), (1, .int (i32 (s))), (2, .int (i32 (place)))] 3 (.int (i32 (r16)))) (st' := []) rfl rfl ?_
            obtain ⟨L44, eL44⟩ : ∃ q, q = jSto1 [(0, .ref 66), (1, .int (i32 (s))), (2, .int (i32 (place)))] 3 (.int (i32 (r16))) := ⟨_, rfl⟩
            rw [← eL44]
            have gL44_0 : jGet L44 0 = some (.ref 66) := eL44 ▸ jg_ne (by decide) (rfl : jGet [(0, .ref 66), (1, .int (i32 (s))), (2, .int (i32 (place)))] 0 = some (.ref 66)) rfl
            have gL44_1 : jGet L44 1 = some (.int (i32 (s))) := eL44 ▸ jg_ne (by decide) (rfl : jGet [(0, .ref 66), (1, .int (i32 (s))), (2, .int (i32 (place)))] 1 = some (.int (i32 (s)))) rfl
            have gL44_2 : jGet L44 2 = some (.int (i32 (place))) := eL44 ▸ jg_ne (by decide) (rfl : jGet [(0, .ref 66), (1, .int (i32 (s))), (2, .int (i32 (place)))] 2 = some (.int (i32 (place)))) rfl
            have gL44_3 : jGet L44 3 = some (.int (i32 (r16))) := eL44 ▸ jg_eq
            refine jx_ld (pc' := 35) (l' := L44) (st' := [.ref 66]) rfl (jl_aloadn gL44_0) ?_
            refine jx_ar (pc' := 36) (st' := [.int (i32 (3)), .ref 66]) rfl rfl rfl rfl ?_
            refine jx_ld (pc' := 37) (l' := L44) (st' := [.int (i32 (s)), .int (i32 (3)), .ref 66]) rfl (jl_iloadn gL44_1) ?_
            refine jx_ld (pc' := 38) (l' := L44) (st' := [.int (i32 (r16)), .int (i32 (s)), .int (i32 (3)), .ref 66]) rfl (jl_iloadn gL44_3) ?_
            refine jx_ar (pc' := 39) (st' := [.int (i32 (0)), .int (i32 (r16)), .int (i32 (s)), .int (i32 (3)), .ref 66]) rfl rfl rfl rfl ?_
            refine jx_ar (pc' := 40) (st' := [.int (i32 (0)), .int (i32 (0)), .int (i32 (r16)), .int (i32 (s)), .int (i32 (3)), .ref 66]) rfl rfl rfl rfl ?_
            refine jx_vr (pc' := 43) (as := [.int (i32 (3)), .int (i32 (s)), .int (i32 (r16)), .int (i32 (0)), .int (i32 (0))]) (st := []) rfl rfl rfl rfl ⟨rfl, rfl, Nat.le_of_ble_eq_true rfl⟩ rfl rfl (c_node (dd := d) (hd := by omega) (hW := hW22) (kind := 3) (a := s) (b := r16) (c := 0) (e := 0) (nd := nd2_20) (e_nd := show G14 31 = nd2_20 from (e28))  (h_kind := by omega) (h_a := by omega) (h_b := by omega) (h_c := by omega) (h_e := by omega)  (p_0 := by omega) (p_1 := by omega)) (fun o V' hq => ?_)
            obtain ⟨G45, A46, r47, nd2_48, rfl, rfl, hW49, hF50, b51, e52, p53, p54, -⟩ := hq
            have hF56 := Fr_tr hF37 hF50 (Fr_sub (by decide)) (Fr_sub (by decide))
            have bnd2_48 : (0 : Int) ≤ nd2_48 ∧ nd2_48 ≤ 6999 := e52 ▸ hW49.1 31
            refine .inr ⟨_, rfl, ?_⟩
            refine jx_rt (v := some (.int (i32 (r47)))) rfl rfl rfl rfl rfl rfl ?_
            have z57 := tz_f (tk2_21)
            exact ⟨_, _, _, at2_17, fk2_18, op2_19, nd2_48, tk2_21, rfl, rfl, hW49, hF56, by omega, ((hF50.1 10 rfl).trans (e25)), ((hF50.1 16 rfl).trans (e26)), ((hF50.1 15 rfl).trans (e27)), (e52), ((hF50.1 11 rfl).trans (e29)), by omega, by omega, by omega, by omega, by omega, by omega, by first | exact Or.inl (⟨by omega, by omega, by omega⟩) | exact Or.inr ((⟨by omega, by omega, by omega⟩))⟩
          · have _q : True := trivial
            refine jx_ld (pc' := 34) (l' := jSto1 [(0, .ref 66), (1, .int (i32 (s))), (2, .int (i32 (place)))] 3 (.int (i32 (r16)))) (st' := []) rfl rfl ?_
            obtain ⟨L58, eL58⟩ : ∃ q, q = jSto1 [(0, .ref 66), (1, .int (i32 (s))), (2, .int (i32 (place)))] 3 (.int (i32 (r16))) := ⟨_, rfl⟩
            rw [← eL58]
            have gL58_0 : jGet L58 0 = some (.ref 66) := eL58 ▸ jg_ne (by decide) (rfl : jGet [(0, .ref 66), (1, .int (i32 (s))), (2, .int (i32 (place)))] 0 = some (.ref 66)) rfl
            have gL58_1 : jGet L58 1 = some (.int (i32 (s))) := eL58 ▸ jg_ne (by decide) (rfl : jGet [(0, .ref 66), (1, .int (i32 (s))), (2, .int (i32 (place)))] 1 = some (.int (i32 (s)))) rfl
            have gL58_2 : jGet L58 2 = some (.int (i32 (place))) := eL58 ▸ jg_ne (by decide) (rfl : jGet [(0, .ref 66), (1, .int (i32 (s))), (2, .int (i32 (place)))] 2 = some (.int (i32 (place)))) rfl
            have gL58_3 : jGet L58 3 = some (.int (i32 (r16))) := eL58 ▸ jg_eq
            refine jx_ld (pc' := 35) (l' := L58) (st' := [.ref 66]) rfl (jl_aloadn gL58_0) ?_
            refine jx_ar (pc' := 36) (st' := [.int (i32 (3)), .ref 66]) rfl rfl rfl rfl ?_
            refine jx_ld (pc' := 37) (l' := L58) (st' := [.int (i32 (s)), .int (i32 (3)), .ref 66]) rfl (jl_iloadn gL58_1) ?_
            refine jx_ld (pc' := 38) (l' := L58) (st' := [.int (i32 (r16)), .int (i32 (s)), .int (i32 (3)), .ref 66]) rfl (jl_iloadn gL58_3) ?_
            refine jx_ar (pc' := 39) (st' := [.int (i32 (0)), .int (i32 (r16)), .int (i32 (s)), .int (i32 (3)), .ref 66]) rfl rfl rfl rfl ?_
            refine jx_ar (pc' := 40) (st' := [.int (i32 (0)), .int (i32 (0)), .int (i32 (r16)), .int (i32 (s)), .int (i32 (3)), .ref 66]) rfl rfl rfl rfl ?_
            refine jx_vr (pc' := 43) (as := [.int (i32 (3)), .int (i32 (s)), .int (i32 (r16)), .int (i32 (0)), .int (i32 (0))]) (st := []) rfl rfl rfl rfl ⟨rfl, rfl, Nat.le_of_ble_eq_true rfl⟩ rfl rfl (c_node (dd := d) (hd := by omega) (hW := hW22) (kind := 3) (a := s) (b := r16) (c := 0) (e := 0) (nd := nd2_20) (e_nd := show G14 31 = nd2_20 from (e28))  (h_kind := by omega) (h_a := by omega) (h_b := by omega) (h_c := by omega) (h_e := by omega)  (p_0 := by omega) (p_1 := by omega)) (fun o V' hq => ?_)
            obtain ⟨G59, A60, r61, nd2_62, rfl, rfl, hW63, hF64, b65, e66, p67, p68, -⟩ := hq
            have hF70 := Fr_tr hF37 hF64 (Fr_sub (by decide)) (Fr_sub (by decide))
            have bnd2_62 : (0 : Int) ≤ nd2_62 ∧ nd2_62 ≤ 6999 := e66 ▸ hW63.1 31
            refine .inr ⟨_, rfl, ?_⟩
            refine jx_rt (v := some (.int (i32 (r61)))) rfl rfl rfl rfl rfl rfl ?_
            have z71 := tz_f (tk2_21)
            exact ⟨_, _, _, at2_17, fk2_18, op2_19, nd2_62, tk2_21, rfl, rfl, hW63, hF70, by omega, ((hF64.1 10 rfl).trans (e25)), ((hF64.1 16 rfl).trans (e26)), ((hF64.1 15 rfl).trans (e27)), (e66), ((hF64.1 11 rfl).trans (e29)), by omega, by omega, by omega, by omega, by omega, by omega, by first | exact Or.inl (⟨by omega, by omega, by omega⟩) | exact Or.inr ((⟨by omega, by omega, by omega⟩))⟩
        · have _q := h13
          exact absurd h13 (by omega)
      · have _q : True := trivial
        refine jx_if_ne (pc' := 21) (tg := 29) rfl rfl rfl (by omega) (by omega) (fun h72 => ?_) (fun h72 => ?_)
        · have _q := h72
          exact absurd h72 (by omega)
        · have _q := h72
          refine jx_ld (pc' := 22) (l' := [(0, .ref 66), (1, .int (i32 (s))), (2, .int (i32 (place)))]) (st' := [.ref 66]) rfl (jl_aloadn rfl) ?_
          refine jx_ar (pc' := 23) (st' := [.int (i32 (4)), .ref 66]) rfl rfl rfl rfl ?_
          refine jx_ld (pc' := 24) (l' := [(0, .ref 66), (1, .int (i32 (s))), (2, .int (i32 (place)))]) (st' := [.int (i32 (place)), .int (i32 (4)), .ref 66]) rfl (jl_iloadn rfl) ?_
          refine jx_vr (pc' := 27) (as := [.int (i32 (4)), .int (i32 (place))]) (st := []) rfl rfl rfl rfl ⟨rfl, rfl, Nat.le_of_ble_eq_true rfl⟩ rfl rfl (c_fail (dd := d) (hd := by omega) (hW := hW) (kind := 4) (place := place) (fk := fk) (e_fk := show G 16 = fk from (e_fk))  (h_kind := by omega) (h_place := by omega)  (p_0 := by omega) (p_1 := by omega)) (fun o V' hq => ?_)
          obtain ⟨G73, A74, fk2_75, rfl, rfl, hW76, hF77, e78, p79, -⟩ := hq
          have hF81 := Fr_tr hF0 hF77 (Fr_sub (by decide)) (Fr_sub (by decide))
          have bfk2_75 : (0 : Int) ≤ fk2_75 ∧ fk2_75 ≤ 6 := e78 ▸ hW76.1 16
          refine .inl ⟨rfl, ?_⟩
          refine jx_ar (pc' := 28) (st' := [.int (i32 (0))]) rfl rfl rfl rfl ?_
          refine jx_rt (v := some (.int (i32 (0)))) rfl rfl rfl rfl rfl rfl ?_
          have z82 := tz_f (tk0)
          exact ⟨_, _, _, at0, fk2_75, op0, nd, tk0, rfl, rfl, hW76, hF81, by omega, ((hF77.1 10 rfl).trans (e_at0)), (e78), ((hF77.1 15 rfl).trans (e_op0)), ((hF77.1 31 rfl).trans (e_nd)), ((hF77.1 11 rfl).trans (e_tk0)), by omega, by omega, by omega, by omega, by omega, by omega, by first | exact Or.inl (⟨by omega, by omega, by omega⟩) | exact Or.inr ((⟨by omega, by omega, by omega⟩))⟩
  · have _q : True := trivial
    refine jx_if_eq (pc' := 9) (tg := 44) rfl rfl rfl (by omega) (by omega) (fun h83 => ?_) (fun h83 => ?_)
    · have _q := h83
      refine jx_ld (pc' := 45) (l' := [(0, .ref 66), (1, .int (i32 (s))), (2, .int (i32 (place)))]) (st' := [.ref 66]) rfl (jl_aloadn rfl) ?_
      refine jr_get (pc' := 48) (i := 21) (v := .ref 74) rfl rfl (by decide) rfl rfl ?_
      refine jx_ld (pc' := 49) (l' := [(0, .ref 66), (1, .int (i32 (s))), (2, .int (i32 (place)))]) (st' := [.int (i32 (s)), .ref 74]) rfl (jl_iloadn rfl) ?_
      have b84 : (0 : Int) ≤ A 7 (s).toNat ∧ A 7 (s).toNat ≤ 14 := hW.2 7 _
      refine jr_ldv (pc' := 50) (i := 7) (m := 260) (z := s) (y := A 7 (s).toNat) rfl (by decide) rfl (by decide) (by omega) (by omega) rfl (show A 7 (s).toNat = A 7 (s).toNat from rfl) ?_
      refine jx_st (pc' := 53) (as := [.int (i32 (A 7 (s).toNat))]) (st := []) rfl rfl ⟨rfl, Nat.le_of_ble_eq_true rfl⟩ rfl rfl rfl (c_isValue (dd := d) (hd := by omega) (k := A 7 (s).toNat)   (h_k := by omega)  ) (fun o V' hq => ?_)
      obtain ⟨r85, rfl, rfl, b86, q87⟩ := hq
      refine .inr ⟨_, rfl, ?_⟩
      rcases q87 with rfl | rfl
      · have _q : True := trivial
        refine jx_if_ne (pc' := 56) (tg := 64) rfl rfl rfl (by omega) (by omega) (fun h88 => ?_) (fun h88 => ?_)
        · have _q := h88
          refine jx_ld (pc' := 65) (l' := [(0, .ref 66), (1, .int (i32 (s))), (2, .int (i32 (place)))]) (st' := [.ref 66]) rfl (jl_aloadn rfl) ?_
          refine jx_ar (pc' := 66) (st' := [.int (i32 (2)), .ref 66]) rfl rfl rfl rfl ?_
          refine jx_ld (pc' := 67) (l' := [(0, .ref 66), (1, .int (i32 (s))), (2, .int (i32 (place)))]) (st' := [.int (i32 (s)), .int (i32 (2)), .ref 66]) rfl (jl_iloadn rfl) ?_
          refine jx_ar (pc' := 68) (st' := [.int (i32 (0)), .int (i32 (s)), .int (i32 (2)), .ref 66]) rfl rfl rfl rfl ?_
          refine jx_ar (pc' := 69) (st' := [.int (i32 (0)), .int (i32 (0)), .int (i32 (s)), .int (i32 (2)), .ref 66]) rfl rfl rfl rfl ?_
          refine jx_ar (pc' := 70) (st' := [.int (i32 (0)), .int (i32 (0)), .int (i32 (0)), .int (i32 (s)), .int (i32 (2)), .ref 66]) rfl rfl rfl rfl ?_
          refine jx_vr (pc' := 73) (as := [.int (i32 (2)), .int (i32 (s)), .int (i32 (0)), .int (i32 (0)), .int (i32 (0))]) (st := []) rfl rfl rfl rfl ⟨rfl, rfl, Nat.le_of_ble_eq_true rfl⟩ rfl rfl (c_node (dd := d) (hd := by omega) (hW := hW) (kind := 2) (a := s) (b := 0) (c := 0) (e := 0) (nd := nd) (e_nd := show G 31 = nd from (e_nd))  (h_kind := by omega) (h_a := by omega) (h_b := by omega) (h_c := by omega) (h_e := by omega)  (p_0 := by omega) (p_1 := by omega)) (fun o V' hq => ?_)
          obtain ⟨G89, A90, r91, nd2_92, rfl, rfl, hW93, hF94, b95, e96, p97, p98, -⟩ := hq
          have hF100 := Fr_tr hF0 hF94 (Fr_sub (by decide)) (Fr_sub (by decide))
          have bnd2_92 : (0 : Int) ≤ nd2_92 ∧ nd2_92 ≤ 6999 := e96 ▸ hW93.1 31
          refine .inr ⟨_, rfl, ?_⟩
          refine jx_rt (v := some (.int (i32 (r91)))) rfl rfl rfl rfl rfl rfl ?_
          have z101 := tz_f (tk0)
          exact ⟨_, _, _, at0, fk, op0, nd2_92, tk0, rfl, rfl, hW93, hF100, by omega, ((hF94.1 10 rfl).trans (e_at0)), ((hF94.1 16 rfl).trans (e_fk)), ((hF94.1 15 rfl).trans (e_op0)), (e96), ((hF94.1 11 rfl).trans (e_tk0)), by omega, by omega, by omega, by omega, by omega, by omega, by first | exact Or.inl (⟨by omega, by omega, by omega⟩) | exact Or.inr ((⟨by omega, by omega, by omega⟩))⟩
        · have _q := h88
          exact absurd h88 (by omega)
      · have _q : True := trivial
        refine jx_if_ne (pc' := 56) (tg := 64) rfl rfl rfl (by omega) (by omega) (fun h102 => ?_) (fun h102 => ?_)
        · have _q := h102
          exact absurd h102 (by omega)
        · have _q := h102
          refine jx_ld (pc' := 57) (l' := [(0, .ref 66), (1, .int (i32 (s))), (2, .int (i32 (place)))]) (st' := [.ref 66]) rfl (jl_aloadn rfl) ?_
          refine jx_ar (pc' := 58) (st' := [.int (i32 (4)), .ref 66]) rfl rfl rfl rfl ?_
          refine jx_ld (pc' := 59) (l' := [(0, .ref 66), (1, .int (i32 (s))), (2, .int (i32 (place)))]) (st' := [.int (i32 (place)), .int (i32 (4)), .ref 66]) rfl (jl_iloadn rfl) ?_
          refine jx_vr (pc' := 62) (as := [.int (i32 (4)), .int (i32 (place))]) (st := []) rfl rfl rfl rfl ⟨rfl, rfl, Nat.le_of_ble_eq_true rfl⟩ rfl rfl (c_fail (dd := d) (hd := by omega) (hW := hW) (kind := 4) (place := place) (fk := fk) (e_fk := show G 16 = fk from (e_fk))  (h_kind := by omega) (h_place := by omega)  (p_0 := by omega) (p_1 := by omega)) (fun o V' hq => ?_)
          obtain ⟨G103, A104, fk2_105, rfl, rfl, hW106, hF107, e108, p109, -⟩ := hq
          have hF111 := Fr_tr hF0 hF107 (Fr_sub (by decide)) (Fr_sub (by decide))
          have bfk2_105 : (0 : Int) ≤ fk2_105 ∧ fk2_105 ≤ 6 := e108 ▸ hW106.1 16
          refine .inl ⟨rfl, ?_⟩
          refine jx_ar (pc' := 63) (st' := [.int (i32 (0))]) rfl rfl rfl rfl ?_
          refine jx_rt (v := some (.int (i32 (0)))) rfl rfl rfl rfl rfl rfl ?_
          have z112 := tz_f (tk0)
          exact ⟨_, _, _, at0, fk2_105, op0, nd, tk0, rfl, rfl, hW106, hF111, by omega, ((hF107.1 10 rfl).trans (e_at0)), (e108), ((hF107.1 15 rfl).trans (e_op0)), ((hF107.1 31 rfl).trans (e_nd)), ((hF107.1 11 rfl).trans (e_tk0)), by omega, by omega, by omega, by omega, by omega, by omega, by first | exact Or.inl (⟨by omega, by omega, by omega⟩) | exact Or.inr ((⟨by omega, by omega, by omega⟩))⟩
    · have _q := h83
      exact absurd h83 (by omega)
set_option maxRecDepth 20000 in
set_option maxHeartbeats 4000000 in
theorem c_readOperand {X : jX} {k : Nat} (hE : RE X k) {dd : Nat} {c0 c1 : jC} {G : Nat → Int} {A : Nat → Nat → Int} {T : jH} {ln le at0 fk op0 nd tk0 : Int} (hd : 6 * k + 14 ≤ dd) (hW : Wk G A) (e_ln : G 9 = ln) (e_le : A 4 (ln).toNat = le) (e_at0 : G 10 = at0) (e_fk : G 16 = fk) (e_op0 : G 15 = op0) (e_nd : G 31 = nd) (e_tk0 : G 11 = tk0) (p_0 : 0 ≤ op0) (p_1 : op0 ≤ 9) (p_2 : op0 ≤ 8 ∨ 1 ≤ fk) (p_3 : 9 - op0 ≤ ((k + 1 : Nat) : Int) ∨ 1 ≤ fk) (p_4 : nd ≤ 2 * at0 - tz tk0 + 50) (p_5 : at0 ≤ le) : wk X dd 288 [.ref 66] (rV c0 c1 G A T) (fun o V' => ∃ (G' : Nat → Int) (A' : Nat → Nat → Int) (r : Int) (at2 : Int) (fk2 : Int) (op2 : Int) (nd2 : Int) (tk2 : Int), V' = rV c0 c1 G' A' T ∧ o = .inl (some (.int (i32 r))) ∧ Wk G' A' ∧ Fr [10, 11, 12, 13, 14, 15, 16, 17, 18, 31] [15, 16, 17, 18, 19, 20, 21, 22, 24, 28] G A G' A' ∧ ((-2147483648 : Int) ≤ r ∧ r ≤ 2147483647) ∧ G' 10 = at2 ∧ G' 16 = fk2 ∧ G' 15 = op2 ∧ G' 31 = nd2 ∧ G' 11 = tk2 ∧ (at0 ≤ at2) ∧ (at2 ≤ le) ∧ (nd ≤ nd2) ∧ (op2 = op0) ∧ (0 ≤ r) ∧ (r ≤ nd2) ∧ (((1 ≤ fk) ∧ (1 ≤ fk2) ∧ (nd2 = nd) ∧ (at2 = at0) ∧ (tk2 = tk0) ∧ (tz tk2 = tz tk0)) ∨ ((fk = 0) ∧ (1 ≤ fk2) ∧ (nd2 - nd ≤ (2 * at2 - tz tk2) - (2 * at0 - tz tk0) + 1)) ∨ ((fk = 0) ∧ (fk2 = 0) ∧ (nd2 - nd ≤ (2 * at2 - tz tk2) - (2 * at0 - tz tk0))))) := by
  obtain ⟨d, rfl⟩ : ∃ d, dd = d + 1 := ⟨dd - 1, by omega⟩
  refine wk_of (e := jm288) rfl (Nat.le_of_ble_eq_true rfl) ?_
  show wj X d jm288 (0, [(0, .ref 66)], [], rV c0 c1 G A T) _
  have hF0 : Fr [10, 11, 12, 13, 14, 15, 16, 17, 18, 31] [15, 16, 17, 18, 19, 20, 21, 22, 24, 28] G A G A := Fr_rf
  have b_ln : (0 : Int) ≤ ln ∧ ln ≤ 3000 := e_ln ▸ hW.1 9
  have b_le : (0 : Int) ≤ le ∧ le ≤ 3000 := e_le ▸ hW.2 4 _
  have b_at0 : (0 : Int) ≤ at0 ∧ at0 ≤ 3002 := e_at0 ▸ hW.1 10
  have b_fk : (0 : Int) ≤ fk ∧ fk ≤ 6 := e_fk ▸ hW.1 16
  have b_op0 : (-2147483648 : Int) ≤ op0 ∧ op0 ≤ 2147483647 := e_op0 ▸ hW.1 15
  have b_nd : (0 : Int) ≤ nd ∧ nd ≤ 6999 := e_nd ▸ hW.1 31
  have z_tk0 := tz_f tk0
  have b_tk0 : (0 : Int) ≤ tk0 ∧ tk0 ≤ 5 := e_tk0 ▸ hW.1 11
  refine jx_ld (pc' := 1) (l' := [(0, .ref 66)]) (st' := [.ref 66]) rfl (jl_aloadn rfl) ?_
  refine jx_vr (pc' := 4) (as := []) (st := []) rfl rfl rfl rfl ⟨rfl, rfl, Nat.le_of_ble_eq_true rfl⟩ rfl rfl (c_bad (dd := d) (hd := by omega) (hW := hW)  (fk := fk) (e_fk := show G 16 = fk from (e_fk))    ) (fun o V' hq => ?_)
  obtain ⟨r1, rfl, rfl, b2, q3⟩ := hq
  refine .inr ⟨_, rfl, ?_⟩
  rcases q3 with ⟨rfl, a4⟩ | ⟨rfl, a5⟩
  · have _q : True := trivial
    refine jx_if_eq (pc' := 7) (tg := 9) rfl rfl rfl (by omega) (by omega) (fun h6 => ?_) (fun h6 => ?_)
    · have _q := h6
      exact absurd h6 (by omega)
    · have _q := h6
      refine jx_ar (pc' := 8) (st' := [.int (i32 (0))]) rfl rfl rfl rfl ?_
      refine jx_rt (v := some (.int (i32 (0)))) rfl rfl rfl rfl rfl rfl ?_
      have z7 := tz_f (tk0)
      exact ⟨_, _, _, at0, fk, op0, nd, tk0, rfl, rfl, hW, hF0, by omega, (e_at0), (e_fk), (e_op0), (e_nd), (e_tk0), by omega, by omega, by omega, by omega, by omega, by omega, by first | exact Or.inl (⟨by omega, by omega, by omega, by omega, by omega, by omega⟩) | exact Or.inr (Or.inl (⟨by omega, by omega, by omega⟩)) | exact Or.inr (Or.inr ((⟨by omega, by omega, by omega⟩)))⟩
  · have _q : True := trivial
    refine jx_if_eq (pc' := 7) (tg := 9) rfl rfl rfl (by omega) (by omega) (fun h8 => ?_) (fun h8 => ?_)
    · have _q := h8
      refine jx_ld (pc' := 10) (l' := [(0, .ref 66)]) (st' := [.ref 66]) rfl (jl_aloadn rfl) ?_
      have z9 := tz_f (tk0)
      refine jr_get (pc' := 13) (i := 11) (v := .int (i32 (tk0))) rfl rfl (by decide) (rFv_eq (by decide) (show G 11 = tk0 from (e_tk0))) rfl ?_
      refine jx_ar (pc' := 14) (st' := [.int (i32 (3)), .int (i32 (tk0))]) rfl rfl rfl rfl ?_
      refine jx_icmp_eq (pc' := 17) (tg := 35) rfl rfl rfl (by omega) (by omega) (by omega) (by omega) (fun h10 => ?_) (fun h10 => ?_)
      · have _q := h10
        refine jx_ld (pc' := 36) (l' := [(0, .ref 66)]) (st' := [.ref 66]) rfl (jl_aloadn rfl) ?_
        have z11 := tz_f (tk0)
        refine jr_get (pc' := 39) (i := 11) (v := .int (i32 (tk0))) rfl rfl (by decide) (rFv_eq (by decide) (show G 11 = tk0 from (e_tk0))) rfl ?_
        refine jx_ar (pc' := 40) (st' := [.int (i32 (3)), .int (i32 (tk0))]) rfl rfl rfl rfl ?_
        refine jx_icmp_ne (pc' := 43) (tg := 50) rfl rfl rfl (by omega) (by omega) (by omega) (by omega) (fun h12 => ?_) (fun h12 => ?_)
        · have _q := h12
          refine jx_ld (pc' := 51) (l' := [(0, .ref 66)]) (st' := [.ref 66]) rfl (jl_aloadn rfl) ?_
          refine jx_ar (pc' := 53) (st' := [.int (i32 (14)), .ref 66]) rfl rfl rfl rfl ?_
          have b13 : (-2147483648 : Int) ≤ G 13 ∧ G 13 ≤ 2147483647 := hW.1 13
          refine jx_vr (pc' := 56) (as := [.int (i32 (14))]) (st := []) rfl rfl rfl rfl ⟨rfl, rfl, Nat.le_of_ble_eq_true rfl⟩ rfl rfl (c_isKey (dd := d) (hd := by omega) (hW := hW) (k := 14) (tk := tk0) (e_tk := show G 11 = tk0 from (e_tk0)) (tn := G 13) (e_tn := show G 13 = G 13 from rfl)  (h_k := by omega)  ) (fun o V' hq => ?_)
          obtain ⟨r14, rfl, rfl, b15, q16⟩ := hq
          refine .inr ⟨_, rfl, ?_⟩
          rcases q16 with ⟨rfl, a17, a18, a19⟩ | rfl
          · have _q : True := trivial
            refine jx_if_eq (pc' := 59) (tg := 63) rfl rfl rfl (by omega) (by omega) (fun h20 => ?_) (fun h20 => ?_)
            · have _q := h20
              exact absurd h20 (by omega)
            · have _q := h20
              refine jx_ar (pc' := 60) (st' := [.int (i32 (1))]) rfl rfl rfl rfl ?_
              refine jx_go (tg := 64) rfl rfl ?_
              refine jx_ld (pc' := 65) (l' := jSto1 [(0, .ref 66)] 1 (.int (i32 (1)))) (st' := []) rfl rfl ?_
              obtain ⟨L21, eL21⟩ : ∃ q, q = jSto1 [(0, .ref 66)] 1 (.int (i32 (1))) := ⟨_, rfl⟩
              rw [← eL21]
              have gL21_0 : jGet L21 0 = some (.ref 66) := eL21 ▸ jg_ne (by decide) (rfl : jGet [(0, .ref 66)] 0 = some (.ref 66)) rfl
              have gL21_1 : jGet L21 1 = some (.int (i32 (1))) := eL21 ▸ jg_eq
              refine jx_ld (pc' := 66) (l' := L21) (st' := [.ref 66]) rfl (jl_aloadn gL21_0) ?_
              refine jx_vr (pc' := 69) (as := []) (st := []) rfl rfl rfl rfl ⟨rfl, rfl, Nat.le_of_ble_eq_true rfl⟩ rfl rfl (c_next (dd := d) (hd := by omega) (hW := hW)  (ln := ln) (e_ln := show G 9 = ln from (e_ln)) (le := le) (e_le := show A 4 (ln).toNat = le from (e_le)) (at0 := at0) (e_at0 := show G 10 = at0 from (e_at0))    (p_0 := by omega)) (fun o V' hq => ?_)
              obtain ⟨G22, A23, at2_24, tk2_25, rfl, rfl, hW26, hF27, e28, e29, p30, p31, p32, -⟩ := hq
              have hF34 := Fr_tr hF0 hF27 (Fr_sub (by decide)) (Fr_sub (by decide))
              have bat2_24 : (0 : Int) ≤ at2_24 ∧ at2_24 ≤ 3002 := e28 ▸ hW26.1 10
              have ztk2_25 := tz_b tk2_25
              have btk2_25 : (0 : Int) ≤ tk2_25 ∧ tk2_25 ≤ 5 := e29 ▸ hW26.1 11
              refine .inl ⟨rfl, ?_⟩
              refine jx_ld (pc' := 70) (l' := L21) (st' := [.ref 66]) rfl (jl_aloadn gL21_0) ?_
              refine jx_ar (pc' := 71) (st' := [.int (i32 (1)), .ref 66]) rfl rfl rfl rfl ?_
              refine jx_ld (pc' := 72) (l' := L21) (st' := [.int (i32 (1)), .int (i32 (1)), .ref 66]) rfl (jl_iloadn gL21_1) ?_
              refine jx_ar (pc' := 73) (st' := [.int (i32 (0)), .int (i32 (1)), .int (i32 (1)), .ref 66]) rfl rfl rfl rfl ?_
              refine jx_ar (pc' := 74) (st' := [.int (i32 (0)), .int (i32 (0)), .int (i32 (1)), .int (i32 (1)), .ref 66]) rfl rfl rfl rfl ?_
              refine jx_ar (pc' := 75) (st' := [.int (i32 (0)), .int (i32 (0)), .int (i32 (0)), .int (i32 (1)), .int (i32 (1)), .ref 66]) rfl rfl rfl rfl ?_
              refine jx_vr (pc' := 78) (as := [.int (i32 (1)), .int (i32 (1)), .int (i32 (0)), .int (i32 (0)), .int (i32 (0))]) (st := []) rfl rfl rfl rfl ⟨rfl, rfl, Nat.le_of_ble_eq_true rfl⟩ rfl rfl (c_node (dd := d) (hd := by omega) (hW := hW26) (kind := 1) (a := 1) (b := 0) (c := 0) (e := 0) (nd := nd) (e_nd := show G22 31 = nd from ((hF27.1 31 rfl).trans (e_nd)))  (h_kind := by omega) (h_a := by omega) (h_b := by omega) (h_c := by omega) (h_e := by omega)  (p_0 := by omega) (p_1 := by omega)) (fun o V' hq => ?_)
              obtain ⟨G35, A36, r37, nd2_38, rfl, rfl, hW39, hF40, b41, e42, p43, p44, -⟩ := hq
              have hF46 := Fr_tr hF34 hF40 (Fr_sub (by decide)) (Fr_sub (by decide))
              have bnd2_38 : (0 : Int) ≤ nd2_38 ∧ nd2_38 ≤ 6999 := e42 ▸ hW39.1 31
              refine .inr ⟨_, rfl, ?_⟩
              refine jx_rt (v := some (.int (i32 (r37)))) rfl rfl rfl rfl rfl rfl ?_
              have z47 := tz_f (tk2_25)
              exact ⟨_, _, _, at2_24, fk, op0, nd2_38, tk2_25, rfl, rfl, hW39, hF46, by omega, ((hF40.1 10 rfl).trans (e28)), ((hF40.1 16 rfl).trans ((hF27.1 16 rfl).trans (e_fk))), ((hF40.1 15 rfl).trans ((hF27.1 15 rfl).trans (e_op0))), (e42), ((hF40.1 11 rfl).trans (e29)), by omega, by omega, by omega, by omega, by omega, by omega, by first | exact Or.inl (⟨by omega, by omega, by omega, by omega, by omega, by omega⟩) | exact Or.inr (Or.inl (⟨by omega, by omega, by omega⟩)) | exact Or.inr (Or.inr ((⟨by omega, by omega, by omega⟩)))⟩
          · have _q : True := trivial
            refine jx_if_eq (pc' := 59) (tg := 63) rfl rfl rfl (by omega) (by omega) (fun h48 => ?_) (fun h48 => ?_)
            · have _q := h48
              refine jx_ar (pc' := 64) (st' := [.int (i32 (0))]) rfl rfl rfl rfl ?_
              refine jx_ld (pc' := 65) (l' := jSto1 [(0, .ref 66)] 1 (.int (i32 (0)))) (st' := []) rfl rfl ?_
              obtain ⟨L49, eL49⟩ : ∃ q, q = jSto1 [(0, .ref 66)] 1 (.int (i32 (0))) := ⟨_, rfl⟩
              rw [← eL49]
              have gL49_0 : jGet L49 0 = some (.ref 66) := eL49 ▸ jg_ne (by decide) (rfl : jGet [(0, .ref 66)] 0 = some (.ref 66)) rfl
              have gL49_1 : jGet L49 1 = some (.int (i32 (0))) := eL49 ▸ jg_eq
              refine jx_ld (pc' := 66) (l' := L49) (st' := [.ref 66]) rfl (jl_aloadn gL49_0) ?_
              refine jx_vr (pc' := 69) (as := []) (st := []) rfl rfl rfl rfl ⟨rfl, rfl, Nat.le_of_ble_eq_true rfl⟩ rfl rfl (c_next (dd := d) (hd := by omega) (hW := hW)  (ln := ln) (e_ln := show G 9 = ln from (e_ln)) (le := le) (e_le := show A 4 (ln).toNat = le from (e_le)) (at0 := at0) (e_at0 := show G 10 = at0 from (e_at0))    (p_0 := by omega)) (fun o V' hq => ?_)
              obtain ⟨G50, A51, at2_52, tk2_53, rfl, rfl, hW54, hF55, e56, e57, p58, p59, p60, -⟩ := hq
              have hF62 := Fr_tr hF0 hF55 (Fr_sub (by decide)) (Fr_sub (by decide))
              have bat2_52 : (0 : Int) ≤ at2_52 ∧ at2_52 ≤ 3002 := e56 ▸ hW54.1 10
              have ztk2_53 := tz_b tk2_53
              have btk2_53 : (0 : Int) ≤ tk2_53 ∧ tk2_53 ≤ 5 := e57 ▸ hW54.1 11
              refine .inl ⟨rfl, ?_⟩
              refine jx_ld (pc' := 70) (l' := L49) (st' := [.ref 66]) rfl (jl_aloadn gL49_0) ?_
              refine jx_ar (pc' := 71) (st' := [.int (i32 (1)), .ref 66]) rfl rfl rfl rfl ?_
              refine jx_ld (pc' := 72) (l' := L49) (st' := [.int (i32 (0)), .int (i32 (1)), .ref 66]) rfl (jl_iloadn gL49_1) ?_
              refine jx_ar (pc' := 73) (st' := [.int (i32 (0)), .int (i32 (0)), .int (i32 (1)), .ref 66]) rfl rfl rfl rfl ?_
              refine jx_ar (pc' := 74) (st' := [.int (i32 (0)), .int (i32 (0)), .int (i32 (0)), .int (i32 (1)), .ref 66]) rfl rfl rfl rfl ?_
              refine jx_ar (pc' := 75) (st' := [.int (i32 (0)), .int (i32 (0)), .int (i32 (0)), .int (i32 (0)), .int (i32 (1)), .ref 66]) rfl rfl rfl rfl ?_
              refine jx_vr (pc' := 78) (as := [.int (i32 (1)), .int (i32 (0)), .int (i32 (0)), .int (i32 (0)), .int (i32 (0))]) (st := []) rfl rfl rfl rfl ⟨rfl, rfl, Nat.le_of_ble_eq_true rfl⟩ rfl rfl (c_node (dd := d) (hd := by omega) (hW := hW54) (kind := 1) (a := 0) (b := 0) (c := 0) (e := 0) (nd := nd) (e_nd := show G50 31 = nd from ((hF55.1 31 rfl).trans (e_nd)))  (h_kind := by omega) (h_a := by omega) (h_b := by omega) (h_c := by omega) (h_e := by omega)  (p_0 := by omega) (p_1 := by omega)) (fun o V' hq => ?_)
              obtain ⟨G63, A64, r65, nd2_66, rfl, rfl, hW67, hF68, b69, e70, p71, p72, -⟩ := hq
              have hF74 := Fr_tr hF62 hF68 (Fr_sub (by decide)) (Fr_sub (by decide))
              have bnd2_66 : (0 : Int) ≤ nd2_66 ∧ nd2_66 ≤ 6999 := e70 ▸ hW67.1 31
              refine .inr ⟨_, rfl, ?_⟩
              refine jx_rt (v := some (.int (i32 (r65)))) rfl rfl rfl rfl rfl rfl ?_
              have z75 := tz_f (tk2_53)
              exact ⟨_, _, _, at2_52, fk, op0, nd2_66, tk2_53, rfl, rfl, hW67, hF74, by omega, ((hF68.1 10 rfl).trans (e56)), ((hF68.1 16 rfl).trans ((hF55.1 16 rfl).trans (e_fk))), ((hF68.1 15 rfl).trans ((hF55.1 15 rfl).trans (e_op0))), (e70), ((hF68.1 11 rfl).trans (e57)), by omega, by omega, by omega, by omega, by omega, by omega, by first | exact Or.inl (⟨by omega, by omega, by omega, by omega, by omega, by omega⟩) | exact Or.inr (Or.inl (⟨by omega, by omega, by omega⟩)) | exact Or.inr (Or.inr ((⟨by omega, by omega, by omega⟩)))⟩
            · have _q := h48
              exact absurd h48 (by omega)
        · have _q := h12
          refine jx_ld (pc' := 44) (l' := [(0, .ref 66)]) (st' := [.ref 66]) rfl (jl_aloadn rfl) ?_
          have b76 : (-2147483648 : Int) ≤ G 13 ∧ G 13 ≤ 2147483647 := hW.1 13
          refine jr_get (pc' := 47) (i := 13) (v := .int (i32 (G 13))) rfl rfl (by decide) rfl rfl ?_
          refine jx_go (tg := 64) rfl rfl ?_
          refine jx_ld (pc' := 65) (l' := jSto1 [(0, .ref 66)] 1 (.int (i32 (G 13)))) (st' := []) rfl rfl ?_
          obtain ⟨L77, eL77⟩ : ∃ q, q = jSto1 [(0, .ref 66)] 1 (.int (i32 (G 13))) := ⟨_, rfl⟩
          rw [← eL77]
          have gL77_0 : jGet L77 0 = some (.ref 66) := eL77 ▸ jg_ne (by decide) (rfl : jGet [(0, .ref 66)] 0 = some (.ref 66)) rfl
          have gL77_1 : jGet L77 1 = some (.int (i32 (G 13))) := eL77 ▸ jg_eq
          refine jx_ld (pc' := 66) (l' := L77) (st' := [.ref 66]) rfl (jl_aloadn gL77_0) ?_
          refine jx_vr (pc' := 69) (as := []) (st := []) rfl rfl rfl rfl ⟨rfl, rfl, Nat.le_of_ble_eq_true rfl⟩ rfl rfl (c_next (dd := d) (hd := by omega) (hW := hW)  (ln := ln) (e_ln := show G 9 = ln from (e_ln)) (le := le) (e_le := show A 4 (ln).toNat = le from (e_le)) (at0 := at0) (e_at0 := show G 10 = at0 from (e_at0))    (p_0 := by omega)) (fun o V' hq => ?_)
          obtain ⟨G78, A79, at2_80, tk2_81, rfl, rfl, hW82, hF83, e84, e85, p86, p87, p88, -⟩ := hq
          have hF90 := Fr_tr hF0 hF83 (Fr_sub (by decide)) (Fr_sub (by decide))
          have bat2_80 : (0 : Int) ≤ at2_80 ∧ at2_80 ≤ 3002 := e84 ▸ hW82.1 10
          have ztk2_81 := tz_b tk2_81
          have btk2_81 : (0 : Int) ≤ tk2_81 ∧ tk2_81 ≤ 5 := e85 ▸ hW82.1 11
          refine .inl ⟨rfl, ?_⟩
          refine jx_ld (pc' := 70) (l' := L77) (st' := [.ref 66]) rfl (jl_aloadn gL77_0) ?_
          refine jx_ar (pc' := 71) (st' := [.int (i32 (1)), .ref 66]) rfl rfl rfl rfl ?_
          refine jx_ld (pc' := 72) (l' := L77) (st' := [.int (i32 (G 13)), .int (i32 (1)), .ref 66]) rfl (jl_iloadn gL77_1) ?_
          refine jx_ar (pc' := 73) (st' := [.int (i32 (0)), .int (i32 (G 13)), .int (i32 (1)), .ref 66]) rfl rfl rfl rfl ?_
          refine jx_ar (pc' := 74) (st' := [.int (i32 (0)), .int (i32 (0)), .int (i32 (G 13)), .int (i32 (1)), .ref 66]) rfl rfl rfl rfl ?_
          refine jx_ar (pc' := 75) (st' := [.int (i32 (0)), .int (i32 (0)), .int (i32 (0)), .int (i32 (G 13)), .int (i32 (1)), .ref 66]) rfl rfl rfl rfl ?_
          refine jx_vr (pc' := 78) (as := [.int (i32 (1)), .int (i32 (G 13)), .int (i32 (0)), .int (i32 (0)), .int (i32 (0))]) (st := []) rfl rfl rfl rfl ⟨rfl, rfl, Nat.le_of_ble_eq_true rfl⟩ rfl rfl (c_node (dd := d) (hd := by omega) (hW := hW82) (kind := 1) (a := G 13) (b := 0) (c := 0) (e := 0) (nd := nd) (e_nd := show G78 31 = nd from ((hF83.1 31 rfl).trans (e_nd)))  (h_kind := by omega) (h_a := by omega) (h_b := by omega) (h_c := by omega) (h_e := by omega)  (p_0 := by omega) (p_1 := by omega)) (fun o V' hq => ?_)
          obtain ⟨G91, A92, r93, nd2_94, rfl, rfl, hW95, hF96, b97, e98, p99, p100, -⟩ := hq
          have hF102 := Fr_tr hF90 hF96 (Fr_sub (by decide)) (Fr_sub (by decide))
          have bnd2_94 : (0 : Int) ≤ nd2_94 ∧ nd2_94 ≤ 6999 := e98 ▸ hW95.1 31
          refine .inr ⟨_, rfl, ?_⟩
          refine jx_rt (v := some (.int (i32 (r93)))) rfl rfl rfl rfl rfl rfl ?_
          have z103 := tz_f (tk2_81)
          exact ⟨_, _, _, at2_80, fk, op0, nd2_94, tk2_81, rfl, rfl, hW95, hF102, by omega, ((hF96.1 10 rfl).trans (e84)), ((hF96.1 16 rfl).trans ((hF83.1 16 rfl).trans (e_fk))), ((hF96.1 15 rfl).trans ((hF83.1 15 rfl).trans (e_op0))), (e98), ((hF96.1 11 rfl).trans (e85)), by omega, by omega, by omega, by omega, by omega, by omega, by first | exact Or.inl (⟨by omega, by omega, by omega, by omega, by omega, by omega⟩) | exact Or.inr (Or.inl (⟨by omega, by omega, by omega⟩)) | exact Or.inr (Or.inr ((⟨by omega, by omega, by omega⟩)))⟩
      · have _q := h10
        refine jx_ld (pc' := 18) (l' := [(0, .ref 66)]) (st' := [.ref 66]) rfl (jl_aloadn rfl) ?_
        refine jx_ar (pc' := 20) (st' := [.int (i32 (14)), .ref 66]) rfl rfl rfl rfl ?_
        have b104 : (-2147483648 : Int) ≤ G 13 ∧ G 13 ≤ 2147483647 := hW.1 13
        refine jx_vr (pc' := 23) (as := [.int (i32 (14))]) (st := []) rfl rfl rfl rfl ⟨rfl, rfl, Nat.le_of_ble_eq_true rfl⟩ rfl rfl (c_isKey (dd := d) (hd := by omega) (hW := hW) (k := 14) (tk := tk0) (e_tk := show G 11 = tk0 from (e_tk0)) (tn := G 13) (e_tn := show G 13 = G 13 from rfl)  (h_k := by omega)  ) (fun o V' hq => ?_)
        obtain ⟨r105, rfl, rfl, b106, q107⟩ := hq
        refine .inr ⟨_, rfl, ?_⟩
        rcases q107 with ⟨rfl, a108, a109, a110⟩ | rfl
        · have _q : True := trivial
          refine jx_if_ne (pc' := 26) (tg := 35) rfl rfl rfl (by omega) (by omega) (fun h111 => ?_) (fun h111 => ?_)
          · have _q := h111
            refine jx_ld (pc' := 36) (l' := [(0, .ref 66)]) (st' := [.ref 66]) rfl (jl_aloadn rfl) ?_
            have z112 := tz_f (tk0)
            refine jr_get (pc' := 39) (i := 11) (v := .int (i32 (tk0))) rfl rfl (by decide) (rFv_eq (by decide) (show G 11 = tk0 from (e_tk0))) rfl ?_
            refine jx_ar (pc' := 40) (st' := [.int (i32 (3)), .int (i32 (tk0))]) rfl rfl rfl rfl ?_
            refine jx_icmp_ne (pc' := 43) (tg := 50) rfl rfl rfl (by omega) (by omega) (by omega) (by omega) (fun h113 => ?_) (fun h113 => ?_)
            · have _q := h113
              refine jx_ld (pc' := 51) (l' := [(0, .ref 66)]) (st' := [.ref 66]) rfl (jl_aloadn rfl) ?_
              refine jx_ar (pc' := 53) (st' := [.int (i32 (14)), .ref 66]) rfl rfl rfl rfl ?_
              refine jx_vr (pc' := 56) (as := [.int (i32 (14))]) (st := []) rfl rfl rfl rfl ⟨rfl, rfl, Nat.le_of_ble_eq_true rfl⟩ rfl rfl (c_isKey (dd := d) (hd := by omega) (hW := hW) (k := 14) (tk := tk0) (e_tk := show G 11 = tk0 from (e_tk0)) (tn := G 13) (e_tn := show G 13 = G 13 from rfl)  (h_k := by omega)  ) (fun o V' hq => ?_)
              obtain ⟨r114, rfl, rfl, b115, q116⟩ := hq
              refine .inr ⟨_, rfl, ?_⟩
              rcases q116 with ⟨rfl, a117, a118, a119⟩ | rfl
              · have _q : True := trivial
                refine jx_if_eq (pc' := 59) (tg := 63) rfl rfl rfl (by omega) (by omega) (fun h120 => ?_) (fun h120 => ?_)
                · have _q := h120
                  exact absurd h120 (by omega)
                · have _q := h120
                  refine jx_ar (pc' := 60) (st' := [.int (i32 (1))]) rfl rfl rfl rfl ?_
                  refine jx_go (tg := 64) rfl rfl ?_
                  refine jx_ld (pc' := 65) (l' := jSto1 [(0, .ref 66)] 1 (.int (i32 (1)))) (st' := []) rfl rfl ?_
                  obtain ⟨L121, eL121⟩ : ∃ q, q = jSto1 [(0, .ref 66)] 1 (.int (i32 (1))) := ⟨_, rfl⟩
                  rw [← eL121]
                  have gL121_0 : jGet L121 0 = some (.ref 66) := eL121 ▸ jg_ne (by decide) (rfl : jGet [(0, .ref 66)] 0 = some (.ref 66)) rfl
                  have gL121_1 : jGet L121 1 = some (.int (i32 (1))) := eL121 ▸ jg_eq
                  refine jx_ld (pc' := 66) (l' := L121) (st' := [.ref 66]) rfl (jl_aloadn gL121_0) ?_
                  refine jx_vr (pc' := 69) (as := []) (st := []) rfl rfl rfl rfl ⟨rfl, rfl, Nat.le_of_ble_eq_true rfl⟩ rfl rfl (c_next (dd := d) (hd := by omega) (hW := hW)  (ln := ln) (e_ln := show G 9 = ln from (e_ln)) (le := le) (e_le := show A 4 (ln).toNat = le from (e_le)) (at0 := at0) (e_at0 := show G 10 = at0 from (e_at0))    (p_0 := by omega)) (fun o V' hq => ?_)
                  obtain ⟨G122, A123, at2_124, tk2_125, rfl, rfl, hW126, hF127, e128, e129, p130, p131, p132, -⟩ := hq
                  have hF134 := Fr_tr hF0 hF127 (Fr_sub (by decide)) (Fr_sub (by decide))
                  have bat2_124 : (0 : Int) ≤ at2_124 ∧ at2_124 ≤ 3002 := e128 ▸ hW126.1 10
                  have ztk2_125 := tz_b tk2_125
                  have btk2_125 : (0 : Int) ≤ tk2_125 ∧ tk2_125 ≤ 5 := e129 ▸ hW126.1 11
                  refine .inl ⟨rfl, ?_⟩
                  refine jx_ld (pc' := 70) (l' := L121) (st' := [.ref 66]) rfl (jl_aloadn gL121_0) ?_
                  refine jx_ar (pc' := 71) (st' := [.int (i32 (1)), .ref 66]) rfl rfl rfl rfl ?_
                  refine jx_ld (pc' := 72) (l' := L121) (st' := [.int (i32 (1)), .int (i32 (1)), .ref 66]) rfl (jl_iloadn gL121_1) ?_
                  refine jx_ar (pc' := 73) (st' := [.int (i32 (0)), .int (i32 (1)), .int (i32 (1)), .ref 66]) rfl rfl rfl rfl ?_
                  refine jx_ar (pc' := 74) (st' := [.int (i32 (0)), .int (i32 (0)), .int (i32 (1)), .int (i32 (1)), .ref 66]) rfl rfl rfl rfl ?_
                  refine jx_ar (pc' := 75) (st' := [.int (i32 (0)), .int (i32 (0)), .int (i32 (0)), .int (i32 (1)), .int (i32 (1)), .ref 66]) rfl rfl rfl rfl ?_
                  refine jx_vr (pc' := 78) (as := [.int (i32 (1)), .int (i32 (1)), .int (i32 (0)), .int (i32 (0)), .int (i32 (0))]) (st := []) rfl rfl rfl rfl ⟨rfl, rfl, Nat.le_of_ble_eq_true rfl⟩ rfl rfl (c_node (dd := d) (hd := by omega) (hW := hW126) (kind := 1) (a := 1) (b := 0) (c := 0) (e := 0) (nd := nd) (e_nd := show G122 31 = nd from ((hF127.1 31 rfl).trans (e_nd)))  (h_kind := by omega) (h_a := by omega) (h_b := by omega) (h_c := by omega) (h_e := by omega)  (p_0 := by omega) (p_1 := by omega)) (fun o V' hq => ?_)
                  obtain ⟨G135, A136, r137, nd2_138, rfl, rfl, hW139, hF140, b141, e142, p143, p144, -⟩ := hq
                  have hF146 := Fr_tr hF134 hF140 (Fr_sub (by decide)) (Fr_sub (by decide))
                  have bnd2_138 : (0 : Int) ≤ nd2_138 ∧ nd2_138 ≤ 6999 := e142 ▸ hW139.1 31
                  refine .inr ⟨_, rfl, ?_⟩
                  refine jx_rt (v := some (.int (i32 (r137)))) rfl rfl rfl rfl rfl rfl ?_
                  have z147 := tz_f (tk2_125)
                  exact ⟨_, _, _, at2_124, fk, op0, nd2_138, tk2_125, rfl, rfl, hW139, hF146, by omega, ((hF140.1 10 rfl).trans (e128)), ((hF140.1 16 rfl).trans ((hF127.1 16 rfl).trans (e_fk))), ((hF140.1 15 rfl).trans ((hF127.1 15 rfl).trans (e_op0))), (e142), ((hF140.1 11 rfl).trans (e129)), by omega, by omega, by omega, by omega, by omega, by omega, by first | exact Or.inl (⟨by omega, by omega, by omega, by omega, by omega, by omega⟩) | exact Or.inr (Or.inl (⟨by omega, by omega, by omega⟩)) | exact Or.inr (Or.inr ((⟨by omega, by omega, by omega⟩)))⟩
              · have _q : True := trivial
                refine jx_if_eq (pc' := 59) (tg := 63) rfl rfl rfl (by omega) (by omega) (fun h148 => ?_) (fun h148 => ?_)
                · have _q := h148
                  refine jx_ar (pc' := 64) (st' := [.int (i32 (0))]) rfl rfl rfl rfl ?_
                  refine jx_ld (pc' := 65) (l' := jSto1 [(0, .ref 66)] 1 (.int (i32 (0)))) (st' := []) rfl rfl ?_
                  obtain ⟨L149, eL149⟩ : ∃ q, q = jSto1 [(0, .ref 66)] 1 (.int (i32 (0))) := ⟨_, rfl⟩
                  rw [← eL149]
                  have gL149_0 : jGet L149 0 = some (.ref 66) := eL149 ▸ jg_ne (by decide) (rfl : jGet [(0, .ref 66)] 0 = some (.ref 66)) rfl
                  have gL149_1 : jGet L149 1 = some (.int (i32 (0))) := eL149 ▸ jg_eq
                  refine jx_ld (pc' := 66) (l' := L149) (st' := [.ref 66]) rfl (jl_aloadn gL149_0) ?_
                  refine jx_vr (pc' := 69) (as := []) (st := []) rfl rfl rfl rfl ⟨rfl, rfl, Nat.le_of_ble_eq_true rfl⟩ rfl rfl (c_next (dd := d) (hd := by omega) (hW := hW)  (ln := ln) (e_ln := show G 9 = ln from (e_ln)) (le := le) (e_le := show A 4 (ln).toNat = le from (e_le)) (at0 := at0) (e_at0 := show G 10 = at0 from (e_at0))    (p_0 := by omega)) (fun o V' hq => ?_)
                  obtain ⟨G150, A151, at2_152, tk2_153, rfl, rfl, hW154, hF155, e156, e157, p158, p159, p160, -⟩ := hq
                  have hF162 := Fr_tr hF0 hF155 (Fr_sub (by decide)) (Fr_sub (by decide))
                  have bat2_152 : (0 : Int) ≤ at2_152 ∧ at2_152 ≤ 3002 := e156 ▸ hW154.1 10
                  have ztk2_153 := tz_b tk2_153
                  have btk2_153 : (0 : Int) ≤ tk2_153 ∧ tk2_153 ≤ 5 := e157 ▸ hW154.1 11
                  refine .inl ⟨rfl, ?_⟩
                  refine jx_ld (pc' := 70) (l' := L149) (st' := [.ref 66]) rfl (jl_aloadn gL149_0) ?_
                  refine jx_ar (pc' := 71) (st' := [.int (i32 (1)), .ref 66]) rfl rfl rfl rfl ?_
                  refine jx_ld (pc' := 72) (l' := L149) (st' := [.int (i32 (0)), .int (i32 (1)), .ref 66]) rfl (jl_iloadn gL149_1) ?_
                  refine jx_ar (pc' := 73) (st' := [.int (i32 (0)), .int (i32 (0)), .int (i32 (1)), .ref 66]) rfl rfl rfl rfl ?_
                  refine jx_ar (pc' := 74) (st' := [.int (i32 (0)), .int (i32 (0)), .int (i32 (0)), .int (i32 (1)), .ref 66]) rfl rfl rfl rfl ?_
                  refine jx_ar (pc' := 75) (st' := [.int (i32 (0)), .int (i32 (0)), .int (i32 (0)), .int (i32 (0)), .int (i32 (1)), .ref 66]) rfl rfl rfl rfl ?_
                  refine jx_vr (pc' := 78) (as := [.int (i32 (1)), .int (i32 (0)), .int (i32 (0)), .int (i32 (0)), .int (i32 (0))]) (st := []) rfl rfl rfl rfl ⟨rfl, rfl, Nat.le_of_ble_eq_true rfl⟩ rfl rfl (c_node (dd := d) (hd := by omega) (hW := hW154) (kind := 1) (a := 0) (b := 0) (c := 0) (e := 0) (nd := nd) (e_nd := show G150 31 = nd from ((hF155.1 31 rfl).trans (e_nd)))  (h_kind := by omega) (h_a := by omega) (h_b := by omega) (h_c := by omega) (h_e := by omega)  (p_0 := by omega) (p_1 := by omega)) (fun o V' hq => ?_)
                  obtain ⟨G163, A164, r165, nd2_166, rfl, rfl, hW167, hF168, b169, e170, p171, p172, -⟩ := hq
                  have hF174 := Fr_tr hF162 hF168 (Fr_sub (by decide)) (Fr_sub (by decide))
                  have bnd2_166 : (0 : Int) ≤ nd2_166 ∧ nd2_166 ≤ 6999 := e170 ▸ hW167.1 31
                  refine .inr ⟨_, rfl, ?_⟩
                  refine jx_rt (v := some (.int (i32 (r165)))) rfl rfl rfl rfl rfl rfl ?_
                  have z175 := tz_f (tk2_153)
                  exact ⟨_, _, _, at2_152, fk, op0, nd2_166, tk2_153, rfl, rfl, hW167, hF174, by omega, ((hF168.1 10 rfl).trans (e156)), ((hF168.1 16 rfl).trans ((hF155.1 16 rfl).trans (e_fk))), ((hF168.1 15 rfl).trans ((hF155.1 15 rfl).trans (e_op0))), (e170), ((hF168.1 11 rfl).trans (e157)), by omega, by omega, by omega, by omega, by omega, by omega, by first | exact Or.inl (⟨by omega, by omega, by omega, by omega, by omega, by omega⟩) | exact Or.inr (Or.inl (⟨by omega, by omega, by omega⟩)) | exact Or.inr (Or.inr ((⟨by omega, by omega, by omega⟩)))⟩
                · have _q := h148
                  exact absurd h148 (by omega)
            · have _q := h113
              refine jx_ld (pc' := 44) (l' := [(0, .ref 66)]) (st' := [.ref 66]) rfl (jl_aloadn rfl) ?_
              refine jr_get (pc' := 47) (i := 13) (v := .int (i32 (G 13))) rfl rfl (by decide) rfl rfl ?_
              refine jx_go (tg := 64) rfl rfl ?_
              refine jx_ld (pc' := 65) (l' := jSto1 [(0, .ref 66)] 1 (.int (i32 (G 13)))) (st' := []) rfl rfl ?_
              obtain ⟨L176, eL176⟩ : ∃ q, q = jSto1 [(0, .ref 66)] 1 (.int (i32 (G 13))) := ⟨_, rfl⟩
              rw [← eL176]
              have gL176_0 : jGet L176 0 = some (.ref 66) := eL176 ▸ jg_ne (by decide) (rfl : jGet [(0, .ref 66)] 0 = some (.ref 66)) rfl
              have gL176_1 : jGet L176 1 = some (.int (i32 (G 13))) := eL176 ▸ jg_eq
              refine jx_ld (pc' := 66) (l' := L176) (st' := [.ref 66]) rfl (jl_aloadn gL176_0) ?_
              refine jx_vr (pc' := 69) (as := []) (st := []) rfl rfl rfl rfl ⟨rfl, rfl, Nat.le_of_ble_eq_true rfl⟩ rfl rfl (c_next (dd := d) (hd := by omega) (hW := hW)  (ln := ln) (e_ln := show G 9 = ln from (e_ln)) (le := le) (e_le := show A 4 (ln).toNat = le from (e_le)) (at0 := at0) (e_at0 := show G 10 = at0 from (e_at0))    (p_0 := by omega)) (fun o V' hq => ?_)
              obtain ⟨G177, A178, at2_179, tk2_180, rfl, rfl, hW181, hF182, e183, e184, p185, p186, p187, -⟩ := hq
              have hF189 := Fr_tr hF0 hF182 (Fr_sub (by decide)) (Fr_sub (by decide))
              have bat2_179 : (0 : Int) ≤ at2_179 ∧ at2_179 ≤ 3002 := e183 ▸ hW181.1 10
              have ztk2_180 := tz_b tk2_180
              have btk2_180 : (0 : Int) ≤ tk2_180 ∧ tk2_180 ≤ 5 := e184 ▸ hW181.1 11
              refine .inl ⟨rfl, ?_⟩
              refine jx_ld (pc' := 70) (l' := L176) (st' := [.ref 66]) rfl (jl_aloadn gL176_0) ?_
              refine jx_ar (pc' := 71) (st' := [.int (i32 (1)), .ref 66]) rfl rfl rfl rfl ?_
              refine jx_ld (pc' := 72) (l' := L176) (st' := [.int (i32 (G 13)), .int (i32 (1)), .ref 66]) rfl (jl_iloadn gL176_1) ?_
              refine jx_ar (pc' := 73) (st' := [.int (i32 (0)), .int (i32 (G 13)), .int (i32 (1)), .ref 66]) rfl rfl rfl rfl ?_
              refine jx_ar (pc' := 74) (st' := [.int (i32 (0)), .int (i32 (0)), .int (i32 (G 13)), .int (i32 (1)), .ref 66]) rfl rfl rfl rfl ?_
              refine jx_ar (pc' := 75) (st' := [.int (i32 (0)), .int (i32 (0)), .int (i32 (0)), .int (i32 (G 13)), .int (i32 (1)), .ref 66]) rfl rfl rfl rfl ?_
              refine jx_vr (pc' := 78) (as := [.int (i32 (1)), .int (i32 (G 13)), .int (i32 (0)), .int (i32 (0)), .int (i32 (0))]) (st := []) rfl rfl rfl rfl ⟨rfl, rfl, Nat.le_of_ble_eq_true rfl⟩ rfl rfl (c_node (dd := d) (hd := by omega) (hW := hW181) (kind := 1) (a := G 13) (b := 0) (c := 0) (e := 0) (nd := nd) (e_nd := show G177 31 = nd from ((hF182.1 31 rfl).trans (e_nd)))  (h_kind := by omega) (h_a := by omega) (h_b := by omega) (h_c := by omega) (h_e := by omega)  (p_0 := by omega) (p_1 := by omega)) (fun o V' hq => ?_)
              obtain ⟨G190, A191, r192, nd2_193, rfl, rfl, hW194, hF195, b196, e197, p198, p199, -⟩ := hq
              have hF201 := Fr_tr hF189 hF195 (Fr_sub (by decide)) (Fr_sub (by decide))
              have bnd2_193 : (0 : Int) ≤ nd2_193 ∧ nd2_193 ≤ 6999 := e197 ▸ hW194.1 31
              refine .inr ⟨_, rfl, ?_⟩
              refine jx_rt (v := some (.int (i32 (r192)))) rfl rfl rfl rfl rfl rfl ?_
              have z202 := tz_f (tk2_180)
              exact ⟨_, _, _, at2_179, fk, op0, nd2_193, tk2_180, rfl, rfl, hW194, hF201, by omega, ((hF195.1 10 rfl).trans (e183)), ((hF195.1 16 rfl).trans ((hF182.1 16 rfl).trans (e_fk))), ((hF195.1 15 rfl).trans ((hF182.1 15 rfl).trans (e_op0))), (e197), ((hF195.1 11 rfl).trans (e184)), by omega, by omega, by omega, by omega, by omega, by omega, by first | exact Or.inl (⟨by omega, by omega, by omega, by omega, by omega, by omega⟩) | exact Or.inr (Or.inl (⟨by omega, by omega, by omega⟩)) | exact Or.inr (Or.inr ((⟨by omega, by omega, by omega⟩)))⟩
          · have _q := h111
            exact absurd h111 (by omega)
        · have _q : True := trivial
          refine jx_if_ne (pc' := 26) (tg := 35) rfl rfl rfl (by omega) (by omega) (fun h203 => ?_) (fun h203 => ?_)
          · have _q := h203
            exact absurd h203 (by omega)
          · have _q := h203
            refine jx_ld (pc' := 27) (l' := [(0, .ref 66)]) (st' := [.ref 66]) rfl (jl_aloadn rfl) ?_
            refine jx_ar (pc' := 29) (st' := [.int (i32 (15)), .ref 66]) rfl rfl rfl rfl ?_
            refine jx_vr (pc' := 32) (as := [.int (i32 (15))]) (st := []) rfl rfl rfl rfl ⟨rfl, rfl, Nat.le_of_ble_eq_true rfl⟩ rfl rfl (c_isKey (dd := d) (hd := by omega) (hW := hW) (k := 15) (tk := tk0) (e_tk := show G 11 = tk0 from (e_tk0)) (tn := G 13) (e_tn := show G 13 = G 13 from rfl)  (h_k := by omega)  ) (fun o V' hq => ?_)
            obtain ⟨r204, rfl, rfl, b205, q206⟩ := hq
            refine .inr ⟨_, rfl, ?_⟩
            rcases q206 with ⟨rfl, a207, a208, a209⟩ | rfl
            · have _q : True := trivial
              refine jx_if_eq (pc' := 35) (tg := 79) rfl rfl rfl (by omega) (by omega) (fun h210 => ?_) (fun h210 => ?_)
              · have _q := h210
                exact absurd h210 (by omega)
              · have _q := h210
                refine jx_ld (pc' := 36) (l' := [(0, .ref 66)]) (st' := [.ref 66]) rfl (jl_aloadn rfl) ?_
                have z211 := tz_f (tk0)
                refine jr_get (pc' := 39) (i := 11) (v := .int (i32 (tk0))) rfl rfl (by decide) (rFv_eq (by decide) (show G 11 = tk0 from (e_tk0))) rfl ?_
                refine jx_ar (pc' := 40) (st' := [.int (i32 (3)), .int (i32 (tk0))]) rfl rfl rfl rfl ?_
                refine jx_icmp_ne (pc' := 43) (tg := 50) rfl rfl rfl (by omega) (by omega) (by omega) (by omega) (fun h212 => ?_) (fun h212 => ?_)
                · have _q := h212
                  refine jx_ld (pc' := 51) (l' := [(0, .ref 66)]) (st' := [.ref 66]) rfl (jl_aloadn rfl) ?_
                  refine jx_ar (pc' := 53) (st' := [.int (i32 (14)), .ref 66]) rfl rfl rfl rfl ?_
                  refine jx_vr (pc' := 56) (as := [.int (i32 (14))]) (st := []) rfl rfl rfl rfl ⟨rfl, rfl, Nat.le_of_ble_eq_true rfl⟩ rfl rfl (c_isKey (dd := d) (hd := by omega) (hW := hW) (k := 14) (tk := tk0) (e_tk := show G 11 = tk0 from (e_tk0)) (tn := G 13) (e_tn := show G 13 = G 13 from rfl)  (h_k := by omega)  ) (fun o V' hq => ?_)
                  obtain ⟨r213, rfl, rfl, b214, q215⟩ := hq
                  refine .inr ⟨_, rfl, ?_⟩
                  rcases q215 with ⟨rfl, a216, a217, a218⟩ | rfl
                  · have _q : True := trivial
                    refine jx_if_eq (pc' := 59) (tg := 63) rfl rfl rfl (by omega) (by omega) (fun h219 => ?_) (fun h219 => ?_)
                    · have _q := h219
                      exact absurd h219 (by omega)
                    · have _q := h219
                      refine jx_ar (pc' := 60) (st' := [.int (i32 (1))]) rfl rfl rfl rfl ?_
                      refine jx_go (tg := 64) rfl rfl ?_
                      refine jx_ld (pc' := 65) (l' := jSto1 [(0, .ref 66)] 1 (.int (i32 (1)))) (st' := []) rfl rfl ?_
                      obtain ⟨L220, eL220⟩ : ∃ q, q = jSto1 [(0, .ref 66)] 1 (.int (i32 (1))) := ⟨_, rfl⟩
                      rw [← eL220]
                      have gL220_0 : jGet L220 0 = some (.ref 66) := eL220 ▸ jg_ne (by decide) (rfl : jGet [(0, .ref 66)] 0 = some (.ref 66)) rfl
                      have gL220_1 : jGet L220 1 = some (.int (i32 (1))) := eL220 ▸ jg_eq
                      refine jx_ld (pc' := 66) (l' := L220) (st' := [.ref 66]) rfl (jl_aloadn gL220_0) ?_
                      refine jx_vr (pc' := 69) (as := []) (st := []) rfl rfl rfl rfl ⟨rfl, rfl, Nat.le_of_ble_eq_true rfl⟩ rfl rfl (c_next (dd := d) (hd := by omega) (hW := hW)  (ln := ln) (e_ln := show G 9 = ln from (e_ln)) (le := le) (e_le := show A 4 (ln).toNat = le from (e_le)) (at0 := at0) (e_at0 := show G 10 = at0 from (e_at0))    (p_0 := by omega)) (fun o V' hq => ?_)
                      obtain ⟨G221, A222, at2_223, tk2_224, rfl, rfl, hW225, hF226, e227, e228, p229, p230, p231, -⟩ := hq
                      have hF233 := Fr_tr hF0 hF226 (Fr_sub (by decide)) (Fr_sub (by decide))
                      have bat2_223 : (0 : Int) ≤ at2_223 ∧ at2_223 ≤ 3002 := e227 ▸ hW225.1 10
                      have ztk2_224 := tz_b tk2_224
                      have btk2_224 : (0 : Int) ≤ tk2_224 ∧ tk2_224 ≤ 5 := e228 ▸ hW225.1 11
                      refine .inl ⟨rfl, ?_⟩
                      refine jx_ld (pc' := 70) (l' := L220) (st' := [.ref 66]) rfl (jl_aloadn gL220_0) ?_
                      refine jx_ar (pc' := 71) (st' := [.int (i32 (1)), .ref 66]) rfl rfl rfl rfl ?_
                      refine jx_ld (pc' := 72) (l' := L220) (st' := [.int (i32 (1)), .int (i32 (1)), .ref 66]) rfl (jl_iloadn gL220_1) ?_
                      refine jx_ar (pc' := 73) (st' := [.int (i32 (0)), .int (i32 (1)), .int (i32 (1)), .ref 66]) rfl rfl rfl rfl ?_
                      refine jx_ar (pc' := 74) (st' := [.int (i32 (0)), .int (i32 (0)), .int (i32 (1)), .int (i32 (1)), .ref 66]) rfl rfl rfl rfl ?_
                      refine jx_ar (pc' := 75) (st' := [.int (i32 (0)), .int (i32 (0)), .int (i32 (0)), .int (i32 (1)), .int (i32 (1)), .ref 66]) rfl rfl rfl rfl ?_
                      refine jx_vr (pc' := 78) (as := [.int (i32 (1)), .int (i32 (1)), .int (i32 (0)), .int (i32 (0)), .int (i32 (0))]) (st := []) rfl rfl rfl rfl ⟨rfl, rfl, Nat.le_of_ble_eq_true rfl⟩ rfl rfl (c_node (dd := d) (hd := by omega) (hW := hW225) (kind := 1) (a := 1) (b := 0) (c := 0) (e := 0) (nd := nd) (e_nd := show G221 31 = nd from ((hF226.1 31 rfl).trans (e_nd)))  (h_kind := by omega) (h_a := by omega) (h_b := by omega) (h_c := by omega) (h_e := by omega)  (p_0 := by omega) (p_1 := by omega)) (fun o V' hq => ?_)
                      obtain ⟨G234, A235, r236, nd2_237, rfl, rfl, hW238, hF239, b240, e241, p242, p243, -⟩ := hq
                      have hF245 := Fr_tr hF233 hF239 (Fr_sub (by decide)) (Fr_sub (by decide))
                      have bnd2_237 : (0 : Int) ≤ nd2_237 ∧ nd2_237 ≤ 6999 := e241 ▸ hW238.1 31
                      refine .inr ⟨_, rfl, ?_⟩
                      refine jx_rt (v := some (.int (i32 (r236)))) rfl rfl rfl rfl rfl rfl ?_
                      have z246 := tz_f (tk2_224)
                      exact ⟨_, _, _, at2_223, fk, op0, nd2_237, tk2_224, rfl, rfl, hW238, hF245, by omega, ((hF239.1 10 rfl).trans (e227)), ((hF239.1 16 rfl).trans ((hF226.1 16 rfl).trans (e_fk))), ((hF239.1 15 rfl).trans ((hF226.1 15 rfl).trans (e_op0))), (e241), ((hF239.1 11 rfl).trans (e228)), by omega, by omega, by omega, by omega, by omega, by omega, by first | exact Or.inl (⟨by omega, by omega, by omega, by omega, by omega, by omega⟩) | exact Or.inr (Or.inl (⟨by omega, by omega, by omega⟩)) | exact Or.inr (Or.inr ((⟨by omega, by omega, by omega⟩)))⟩
                  · have _q : True := trivial
                    refine jx_if_eq (pc' := 59) (tg := 63) rfl rfl rfl (by omega) (by omega) (fun h247 => ?_) (fun h247 => ?_)
                    · have _q := h247
                      refine jx_ar (pc' := 64) (st' := [.int (i32 (0))]) rfl rfl rfl rfl ?_
                      refine jx_ld (pc' := 65) (l' := jSto1 [(0, .ref 66)] 1 (.int (i32 (0)))) (st' := []) rfl rfl ?_
                      obtain ⟨L248, eL248⟩ : ∃ q, q = jSto1 [(0, .ref 66)] 1 (.int (i32 (0))) := ⟨_, rfl⟩
                      rw [← eL248]
                      have gL248_0 : jGet L248 0 = some (.ref 66) := eL248 ▸ jg_ne (by decide) (rfl : jGet [(0, .ref 66)] 0 = some (.ref 66)) rfl
                      have gL248_1 : jGet L248 1 = some (.int (i32 (0))) := eL248 ▸ jg_eq
                      refine jx_ld (pc' := 66) (l' := L248) (st' := [.ref 66]) rfl (jl_aloadn gL248_0) ?_
                      refine jx_vr (pc' := 69) (as := []) (st := []) rfl rfl rfl rfl ⟨rfl, rfl, Nat.le_of_ble_eq_true rfl⟩ rfl rfl (c_next (dd := d) (hd := by omega) (hW := hW)  (ln := ln) (e_ln := show G 9 = ln from (e_ln)) (le := le) (e_le := show A 4 (ln).toNat = le from (e_le)) (at0 := at0) (e_at0 := show G 10 = at0 from (e_at0))    (p_0 := by omega)) (fun o V' hq => ?_)
                      obtain ⟨G249, A250, at2_251, tk2_252, rfl, rfl, hW253, hF254, e255, e256, p257, p258, p259, -⟩ := hq
                      have hF261 := Fr_tr hF0 hF254 (Fr_sub (by decide)) (Fr_sub (by decide))
                      have bat2_251 : (0 : Int) ≤ at2_251 ∧ at2_251 ≤ 3002 := e255 ▸ hW253.1 10
                      have ztk2_252 := tz_b tk2_252
                      have btk2_252 : (0 : Int) ≤ tk2_252 ∧ tk2_252 ≤ 5 := e256 ▸ hW253.1 11
                      refine .inl ⟨rfl, ?_⟩
                      refine jx_ld (pc' := 70) (l' := L248) (st' := [.ref 66]) rfl (jl_aloadn gL248_0) ?_
                      refine jx_ar (pc' := 71) (st' := [.int (i32 (1)), .ref 66]) rfl rfl rfl rfl ?_
                      refine jx_ld (pc' := 72) (l' := L248) (st' := [.int (i32 (0)), .int (i32 (1)), .ref 66]) rfl (jl_iloadn gL248_1) ?_
                      refine jx_ar (pc' := 73) (st' := [.int (i32 (0)), .int (i32 (0)), .int (i32 (1)), .ref 66]) rfl rfl rfl rfl ?_
                      refine jx_ar (pc' := 74) (st' := [.int (i32 (0)), .int (i32 (0)), .int (i32 (0)), .int (i32 (1)), .ref 66]) rfl rfl rfl rfl ?_
                      refine jx_ar (pc' := 75) (st' := [.int (i32 (0)), .int (i32 (0)), .int (i32 (0)), .int (i32 (0)), .int (i32 (1)), .ref 66]) rfl rfl rfl rfl ?_
                      refine jx_vr (pc' := 78) (as := [.int (i32 (1)), .int (i32 (0)), .int (i32 (0)), .int (i32 (0)), .int (i32 (0))]) (st := []) rfl rfl rfl rfl ⟨rfl, rfl, Nat.le_of_ble_eq_true rfl⟩ rfl rfl (c_node (dd := d) (hd := by omega) (hW := hW253) (kind := 1) (a := 0) (b := 0) (c := 0) (e := 0) (nd := nd) (e_nd := show G249 31 = nd from ((hF254.1 31 rfl).trans (e_nd)))  (h_kind := by omega) (h_a := by omega) (h_b := by omega) (h_c := by omega) (h_e := by omega)  (p_0 := by omega) (p_1 := by omega)) (fun o V' hq => ?_)
                      obtain ⟨G262, A263, r264, nd2_265, rfl, rfl, hW266, hF267, b268, e269, p270, p271, -⟩ := hq
                      have hF273 := Fr_tr hF261 hF267 (Fr_sub (by decide)) (Fr_sub (by decide))
                      have bnd2_265 : (0 : Int) ≤ nd2_265 ∧ nd2_265 ≤ 6999 := e269 ▸ hW266.1 31
                      refine .inr ⟨_, rfl, ?_⟩
                      refine jx_rt (v := some (.int (i32 (r264)))) rfl rfl rfl rfl rfl rfl ?_
                      have z274 := tz_f (tk2_252)
                      exact ⟨_, _, _, at2_251, fk, op0, nd2_265, tk2_252, rfl, rfl, hW266, hF273, by omega, ((hF267.1 10 rfl).trans (e255)), ((hF267.1 16 rfl).trans ((hF254.1 16 rfl).trans (e_fk))), ((hF267.1 15 rfl).trans ((hF254.1 15 rfl).trans (e_op0))), (e269), ((hF267.1 11 rfl).trans (e256)), by omega, by omega, by omega, by omega, by omega, by omega, by first | exact Or.inl (⟨by omega, by omega, by omega, by omega, by omega, by omega⟩) | exact Or.inr (Or.inl (⟨by omega, by omega, by omega⟩)) | exact Or.inr (Or.inr ((⟨by omega, by omega, by omega⟩)))⟩
                    · have _q := h247
                      exact absurd h247 (by omega)
                · have _q := h212
                  refine jx_ld (pc' := 44) (l' := [(0, .ref 66)]) (st' := [.ref 66]) rfl (jl_aloadn rfl) ?_
                  refine jr_get (pc' := 47) (i := 13) (v := .int (i32 (G 13))) rfl rfl (by decide) rfl rfl ?_
                  refine jx_go (tg := 64) rfl rfl ?_
                  refine jx_ld (pc' := 65) (l' := jSto1 [(0, .ref 66)] 1 (.int (i32 (G 13)))) (st' := []) rfl rfl ?_
                  obtain ⟨L275, eL275⟩ : ∃ q, q = jSto1 [(0, .ref 66)] 1 (.int (i32 (G 13))) := ⟨_, rfl⟩
                  rw [← eL275]
                  have gL275_0 : jGet L275 0 = some (.ref 66) := eL275 ▸ jg_ne (by decide) (rfl : jGet [(0, .ref 66)] 0 = some (.ref 66)) rfl
                  have gL275_1 : jGet L275 1 = some (.int (i32 (G 13))) := eL275 ▸ jg_eq
                  refine jx_ld (pc' := 66) (l' := L275) (st' := [.ref 66]) rfl (jl_aloadn gL275_0) ?_
                  refine jx_vr (pc' := 69) (as := []) (st := []) rfl rfl rfl rfl ⟨rfl, rfl, Nat.le_of_ble_eq_true rfl⟩ rfl rfl (c_next (dd := d) (hd := by omega) (hW := hW)  (ln := ln) (e_ln := show G 9 = ln from (e_ln)) (le := le) (e_le := show A 4 (ln).toNat = le from (e_le)) (at0 := at0) (e_at0 := show G 10 = at0 from (e_at0))    (p_0 := by omega)) (fun o V' hq => ?_)
                  obtain ⟨G276, A277, at2_278, tk2_279, rfl, rfl, hW280, hF281, e282, e283, p284, p285, p286, -⟩ := hq
                  have hF288 := Fr_tr hF0 hF281 (Fr_sub (by decide)) (Fr_sub (by decide))
                  have bat2_278 : (0 : Int) ≤ at2_278 ∧ at2_278 ≤ 3002 := e282 ▸ hW280.1 10
                  have ztk2_279 := tz_b tk2_279
                  have btk2_279 : (0 : Int) ≤ tk2_279 ∧ tk2_279 ≤ 5 := e283 ▸ hW280.1 11
                  refine .inl ⟨rfl, ?_⟩
                  refine jx_ld (pc' := 70) (l' := L275) (st' := [.ref 66]) rfl (jl_aloadn gL275_0) ?_
                  refine jx_ar (pc' := 71) (st' := [.int (i32 (1)), .ref 66]) rfl rfl rfl rfl ?_
                  refine jx_ld (pc' := 72) (l' := L275) (st' := [.int (i32 (G 13)), .int (i32 (1)), .ref 66]) rfl (jl_iloadn gL275_1) ?_
                  refine jx_ar (pc' := 73) (st' := [.int (i32 (0)), .int (i32 (G 13)), .int (i32 (1)), .ref 66]) rfl rfl rfl rfl ?_
                  refine jx_ar (pc' := 74) (st' := [.int (i32 (0)), .int (i32 (0)), .int (i32 (G 13)), .int (i32 (1)), .ref 66]) rfl rfl rfl rfl ?_
                  refine jx_ar (pc' := 75) (st' := [.int (i32 (0)), .int (i32 (0)), .int (i32 (0)), .int (i32 (G 13)), .int (i32 (1)), .ref 66]) rfl rfl rfl rfl ?_
                  refine jx_vr (pc' := 78) (as := [.int (i32 (1)), .int (i32 (G 13)), .int (i32 (0)), .int (i32 (0)), .int (i32 (0))]) (st := []) rfl rfl rfl rfl ⟨rfl, rfl, Nat.le_of_ble_eq_true rfl⟩ rfl rfl (c_node (dd := d) (hd := by omega) (hW := hW280) (kind := 1) (a := G 13) (b := 0) (c := 0) (e := 0) (nd := nd) (e_nd := show G276 31 = nd from ((hF281.1 31 rfl).trans (e_nd)))  (h_kind := by omega) (h_a := by omega) (h_b := by omega) (h_c := by omega) (h_e := by omega)  (p_0 := by omega) (p_1 := by omega)) (fun o V' hq => ?_)
                  obtain ⟨G289, A290, r291, nd2_292, rfl, rfl, hW293, hF294, b295, e296, p297, p298, -⟩ := hq
                  have hF300 := Fr_tr hF288 hF294 (Fr_sub (by decide)) (Fr_sub (by decide))
                  have bnd2_292 : (0 : Int) ≤ nd2_292 ∧ nd2_292 ≤ 6999 := e296 ▸ hW293.1 31
                  refine .inr ⟨_, rfl, ?_⟩
                  refine jx_rt (v := some (.int (i32 (r291)))) rfl rfl rfl rfl rfl rfl ?_
                  have z301 := tz_f (tk2_279)
                  exact ⟨_, _, _, at2_278, fk, op0, nd2_292, tk2_279, rfl, rfl, hW293, hF300, by omega, ((hF294.1 10 rfl).trans (e282)), ((hF294.1 16 rfl).trans ((hF281.1 16 rfl).trans (e_fk))), ((hF294.1 15 rfl).trans ((hF281.1 15 rfl).trans (e_op0))), (e296), ((hF294.1 11 rfl).trans (e283)), by omega, by omega, by omega, by omega, by omega, by omega, by first | exact Or.inl (⟨by omega, by omega, by omega, by omega, by omega, by omega⟩) | exact Or.inr (Or.inl (⟨by omega, by omega, by omega⟩)) | exact Or.inr (Or.inr ((⟨by omega, by omega, by omega⟩)))⟩
            · have _q : True := trivial
              refine jx_if_eq (pc' := 35) (tg := 79) rfl rfl rfl (by omega) (by omega) (fun h302 => ?_) (fun h302 => ?_)
              · have _q := h302
                refine jx_ld (pc' := 80) (l' := [(0, .ref 66)]) (st' := [.ref 66]) rfl (jl_aloadn rfl) ?_
                refine jx_ar (pc' := 82) (st' := [.int (i32 (40)), .ref 66]) rfl rfl rfl rfl ?_
                refine jx_vr (pc' := 85) (as := [.int (i32 (40))]) (st := []) rfl rfl rfl rfl ⟨rfl, rfl, Nat.le_of_ble_eq_true rfl⟩ rfl rfl (c_is (dd := d) (hd := by omega) (hW := hW) (k := 40) (tk := tk0) (e_tk := show G 11 = tk0 from (e_tk0)) (tn := G 13) (e_tn := show G 13 = G 13 from rfl)  (h_k := by omega)  ) (fun o V' hq => ?_)
                obtain ⟨r303, rfl, rfl, b304, q305⟩ := hq
                refine .inr ⟨_, rfl, ?_⟩
                rcases q305 with ⟨rfl, a306, a307, a308⟩ | rfl
                · have _q : True := trivial
                  refine jx_if_eq (pc' := 88) (tg := 133) rfl rfl rfl (by omega) (by omega) (fun h309 => ?_) (fun h309 => ?_)
                  · have _q := h309
                    exact absurd h309 (by omega)
                  · have _q := h309
                    refine jx_ld (pc' := 89) (l' := [(0, .ref 66)]) (st' := [.ref 66]) rfl (jl_aloadn rfl) ?_
                    refine jx_vr (pc' := 92) (as := []) (st := []) rfl rfl rfl rfl ⟨rfl, rfl, Nat.le_of_ble_eq_true rfl⟩ rfl rfl (c_open (dd := d) (hd := by omega) (hW := hW)  (fk := fk) (e_fk := show G 16 = fk from (e_fk)) (op0 := op0) (e_op0 := show G 15 = op0 from (e_op0))    (p_0 := by omega)) (fun o V' hq => ?_)
                    obtain ⟨G310, A311, fk2_312, op2_313, rfl, rfl, hW314, hF315, e316, e317, p318, q319⟩ := hq
                    have hF320 := Fr_tr hF0 hF315 (Fr_sub (by decide)) (Fr_sub (by decide))
                    have bfk2_312 : (0 : Int) ≤ fk2_312 ∧ fk2_312 ≤ 6 := e316 ▸ hW314.1 16
                    have bop2_313 : (-2147483648 : Int) ≤ op2_313 ∧ op2_313 ≤ 2147483647 := e317 ▸ hW314.1 15
                    refine .inl ⟨rfl, ?_⟩
                    rcases q319 with a321 | ⟨a322, a323, a324⟩
                    · have _q : True := trivial
                      refine jx_ld (pc' := 93) (l' := [(0, .ref 66)]) (st' := [.ref 66]) rfl (jl_aloadn rfl) ?_
                      refine jx_ar (pc' := 94) (st' := [.int (i32 (1)), .ref 66]) rfl rfl rfl rfl ?_
                      refine jx_vr (pc' := 97) (as := [.int (i32 (1))]) (st := []) rfl rfl rfl rfl ⟨rfl, rfl, Nat.le_of_ble_eq_true rfl⟩ rfl rfl (c_need (dd := d) (hd := by omega) (hW := hW314) (g := 1) (ln := ln) (e_ln := show G310 9 = ln from ((hF315.1 9 rfl).trans (e_ln))) (le := le) (e_le := show A311 4 (ln).toNat = le from (congrFun (hF315.2 4 rfl) _).trans (e_le)) (at0 := at0) (e_at0 := show G310 10 = at0 from ((hF315.1 10 rfl).trans (e_at0))) (fk := fk2_312) (e_fk := show G310 16 = fk2_312 from (e316)) (tk0 := tk0) (e_tk0 := show G310 11 = tk0 from ((hF315.1 11 rfl).trans (e_tk0)))  (h_g := by omega)  (p_0 := by omega)) (fun o V' hq => ?_)
                      obtain ⟨G325, A326, at2_327, tk2_328, fk2_329, rfl, rfl, hW330, hF331, e332, e333, e334, p335, p336, q337⟩ := hq
                      have hF338 := Fr_tr hF320 hF331 (Fr_sub (by decide)) (Fr_sub (by decide))
                      have bat2_327 : (0 : Int) ≤ at2_327 ∧ at2_327 ≤ 3002 := e332 ▸ hW330.1 10
                      have ztk2_328 := tz_b tk2_328
                      have btk2_328 : (0 : Int) ≤ tk2_328 ∧ tk2_328 ≤ 5 := e333 ▸ hW330.1 11
                      have bfk2_329 : (0 : Int) ≤ fk2_329 ∧ fk2_329 ≤ 6 := e334 ▸ hW330.1 16
                      refine .inl ⟨rfl, ?_⟩
                      rcases q337 with ⟨a339, a340, a341, a342⟩ | ⟨a343, a344, a345, a346⟩
                      · have _q : True := trivial
                        refine jx_ld (pc' := 98) (l' := [(0, .ref 66)]) (st' := [.ref 66]) rfl (jl_aloadn rfl) ?_
                        refine jx_vr (pc' := 101) (as := []) (st := []) rfl rfl rfl rfl ⟨rfl, rfl, Nat.le_of_ble_eq_true rfl⟩ rfl rfl (hE (dd := d) (hd := by omega) (hW := hW330)  (ln := ln) (e_ln := show G325 9 = ln from ((hF331.1 9 rfl).trans ((hF315.1 9 rfl).trans (e_ln)))) (le := le) (e_le := show A326 4 (ln).toNat = le from (congrFun ((hF331.2 4 rfl).trans (hF315.2 4 rfl)) _).trans (e_le)) (at0 := at2_327) (e_at0 := show G325 10 = at2_327 from (e332)) (fk := fk2_329) (e_fk := show G325 16 = fk2_329 from (e334)) (op0 := op2_313) (e_op0 := show G325 15 = op2_313 from ((hF331.1 15 rfl).trans (e317))) (nd := nd) (e_nd := show G325 31 = nd from ((hF331.1 31 rfl).trans ((hF315.1 31 rfl).trans (e_nd)))) (tk0 := tk2_328) (e_tk0 := show G325 11 = tk2_328 from (e333))    (p_0 := by omega) (p_1 := by omega) (p_2 := by omega) (p_3 := by omega) (p_4 := by omega) (p_5 := by omega)) (fun o V' hq => ?_)
                        obtain ⟨G347, A348, r349, at2_350, fk2_351, op2_352, nd2_353, tk2_354, rfl, rfl, hW355, hF356, b357, e358, e359, e360, e361, e362, p363, p364, p365, p366, p367, p368, q369⟩ := hq
                        have hF370 := Fr_tr hF338 hF356 (Fr_sub (by decide)) (Fr_sub (by decide))
                        have bat2_350 : (0 : Int) ≤ at2_350 ∧ at2_350 ≤ 3002 := e358 ▸ hW355.1 10
                        have bfk2_351 : (0 : Int) ≤ fk2_351 ∧ fk2_351 ≤ 6 := e359 ▸ hW355.1 16
                        have bop2_352 : (-2147483648 : Int) ≤ op2_352 ∧ op2_352 ≤ 2147483647 := e360 ▸ hW355.1 15
                        have bnd2_353 : (0 : Int) ≤ nd2_353 ∧ nd2_353 ≤ 6999 := e361 ▸ hW355.1 31
                        have ztk2_354 := tz_b tk2_354
                        have btk2_354 : (0 : Int) ≤ tk2_354 ∧ tk2_354 ≤ 5 := e362 ▸ hW355.1 11
                        refine .inr ⟨_, rfl, ?_⟩
                        rcases q369 with ⟨a371, a372, a373, a374, a375, a376⟩ | ⟨a377, a378, a379⟩ | ⟨a380, a381, a382⟩
                        · have _q : True := trivial
                          refine jx_ld (pc' := 102) (l' := jSto1 [(0, .ref 66)] 1 (.int (i32 (r349)))) (st' := []) rfl rfl ?_
                          obtain ⟨L383, eL383⟩ : ∃ q, q = jSto1 [(0, .ref 66)] 1 (.int (i32 (r349))) := ⟨_, rfl⟩
                          rw [← eL383]
                          have gL383_0 : jGet L383 0 = some (.ref 66) := eL383 ▸ jg_ne (by decide) (rfl : jGet [(0, .ref 66)] 0 = some (.ref 66)) rfl
                          have gL383_1 : jGet L383 1 = some (.int (i32 (r349))) := eL383 ▸ jg_eq
                          refine jx_ld (pc' := 103) (l' := L383) (st' := [.ref 66]) rfl (jl_aloadn gL383_0) ?_
                          refine jx_ld (pc' := 104) (l' := L383) (st' := [.ref 66, .ref 66]) rfl (jl_aloadn gL383_0) ?_
                          refine jx_ar (pc' := 106) (st' := [.int (i32 (41)), .ref 66, .ref 66]) rfl rfl rfl rfl ?_
                          have b384 : (-2147483648 : Int) ≤ G347 13 ∧ G347 13 ≤ 2147483647 := hW355.1 13
                          refine jx_vr (pc' := 109) (as := [.int (i32 (41))]) (st := [.ref 66]) rfl rfl rfl rfl ⟨rfl, rfl, Nat.le_of_ble_eq_true rfl⟩ rfl rfl (c_is (dd := d) (hd := by omega) (hW := hW355) (k := 41) (tk := tk2_354) (e_tk := show G347 11 = tk2_354 from (e362)) (tn := G347 13) (e_tn := show G347 13 = G347 13 from rfl)  (h_k := by omega)  ) (fun o V' hq => ?_)
                          obtain ⟨r385, rfl, rfl, b386, q387⟩ := hq
                          refine .inr ⟨_, rfl, ?_⟩
                          rcases q387 with ⟨rfl, a388, a389, a390⟩ | rfl
                          · have _q : True := trivial
                            refine jx_vr (pc' := 112) (as := [.int (i32 (1))]) (st := []) rfl rfl rfl rfl ⟨rfl, rfl, Nat.le_of_ble_eq_true rfl⟩ rfl rfl (c_need (dd := d) (hd := by omega) (hW := hW355) (g := 1) (ln := ln) (e_ln := show G347 9 = ln from ((hF356.1 9 rfl).trans ((hF331.1 9 rfl).trans ((hF315.1 9 rfl).trans (e_ln))))) (le := le) (e_le := show A348 4 (ln).toNat = le from (congrFun ((hF356.2 4 rfl).trans ((hF331.2 4 rfl).trans (hF315.2 4 rfl))) _).trans (e_le)) (at0 := at2_350) (e_at0 := show G347 10 = at2_350 from (e358)) (fk := fk2_351) (e_fk := show G347 16 = fk2_351 from (e359)) (tk0 := tk2_354) (e_tk0 := show G347 11 = tk2_354 from (e362))  (h_g := by omega)  (p_0 := by omega)) (fun o V' hq => ?_)
                            obtain ⟨G391, A392, at2_393, tk2_394, fk2_395, rfl, rfl, hW396, hF397, e398, e399, e400, p401, p402, q403⟩ := hq
                            have hF404 := Fr_tr hF370 hF397 (Fr_sub (by decide)) (Fr_sub (by decide))
                            have bat2_393 : (0 : Int) ≤ at2_393 ∧ at2_393 ≤ 3002 := e398 ▸ hW396.1 10
                            have ztk2_394 := tz_b tk2_394
                            have btk2_394 : (0 : Int) ≤ tk2_394 ∧ tk2_394 ≤ 5 := e399 ▸ hW396.1 11
                            have bfk2_395 : (0 : Int) ≤ fk2_395 ∧ fk2_395 ≤ 6 := e400 ▸ hW396.1 16
                            refine .inl ⟨rfl, ?_⟩
                            rcases q403 with ⟨a405, a406, a407, a408⟩ | ⟨a409, a410, a411, a412⟩
                            · have _q : True := trivial
                              refine jx_ld (pc' := 113) (l' := L383) (st' := [.ref 66]) rfl (jl_aloadn gL383_0) ?_
                              refine jx_ar (pc' := 114) (st' := [.ref 66, .ref 66]) rfl rfl rfl rfl ?_
                              refine jr_get (pc' := 117) (i := 15) (v := .int (i32 (op2_352))) rfl rfl (by decide) (rFv_eq (by decide) (show G391 15 = op2_352 from ((hF397.1 15 rfl).trans (e360)))) rfl ?_
                              refine jx_ar (pc' := 118) (st' := [.int (i32 (1)), .int (i32 (op2_352)), .ref 66]) rfl rfl rfl rfl ?_
                              refine jx_sub (pc' := 119) rfl rfl ?_
                              refine jr_put (pc' := 122) (i := 15) (z := (op2_352 - 1)) rfl rfl (by decide) rfl rfl rfl rfl rfl rfl ?_
                              have hW413 : Wk (uG G391 15 ((op2_352 - 1))) A392 := Wk_g hW396 (show (-2147483648 : Int) ≤ (op2_352 - 1) by omega) (show (op2_352 - 1) ≤ (2147483647 : Int) by omega)
                              have hF414 := Fr_g (z := (op2_352 - 1)) (i := 15) hF404 (by decide)
                              refine jx_ld (pc' := 123) (l' := L383) (st' := [.ref 66]) rfl (jl_aloadn gL383_0) ?_
                              refine jx_ar (pc' := 125) (st' := [.int (i32 (7)), .ref 66]) rfl rfl rfl rfl ?_
                              refine jx_ld (pc' := 126) (l' := L383) (st' := [.int (i32 (r349)), .int (i32 (7)), .ref 66]) rfl (jl_iloadn gL383_1) ?_
                              refine jx_ar (pc' := 127) (st' := [.int (i32 (0)), .int (i32 (r349)), .int (i32 (7)), .ref 66]) rfl rfl rfl rfl ?_
                              refine jx_ar (pc' := 128) (st' := [.int (i32 (0)), .int (i32 (0)), .int (i32 (r349)), .int (i32 (7)), .ref 66]) rfl rfl rfl rfl ?_
                              refine jx_ar (pc' := 129) (st' := [.int (i32 (0)), .int (i32 (0)), .int (i32 (0)), .int (i32 (r349)), .int (i32 (7)), .ref 66]) rfl rfl rfl rfl ?_
                              refine jx_vr (pc' := 132) (as := [.int (i32 (7)), .int (i32 (r349)), .int (i32 (0)), .int (i32 (0)), .int (i32 (0))]) (st := []) rfl rfl rfl rfl ⟨rfl, rfl, Nat.le_of_ble_eq_true rfl⟩ rfl rfl (c_node (dd := d) (hd := by omega) (hW := hW413) (kind := 7) (a := r349) (b := 0) (c := 0) (e := 0) (nd := nd2_353) (e_nd := show (uG G391 15 ((op2_352 - 1))) 31 = nd2_353 from ((hF397.1 31 rfl).trans (e361)))  (h_kind := by omega) (h_a := by omega) (h_b := by omega) (h_c := by omega) (h_e := by omega)  (p_0 := by omega) (p_1 := by omega)) (fun o V' hq => ?_)
                              obtain ⟨G415, A416, r417, nd2_418, rfl, rfl, hW419, hF420, b421, e422, p423, p424, -⟩ := hq
                              have hF426 := Fr_tr hF414 hF420 (Fr_sub (by decide)) (Fr_sub (by decide))
                              have bnd2_418 : (0 : Int) ≤ nd2_418 ∧ nd2_418 ≤ 6999 := e422 ▸ hW419.1 31
                              refine .inr ⟨_, rfl, ?_⟩
                              refine jx_rt (v := some (.int (i32 (r417)))) rfl rfl rfl rfl rfl rfl ?_
                              have z427 := tz_f (tk2_394)
                              exact ⟨_, _, _, at2_393, fk2_395, (op2_352 - 1), nd2_418, tk2_394, rfl, rfl, hW419, hF426, by omega, ((hF420.1 10 rfl).trans (e398)), ((hF420.1 16 rfl).trans (e400)), (hF420.1 15 rfl), (e422), ((hF420.1 11 rfl).trans (e399)), by omega, by omega, by omega, by omega, by omega, by omega, by first | exact Or.inl (⟨by omega, by omega, by omega, by omega, by omega, by omega⟩) | exact Or.inr (Or.inl (⟨by omega, by omega, by omega⟩)) | exact Or.inr (Or.inr ((⟨by omega, by omega, by omega⟩)))⟩
                            · have _q : True := trivial
                              exfalso
                              omega
                          · have _q : True := trivial
                            refine jx_vr (pc' := 112) (as := [.int (i32 (0))]) (st := []) rfl rfl rfl rfl ⟨rfl, rfl, Nat.le_of_ble_eq_true rfl⟩ rfl rfl (c_need (dd := d) (hd := by omega) (hW := hW355) (g := 0) (ln := ln) (e_ln := show G347 9 = ln from ((hF356.1 9 rfl).trans ((hF331.1 9 rfl).trans ((hF315.1 9 rfl).trans (e_ln))))) (le := le) (e_le := show A348 4 (ln).toNat = le from (congrFun ((hF356.2 4 rfl).trans ((hF331.2 4 rfl).trans (hF315.2 4 rfl))) _).trans (e_le)) (at0 := at2_350) (e_at0 := show G347 10 = at2_350 from (e358)) (fk := fk2_351) (e_fk := show G347 16 = fk2_351 from (e359)) (tk0 := tk2_354) (e_tk0 := show G347 11 = tk2_354 from (e362))  (h_g := by omega)  (p_0 := by omega)) (fun o V' hq => ?_)
                            obtain ⟨G428, A429, at2_430, tk2_431, fk2_432, rfl, rfl, hW433, hF434, e435, e436, e437, p438, p439, q440⟩ := hq
                            have hF441 := Fr_tr hF370 hF434 (Fr_sub (by decide)) (Fr_sub (by decide))
                            have bat2_430 : (0 : Int) ≤ at2_430 ∧ at2_430 ≤ 3002 := e435 ▸ hW433.1 10
                            have ztk2_431 := tz_b tk2_431
                            have btk2_431 : (0 : Int) ≤ tk2_431 ∧ tk2_431 ≤ 5 := e436 ▸ hW433.1 11
                            have bfk2_432 : (0 : Int) ≤ fk2_432 ∧ fk2_432 ≤ 6 := e437 ▸ hW433.1 16
                            refine .inl ⟨rfl, ?_⟩
                            rcases q440 with ⟨a442, a443, a444, a445⟩ | ⟨a446, a447, a448, a449⟩
                            · have _q : True := trivial
                              refine jx_ld (pc' := 113) (l' := L383) (st' := [.ref 66]) rfl (jl_aloadn gL383_0) ?_
                              refine jx_ar (pc' := 114) (st' := [.ref 66, .ref 66]) rfl rfl rfl rfl ?_
                              refine jr_get (pc' := 117) (i := 15) (v := .int (i32 (op2_352))) rfl rfl (by decide) (rFv_eq (by decide) (show G428 15 = op2_352 from ((hF434.1 15 rfl).trans (e360)))) rfl ?_
                              refine jx_ar (pc' := 118) (st' := [.int (i32 (1)), .int (i32 (op2_352)), .ref 66]) rfl rfl rfl rfl ?_
                              refine jx_sub (pc' := 119) rfl rfl ?_
                              refine jr_put (pc' := 122) (i := 15) (z := (op2_352 - 1)) rfl rfl (by decide) rfl rfl rfl rfl rfl rfl ?_
                              have hW450 : Wk (uG G428 15 ((op2_352 - 1))) A429 := Wk_g hW433 (show (-2147483648 : Int) ≤ (op2_352 - 1) by omega) (show (op2_352 - 1) ≤ (2147483647 : Int) by omega)
                              have hF451 := Fr_g (z := (op2_352 - 1)) (i := 15) hF441 (by decide)
                              refine jx_ld (pc' := 123) (l' := L383) (st' := [.ref 66]) rfl (jl_aloadn gL383_0) ?_
                              refine jx_ar (pc' := 125) (st' := [.int (i32 (7)), .ref 66]) rfl rfl rfl rfl ?_
                              refine jx_ld (pc' := 126) (l' := L383) (st' := [.int (i32 (r349)), .int (i32 (7)), .ref 66]) rfl (jl_iloadn gL383_1) ?_
                              refine jx_ar (pc' := 127) (st' := [.int (i32 (0)), .int (i32 (r349)), .int (i32 (7)), .ref 66]) rfl rfl rfl rfl ?_
                              refine jx_ar (pc' := 128) (st' := [.int (i32 (0)), .int (i32 (0)), .int (i32 (r349)), .int (i32 (7)), .ref 66]) rfl rfl rfl rfl ?_
                              refine jx_ar (pc' := 129) (st' := [.int (i32 (0)), .int (i32 (0)), .int (i32 (0)), .int (i32 (r349)), .int (i32 (7)), .ref 66]) rfl rfl rfl rfl ?_
                              refine jx_vr (pc' := 132) (as := [.int (i32 (7)), .int (i32 (r349)), .int (i32 (0)), .int (i32 (0)), .int (i32 (0))]) (st := []) rfl rfl rfl rfl ⟨rfl, rfl, Nat.le_of_ble_eq_true rfl⟩ rfl rfl (c_node (dd := d) (hd := by omega) (hW := hW450) (kind := 7) (a := r349) (b := 0) (c := 0) (e := 0) (nd := nd2_353) (e_nd := show (uG G428 15 ((op2_352 - 1))) 31 = nd2_353 from ((hF434.1 31 rfl).trans (e361)))  (h_kind := by omega) (h_a := by omega) (h_b := by omega) (h_c := by omega) (h_e := by omega)  (p_0 := by omega) (p_1 := by omega)) (fun o V' hq => ?_)
                              obtain ⟨G452, A453, r454, nd2_455, rfl, rfl, hW456, hF457, b458, e459, p460, p461, -⟩ := hq
                              have hF463 := Fr_tr hF451 hF457 (Fr_sub (by decide)) (Fr_sub (by decide))
                              have bnd2_455 : (0 : Int) ≤ nd2_455 ∧ nd2_455 ≤ 6999 := e459 ▸ hW456.1 31
                              refine .inr ⟨_, rfl, ?_⟩
                              refine jx_rt (v := some (.int (i32 (r454)))) rfl rfl rfl rfl rfl rfl ?_
                              have z464 := tz_f (tk2_431)
                              exact ⟨_, _, _, at2_430, fk2_432, (op2_352 - 1), nd2_455, tk2_431, rfl, rfl, hW456, hF463, by omega, ((hF457.1 10 rfl).trans (e435)), ((hF457.1 16 rfl).trans (e437)), (hF457.1 15 rfl), (e459), ((hF457.1 11 rfl).trans (e436)), by omega, by omega, by omega, by omega, by omega, by omega, by first | exact Or.inl (⟨by omega, by omega, by omega, by omega, by omega, by omega⟩) | exact Or.inr (Or.inl (⟨by omega, by omega, by omega⟩)) | exact Or.inr (Or.inr ((⟨by omega, by omega, by omega⟩)))⟩
                            · have _q : True := trivial
                              exfalso
                              omega
                        · have _q : True := trivial
                          exfalso
                          omega
                        · have _q : True := trivial
                          exfalso
                          omega
                      · have _q : True := trivial
                        exfalso
                        omega
                    · have _q : True := trivial
                      refine jx_ld (pc' := 93) (l' := [(0, .ref 66)]) (st' := [.ref 66]) rfl (jl_aloadn rfl) ?_
                      refine jx_ar (pc' := 94) (st' := [.int (i32 (1)), .ref 66]) rfl rfl rfl rfl ?_
                      refine jx_vr (pc' := 97) (as := [.int (i32 (1))]) (st := []) rfl rfl rfl rfl ⟨rfl, rfl, Nat.le_of_ble_eq_true rfl⟩ rfl rfl (c_need (dd := d) (hd := by omega) (hW := hW314) (g := 1) (ln := ln) (e_ln := show G310 9 = ln from ((hF315.1 9 rfl).trans (e_ln))) (le := le) (e_le := show A311 4 (ln).toNat = le from (congrFun (hF315.2 4 rfl) _).trans (e_le)) (at0 := at0) (e_at0 := show G310 10 = at0 from ((hF315.1 10 rfl).trans (e_at0))) (fk := fk2_312) (e_fk := show G310 16 = fk2_312 from (e316)) (tk0 := tk0) (e_tk0 := show G310 11 = tk0 from ((hF315.1 11 rfl).trans (e_tk0)))  (h_g := by omega)  (p_0 := by omega)) (fun o V' hq => ?_)
                      obtain ⟨G465, A466, at2_467, tk2_468, fk2_469, rfl, rfl, hW470, hF471, e472, e473, e474, p475, p476, q477⟩ := hq
                      have hF478 := Fr_tr hF320 hF471 (Fr_sub (by decide)) (Fr_sub (by decide))
                      have bat2_467 : (0 : Int) ≤ at2_467 ∧ at2_467 ≤ 3002 := e472 ▸ hW470.1 10
                      have ztk2_468 := tz_b tk2_468
                      have btk2_468 : (0 : Int) ≤ tk2_468 ∧ tk2_468 ≤ 5 := e473 ▸ hW470.1 11
                      have bfk2_469 : (0 : Int) ≤ fk2_469 ∧ fk2_469 ≤ 6 := e474 ▸ hW470.1 16
                      refine .inl ⟨rfl, ?_⟩
                      rcases q477 with ⟨a479, a480, a481, a482⟩ | ⟨a483, a484, a485, a486⟩
                      · have _q : True := trivial
                        refine jx_ld (pc' := 98) (l' := [(0, .ref 66)]) (st' := [.ref 66]) rfl (jl_aloadn rfl) ?_
                        refine jx_vr (pc' := 101) (as := []) (st := []) rfl rfl rfl rfl ⟨rfl, rfl, Nat.le_of_ble_eq_true rfl⟩ rfl rfl (hE (dd := d) (hd := by omega) (hW := hW470)  (ln := ln) (e_ln := show G465 9 = ln from ((hF471.1 9 rfl).trans ((hF315.1 9 rfl).trans (e_ln)))) (le := le) (e_le := show A466 4 (ln).toNat = le from (congrFun ((hF471.2 4 rfl).trans (hF315.2 4 rfl)) _).trans (e_le)) (at0 := at2_467) (e_at0 := show G465 10 = at2_467 from (e472)) (fk := fk2_469) (e_fk := show G465 16 = fk2_469 from (e474)) (op0 := op2_313) (e_op0 := show G465 15 = op2_313 from ((hF471.1 15 rfl).trans (e317))) (nd := nd) (e_nd := show G465 31 = nd from ((hF471.1 31 rfl).trans ((hF315.1 31 rfl).trans (e_nd)))) (tk0 := tk2_468) (e_tk0 := show G465 11 = tk2_468 from (e473))    (p_0 := by omega) (p_1 := by omega) (p_2 := by omega) (p_3 := by omega) (p_4 := by omega) (p_5 := by omega)) (fun o V' hq => ?_)
                        obtain ⟨G487, A488, r489, at2_490, fk2_491, op2_492, nd2_493, tk2_494, rfl, rfl, hW495, hF496, b497, e498, e499, e500, e501, e502, p503, p504, p505, p506, p507, p508, q509⟩ := hq
                        have hF510 := Fr_tr hF478 hF496 (Fr_sub (by decide)) (Fr_sub (by decide))
                        have bat2_490 : (0 : Int) ≤ at2_490 ∧ at2_490 ≤ 3002 := e498 ▸ hW495.1 10
                        have bfk2_491 : (0 : Int) ≤ fk2_491 ∧ fk2_491 ≤ 6 := e499 ▸ hW495.1 16
                        have bop2_492 : (-2147483648 : Int) ≤ op2_492 ∧ op2_492 ≤ 2147483647 := e500 ▸ hW495.1 15
                        have bnd2_493 : (0 : Int) ≤ nd2_493 ∧ nd2_493 ≤ 6999 := e501 ▸ hW495.1 31
                        have ztk2_494 := tz_b tk2_494
                        have btk2_494 : (0 : Int) ≤ tk2_494 ∧ tk2_494 ≤ 5 := e502 ▸ hW495.1 11
                        refine .inr ⟨_, rfl, ?_⟩
                        rcases q509 with ⟨a511, a512, a513, a514, a515, a516⟩ | ⟨a517, a518, a519⟩ | ⟨a520, a521, a522⟩
                        · have _q : True := trivial
                          refine jx_ld (pc' := 102) (l' := jSto1 [(0, .ref 66)] 1 (.int (i32 (r489)))) (st' := []) rfl rfl ?_
                          obtain ⟨L523, eL523⟩ : ∃ q, q = jSto1 [(0, .ref 66)] 1 (.int (i32 (r489))) := ⟨_, rfl⟩
                          rw [← eL523]
                          have gL523_0 : jGet L523 0 = some (.ref 66) := eL523 ▸ jg_ne (by decide) (rfl : jGet [(0, .ref 66)] 0 = some (.ref 66)) rfl
                          have gL523_1 : jGet L523 1 = some (.int (i32 (r489))) := eL523 ▸ jg_eq
                          refine jx_ld (pc' := 103) (l' := L523) (st' := [.ref 66]) rfl (jl_aloadn gL523_0) ?_
                          refine jx_ld (pc' := 104) (l' := L523) (st' := [.ref 66, .ref 66]) rfl (jl_aloadn gL523_0) ?_
                          refine jx_ar (pc' := 106) (st' := [.int (i32 (41)), .ref 66, .ref 66]) rfl rfl rfl rfl ?_
                          have b524 : (-2147483648 : Int) ≤ G487 13 ∧ G487 13 ≤ 2147483647 := hW495.1 13
                          refine jx_vr (pc' := 109) (as := [.int (i32 (41))]) (st := [.ref 66]) rfl rfl rfl rfl ⟨rfl, rfl, Nat.le_of_ble_eq_true rfl⟩ rfl rfl (c_is (dd := d) (hd := by omega) (hW := hW495) (k := 41) (tk := tk2_494) (e_tk := show G487 11 = tk2_494 from (e502)) (tn := G487 13) (e_tn := show G487 13 = G487 13 from rfl)  (h_k := by omega)  ) (fun o V' hq => ?_)
                          obtain ⟨r525, rfl, rfl, b526, q527⟩ := hq
                          refine .inr ⟨_, rfl, ?_⟩
                          rcases q527 with ⟨rfl, a528, a529, a530⟩ | rfl
                          · have _q : True := trivial
                            refine jx_vr (pc' := 112) (as := [.int (i32 (1))]) (st := []) rfl rfl rfl rfl ⟨rfl, rfl, Nat.le_of_ble_eq_true rfl⟩ rfl rfl (c_need (dd := d) (hd := by omega) (hW := hW495) (g := 1) (ln := ln) (e_ln := show G487 9 = ln from ((hF496.1 9 rfl).trans ((hF471.1 9 rfl).trans ((hF315.1 9 rfl).trans (e_ln))))) (le := le) (e_le := show A488 4 (ln).toNat = le from (congrFun ((hF496.2 4 rfl).trans ((hF471.2 4 rfl).trans (hF315.2 4 rfl))) _).trans (e_le)) (at0 := at2_490) (e_at0 := show G487 10 = at2_490 from (e498)) (fk := fk2_491) (e_fk := show G487 16 = fk2_491 from (e499)) (tk0 := tk2_494) (e_tk0 := show G487 11 = tk2_494 from (e502))  (h_g := by omega)  (p_0 := by omega)) (fun o V' hq => ?_)
                            obtain ⟨G531, A532, at2_533, tk2_534, fk2_535, rfl, rfl, hW536, hF537, e538, e539, e540, p541, p542, q543⟩ := hq
                            have hF544 := Fr_tr hF510 hF537 (Fr_sub (by decide)) (Fr_sub (by decide))
                            have bat2_533 : (0 : Int) ≤ at2_533 ∧ at2_533 ≤ 3002 := e538 ▸ hW536.1 10
                            have ztk2_534 := tz_b tk2_534
                            have btk2_534 : (0 : Int) ≤ tk2_534 ∧ tk2_534 ≤ 5 := e539 ▸ hW536.1 11
                            have bfk2_535 : (0 : Int) ≤ fk2_535 ∧ fk2_535 ≤ 6 := e540 ▸ hW536.1 16
                            refine .inl ⟨rfl, ?_⟩
                            rcases q543 with ⟨a545, a546, a547, a548⟩ | ⟨a549, a550, a551, a552⟩
                            · have _q : True := trivial
                              refine jx_ld (pc' := 113) (l' := L523) (st' := [.ref 66]) rfl (jl_aloadn gL523_0) ?_
                              refine jx_ar (pc' := 114) (st' := [.ref 66, .ref 66]) rfl rfl rfl rfl ?_
                              refine jr_get (pc' := 117) (i := 15) (v := .int (i32 (op2_492))) rfl rfl (by decide) (rFv_eq (by decide) (show G531 15 = op2_492 from ((hF537.1 15 rfl).trans (e500)))) rfl ?_
                              refine jx_ar (pc' := 118) (st' := [.int (i32 (1)), .int (i32 (op2_492)), .ref 66]) rfl rfl rfl rfl ?_
                              refine jx_sub (pc' := 119) rfl rfl ?_
                              refine jr_put (pc' := 122) (i := 15) (z := (op2_492 - 1)) rfl rfl (by decide) rfl rfl rfl rfl rfl rfl ?_
                              have hW553 : Wk (uG G531 15 ((op2_492 - 1))) A532 := Wk_g hW536 (show (-2147483648 : Int) ≤ (op2_492 - 1) by omega) (show (op2_492 - 1) ≤ (2147483647 : Int) by omega)
                              have hF554 := Fr_g (z := (op2_492 - 1)) (i := 15) hF544 (by decide)
                              refine jx_ld (pc' := 123) (l' := L523) (st' := [.ref 66]) rfl (jl_aloadn gL523_0) ?_
                              refine jx_ar (pc' := 125) (st' := [.int (i32 (7)), .ref 66]) rfl rfl rfl rfl ?_
                              refine jx_ld (pc' := 126) (l' := L523) (st' := [.int (i32 (r489)), .int (i32 (7)), .ref 66]) rfl (jl_iloadn gL523_1) ?_
                              refine jx_ar (pc' := 127) (st' := [.int (i32 (0)), .int (i32 (r489)), .int (i32 (7)), .ref 66]) rfl rfl rfl rfl ?_
                              refine jx_ar (pc' := 128) (st' := [.int (i32 (0)), .int (i32 (0)), .int (i32 (r489)), .int (i32 (7)), .ref 66]) rfl rfl rfl rfl ?_
                              refine jx_ar (pc' := 129) (st' := [.int (i32 (0)), .int (i32 (0)), .int (i32 (0)), .int (i32 (r489)), .int (i32 (7)), .ref 66]) rfl rfl rfl rfl ?_
                              refine jx_vr (pc' := 132) (as := [.int (i32 (7)), .int (i32 (r489)), .int (i32 (0)), .int (i32 (0)), .int (i32 (0))]) (st := []) rfl rfl rfl rfl ⟨rfl, rfl, Nat.le_of_ble_eq_true rfl⟩ rfl rfl (c_node (dd := d) (hd := by omega) (hW := hW553) (kind := 7) (a := r489) (b := 0) (c := 0) (e := 0) (nd := nd2_493) (e_nd := show (uG G531 15 ((op2_492 - 1))) 31 = nd2_493 from ((hF537.1 31 rfl).trans (e501)))  (h_kind := by omega) (h_a := by omega) (h_b := by omega) (h_c := by omega) (h_e := by omega)  (p_0 := by omega) (p_1 := by omega)) (fun o V' hq => ?_)
                              obtain ⟨G555, A556, r557, nd2_558, rfl, rfl, hW559, hF560, b561, e562, p563, p564, -⟩ := hq
                              have hF566 := Fr_tr hF554 hF560 (Fr_sub (by decide)) (Fr_sub (by decide))
                              have bnd2_558 : (0 : Int) ≤ nd2_558 ∧ nd2_558 ≤ 6999 := e562 ▸ hW559.1 31
                              refine .inr ⟨_, rfl, ?_⟩
                              refine jx_rt (v := some (.int (i32 (r557)))) rfl rfl rfl rfl rfl rfl ?_
                              have z567 := tz_f (tk2_534)
                              exact ⟨_, _, _, at2_533, fk2_535, (op2_492 - 1), nd2_558, tk2_534, rfl, rfl, hW559, hF566, by omega, ((hF560.1 10 rfl).trans (e538)), ((hF560.1 16 rfl).trans (e540)), (hF560.1 15 rfl), (e562), ((hF560.1 11 rfl).trans (e539)), by omega, by omega, by omega, by omega, by omega, by omega, by first | exact Or.inl (⟨by omega, by omega, by omega, by omega, by omega, by omega⟩) | exact Or.inr (Or.inl (⟨by omega, by omega, by omega⟩)) | exact Or.inr (Or.inr ((⟨by omega, by omega, by omega⟩)))⟩
                            · have _q : True := trivial
                              exfalso
                              omega
                          · have _q : True := trivial
                            refine jx_vr (pc' := 112) (as := [.int (i32 (0))]) (st := []) rfl rfl rfl rfl ⟨rfl, rfl, Nat.le_of_ble_eq_true rfl⟩ rfl rfl (c_need (dd := d) (hd := by omega) (hW := hW495) (g := 0) (ln := ln) (e_ln := show G487 9 = ln from ((hF496.1 9 rfl).trans ((hF471.1 9 rfl).trans ((hF315.1 9 rfl).trans (e_ln))))) (le := le) (e_le := show A488 4 (ln).toNat = le from (congrFun ((hF496.2 4 rfl).trans ((hF471.2 4 rfl).trans (hF315.2 4 rfl))) _).trans (e_le)) (at0 := at2_490) (e_at0 := show G487 10 = at2_490 from (e498)) (fk := fk2_491) (e_fk := show G487 16 = fk2_491 from (e499)) (tk0 := tk2_494) (e_tk0 := show G487 11 = tk2_494 from (e502))  (h_g := by omega)  (p_0 := by omega)) (fun o V' hq => ?_)
                            obtain ⟨G568, A569, at2_570, tk2_571, fk2_572, rfl, rfl, hW573, hF574, e575, e576, e577, p578, p579, q580⟩ := hq
                            have hF581 := Fr_tr hF510 hF574 (Fr_sub (by decide)) (Fr_sub (by decide))
                            have bat2_570 : (0 : Int) ≤ at2_570 ∧ at2_570 ≤ 3002 := e575 ▸ hW573.1 10
                            have ztk2_571 := tz_b tk2_571
                            have btk2_571 : (0 : Int) ≤ tk2_571 ∧ tk2_571 ≤ 5 := e576 ▸ hW573.1 11
                            have bfk2_572 : (0 : Int) ≤ fk2_572 ∧ fk2_572 ≤ 6 := e577 ▸ hW573.1 16
                            refine .inl ⟨rfl, ?_⟩
                            rcases q580 with ⟨a582, a583, a584, a585⟩ | ⟨a586, a587, a588, a589⟩
                            · have _q : True := trivial
                              refine jx_ld (pc' := 113) (l' := L523) (st' := [.ref 66]) rfl (jl_aloadn gL523_0) ?_
                              refine jx_ar (pc' := 114) (st' := [.ref 66, .ref 66]) rfl rfl rfl rfl ?_
                              refine jr_get (pc' := 117) (i := 15) (v := .int (i32 (op2_492))) rfl rfl (by decide) (rFv_eq (by decide) (show G568 15 = op2_492 from ((hF574.1 15 rfl).trans (e500)))) rfl ?_
                              refine jx_ar (pc' := 118) (st' := [.int (i32 (1)), .int (i32 (op2_492)), .ref 66]) rfl rfl rfl rfl ?_
                              refine jx_sub (pc' := 119) rfl rfl ?_
                              refine jr_put (pc' := 122) (i := 15) (z := (op2_492 - 1)) rfl rfl (by decide) rfl rfl rfl rfl rfl rfl ?_
                              have hW590 : Wk (uG G568 15 ((op2_492 - 1))) A569 := Wk_g hW573 (show (-2147483648 : Int) ≤ (op2_492 - 1) by omega) (show (op2_492 - 1) ≤ (2147483647 : Int) by omega)
                              have hF591 := Fr_g (z := (op2_492 - 1)) (i := 15) hF581 (by decide)
                              refine jx_ld (pc' := 123) (l' := L523) (st' := [.ref 66]) rfl (jl_aloadn gL523_0) ?_
                              refine jx_ar (pc' := 125) (st' := [.int (i32 (7)), .ref 66]) rfl rfl rfl rfl ?_
                              refine jx_ld (pc' := 126) (l' := L523) (st' := [.int (i32 (r489)), .int (i32 (7)), .ref 66]) rfl (jl_iloadn gL523_1) ?_
                              refine jx_ar (pc' := 127) (st' := [.int (i32 (0)), .int (i32 (r489)), .int (i32 (7)), .ref 66]) rfl rfl rfl rfl ?_
                              refine jx_ar (pc' := 128) (st' := [.int (i32 (0)), .int (i32 (0)), .int (i32 (r489)), .int (i32 (7)), .ref 66]) rfl rfl rfl rfl ?_
                              refine jx_ar (pc' := 129) (st' := [.int (i32 (0)), .int (i32 (0)), .int (i32 (0)), .int (i32 (r489)), .int (i32 (7)), .ref 66]) rfl rfl rfl rfl ?_
                              refine jx_vr (pc' := 132) (as := [.int (i32 (7)), .int (i32 (r489)), .int (i32 (0)), .int (i32 (0)), .int (i32 (0))]) (st := []) rfl rfl rfl rfl ⟨rfl, rfl, Nat.le_of_ble_eq_true rfl⟩ rfl rfl (c_node (dd := d) (hd := by omega) (hW := hW590) (kind := 7) (a := r489) (b := 0) (c := 0) (e := 0) (nd := nd2_493) (e_nd := show (uG G568 15 ((op2_492 - 1))) 31 = nd2_493 from ((hF574.1 31 rfl).trans (e501)))  (h_kind := by omega) (h_a := by omega) (h_b := by omega) (h_c := by omega) (h_e := by omega)  (p_0 := by omega) (p_1 := by omega)) (fun o V' hq => ?_)
                              obtain ⟨G592, A593, r594, nd2_595, rfl, rfl, hW596, hF597, b598, e599, p600, p601, -⟩ := hq
                              have hF603 := Fr_tr hF591 hF597 (Fr_sub (by decide)) (Fr_sub (by decide))
                              have bnd2_595 : (0 : Int) ≤ nd2_595 ∧ nd2_595 ≤ 6999 := e599 ▸ hW596.1 31
                              refine .inr ⟨_, rfl, ?_⟩
                              refine jx_rt (v := some (.int (i32 (r594)))) rfl rfl rfl rfl rfl rfl ?_
                              have z604 := tz_f (tk2_571)
                              exact ⟨_, _, _, at2_570, fk2_572, (op2_492 - 1), nd2_595, tk2_571, rfl, rfl, hW596, hF603, by omega, ((hF597.1 10 rfl).trans (e575)), ((hF597.1 16 rfl).trans (e577)), (hF597.1 15 rfl), (e599), ((hF597.1 11 rfl).trans (e576)), by omega, by omega, by omega, by omega, by omega, by omega, by first | exact Or.inl (⟨by omega, by omega, by omega, by omega, by omega, by omega⟩) | exact Or.inr (Or.inl (⟨by omega, by omega, by omega⟩)) | exact Or.inr (Or.inr ((⟨by omega, by omega, by omega⟩)))⟩
                            · have _q : True := trivial
                              exfalso
                              omega
                        · have _q : True := trivial
                          exfalso
                          omega
                        · have _q : True := trivial
                          exfalso
                          omega
                      · have _q : True := trivial
                        refine jx_ld (pc' := 98) (l' := [(0, .ref 66)]) (st' := [.ref 66]) rfl (jl_aloadn rfl) ?_
                        refine jx_vr (pc' := 101) (as := []) (st := []) rfl rfl rfl rfl ⟨rfl, rfl, Nat.le_of_ble_eq_true rfl⟩ rfl rfl (hE (dd := d) (hd := by omega) (hW := hW470)  (ln := ln) (e_ln := show G465 9 = ln from ((hF471.1 9 rfl).trans ((hF315.1 9 rfl).trans (e_ln)))) (le := le) (e_le := show A466 4 (ln).toNat = le from (congrFun ((hF471.2 4 rfl).trans (hF315.2 4 rfl)) _).trans (e_le)) (at0 := at2_467) (e_at0 := show G465 10 = at2_467 from (e472)) (fk := fk2_469) (e_fk := show G465 16 = fk2_469 from (e474)) (op0 := op2_313) (e_op0 := show G465 15 = op2_313 from ((hF471.1 15 rfl).trans (e317))) (nd := nd) (e_nd := show G465 31 = nd from ((hF471.1 31 rfl).trans ((hF315.1 31 rfl).trans (e_nd)))) (tk0 := tk2_468) (e_tk0 := show G465 11 = tk2_468 from (e473))    (p_0 := by omega) (p_1 := by omega) (p_2 := by omega) (p_3 := by omega) (p_4 := by omega) (p_5 := by omega)) (fun o V' hq => ?_)
                        obtain ⟨G605, A606, r607, at2_608, fk2_609, op2_610, nd2_611, tk2_612, rfl, rfl, hW613, hF614, b615, e616, e617, e618, e619, e620, p621, p622, p623, p624, p625, p626, q627⟩ := hq
                        have hF628 := Fr_tr hF478 hF614 (Fr_sub (by decide)) (Fr_sub (by decide))
                        have bat2_608 : (0 : Int) ≤ at2_608 ∧ at2_608 ≤ 3002 := e616 ▸ hW613.1 10
                        have bfk2_609 : (0 : Int) ≤ fk2_609 ∧ fk2_609 ≤ 6 := e617 ▸ hW613.1 16
                        have bop2_610 : (-2147483648 : Int) ≤ op2_610 ∧ op2_610 ≤ 2147483647 := e618 ▸ hW613.1 15
                        have bnd2_611 : (0 : Int) ≤ nd2_611 ∧ nd2_611 ≤ 6999 := e619 ▸ hW613.1 31
                        have ztk2_612 := tz_b tk2_612
                        have btk2_612 : (0 : Int) ≤ tk2_612 ∧ tk2_612 ≤ 5 := e620 ▸ hW613.1 11
                        refine .inr ⟨_, rfl, ?_⟩
                        rcases q627 with ⟨a629, a630, a631, a632, a633, a634⟩ | ⟨a635, a636, a637⟩ | ⟨a638, a639, a640⟩
                        · have _q : True := trivial
                          exfalso
                          omega
                        · have _q : True := trivial
                          refine jx_ld (pc' := 102) (l' := jSto1 [(0, .ref 66)] 1 (.int (i32 (r607)))) (st' := []) rfl rfl ?_
                          obtain ⟨L641, eL641⟩ : ∃ q, q = jSto1 [(0, .ref 66)] 1 (.int (i32 (r607))) := ⟨_, rfl⟩
                          rw [← eL641]
                          have gL641_0 : jGet L641 0 = some (.ref 66) := eL641 ▸ jg_ne (by decide) (rfl : jGet [(0, .ref 66)] 0 = some (.ref 66)) rfl
                          have gL641_1 : jGet L641 1 = some (.int (i32 (r607))) := eL641 ▸ jg_eq
                          refine jx_ld (pc' := 103) (l' := L641) (st' := [.ref 66]) rfl (jl_aloadn gL641_0) ?_
                          refine jx_ld (pc' := 104) (l' := L641) (st' := [.ref 66, .ref 66]) rfl (jl_aloadn gL641_0) ?_
                          refine jx_ar (pc' := 106) (st' := [.int (i32 (41)), .ref 66, .ref 66]) rfl rfl rfl rfl ?_
                          have b642 : (-2147483648 : Int) ≤ G605 13 ∧ G605 13 ≤ 2147483647 := hW613.1 13
                          refine jx_vr (pc' := 109) (as := [.int (i32 (41))]) (st := [.ref 66]) rfl rfl rfl rfl ⟨rfl, rfl, Nat.le_of_ble_eq_true rfl⟩ rfl rfl (c_is (dd := d) (hd := by omega) (hW := hW613) (k := 41) (tk := tk2_612) (e_tk := show G605 11 = tk2_612 from (e620)) (tn := G605 13) (e_tn := show G605 13 = G605 13 from rfl)  (h_k := by omega)  ) (fun o V' hq => ?_)
                          obtain ⟨r643, rfl, rfl, b644, q645⟩ := hq
                          refine .inr ⟨_, rfl, ?_⟩
                          rcases q645 with ⟨rfl, a646, a647, a648⟩ | rfl
                          · have _q : True := trivial
                            refine jx_vr (pc' := 112) (as := [.int (i32 (1))]) (st := []) rfl rfl rfl rfl ⟨rfl, rfl, Nat.le_of_ble_eq_true rfl⟩ rfl rfl (c_need (dd := d) (hd := by omega) (hW := hW613) (g := 1) (ln := ln) (e_ln := show G605 9 = ln from ((hF614.1 9 rfl).trans ((hF471.1 9 rfl).trans ((hF315.1 9 rfl).trans (e_ln))))) (le := le) (e_le := show A606 4 (ln).toNat = le from (congrFun ((hF614.2 4 rfl).trans ((hF471.2 4 rfl).trans (hF315.2 4 rfl))) _).trans (e_le)) (at0 := at2_608) (e_at0 := show G605 10 = at2_608 from (e616)) (fk := fk2_609) (e_fk := show G605 16 = fk2_609 from (e617)) (tk0 := tk2_612) (e_tk0 := show G605 11 = tk2_612 from (e620))  (h_g := by omega)  (p_0 := by omega)) (fun o V' hq => ?_)
                            obtain ⟨G649, A650, at2_651, tk2_652, fk2_653, rfl, rfl, hW654, hF655, e656, e657, e658, p659, p660, q661⟩ := hq
                            have hF662 := Fr_tr hF628 hF655 (Fr_sub (by decide)) (Fr_sub (by decide))
                            have bat2_651 : (0 : Int) ≤ at2_651 ∧ at2_651 ≤ 3002 := e656 ▸ hW654.1 10
                            have ztk2_652 := tz_b tk2_652
                            have btk2_652 : (0 : Int) ≤ tk2_652 ∧ tk2_652 ≤ 5 := e657 ▸ hW654.1 11
                            have bfk2_653 : (0 : Int) ≤ fk2_653 ∧ fk2_653 ≤ 6 := e658 ▸ hW654.1 16
                            refine .inl ⟨rfl, ?_⟩
                            rcases q661 with ⟨a663, a664, a665, a666⟩ | ⟨a667, a668, a669, a670⟩
                            · have _q : True := trivial
                              refine jx_ld (pc' := 113) (l' := L641) (st' := [.ref 66]) rfl (jl_aloadn gL641_0) ?_
                              refine jx_ar (pc' := 114) (st' := [.ref 66, .ref 66]) rfl rfl rfl rfl ?_
                              refine jr_get (pc' := 117) (i := 15) (v := .int (i32 (op2_610))) rfl rfl (by decide) (rFv_eq (by decide) (show G649 15 = op2_610 from ((hF655.1 15 rfl).trans (e618)))) rfl ?_
                              refine jx_ar (pc' := 118) (st' := [.int (i32 (1)), .int (i32 (op2_610)), .ref 66]) rfl rfl rfl rfl ?_
                              refine jx_sub (pc' := 119) rfl rfl ?_
                              refine jr_put (pc' := 122) (i := 15) (z := (op2_610 - 1)) rfl rfl (by decide) rfl rfl rfl rfl rfl rfl ?_
                              have hW671 : Wk (uG G649 15 ((op2_610 - 1))) A650 := Wk_g hW654 (show (-2147483648 : Int) ≤ (op2_610 - 1) by omega) (show (op2_610 - 1) ≤ (2147483647 : Int) by omega)
                              have hF672 := Fr_g (z := (op2_610 - 1)) (i := 15) hF662 (by decide)
                              refine jx_ld (pc' := 123) (l' := L641) (st' := [.ref 66]) rfl (jl_aloadn gL641_0) ?_
                              refine jx_ar (pc' := 125) (st' := [.int (i32 (7)), .ref 66]) rfl rfl rfl rfl ?_
                              refine jx_ld (pc' := 126) (l' := L641) (st' := [.int (i32 (r607)), .int (i32 (7)), .ref 66]) rfl (jl_iloadn gL641_1) ?_
                              refine jx_ar (pc' := 127) (st' := [.int (i32 (0)), .int (i32 (r607)), .int (i32 (7)), .ref 66]) rfl rfl rfl rfl ?_
                              refine jx_ar (pc' := 128) (st' := [.int (i32 (0)), .int (i32 (0)), .int (i32 (r607)), .int (i32 (7)), .ref 66]) rfl rfl rfl rfl ?_
                              refine jx_ar (pc' := 129) (st' := [.int (i32 (0)), .int (i32 (0)), .int (i32 (0)), .int (i32 (r607)), .int (i32 (7)), .ref 66]) rfl rfl rfl rfl ?_
                              refine jx_vr (pc' := 132) (as := [.int (i32 (7)), .int (i32 (r607)), .int (i32 (0)), .int (i32 (0)), .int (i32 (0))]) (st := []) rfl rfl rfl rfl ⟨rfl, rfl, Nat.le_of_ble_eq_true rfl⟩ rfl rfl (c_node (dd := d) (hd := by omega) (hW := hW671) (kind := 7) (a := r607) (b := 0) (c := 0) (e := 0) (nd := nd2_611) (e_nd := show (uG G649 15 ((op2_610 - 1))) 31 = nd2_611 from ((hF655.1 31 rfl).trans (e619)))  (h_kind := by omega) (h_a := by omega) (h_b := by omega) (h_c := by omega) (h_e := by omega)  (p_0 := by omega) (p_1 := by omega)) (fun o V' hq => ?_)
                              obtain ⟨G673, A674, r675, nd2_676, rfl, rfl, hW677, hF678, b679, e680, p681, p682, -⟩ := hq
                              have hF684 := Fr_tr hF672 hF678 (Fr_sub (by decide)) (Fr_sub (by decide))
                              have bnd2_676 : (0 : Int) ≤ nd2_676 ∧ nd2_676 ≤ 6999 := e680 ▸ hW677.1 31
                              refine .inr ⟨_, rfl, ?_⟩
                              refine jx_rt (v := some (.int (i32 (r675)))) rfl rfl rfl rfl rfl rfl ?_
                              have z685 := tz_f (tk2_652)
                              exact ⟨_, _, _, at2_651, fk2_653, (op2_610 - 1), nd2_676, tk2_652, rfl, rfl, hW677, hF684, by omega, ((hF678.1 10 rfl).trans (e656)), ((hF678.1 16 rfl).trans (e658)), (hF678.1 15 rfl), (e680), ((hF678.1 11 rfl).trans (e657)), by omega, by omega, by omega, by omega, by omega, by omega, by first | exact Or.inl (⟨by omega, by omega, by omega, by omega, by omega, by omega⟩) | exact Or.inr (Or.inl (⟨by omega, by omega, by omega⟩)) | exact Or.inr (Or.inr ((⟨by omega, by omega, by omega⟩)))⟩
                            · have _q : True := trivial
                              exfalso
                              omega
                          · have _q : True := trivial
                            refine jx_vr (pc' := 112) (as := [.int (i32 (0))]) (st := []) rfl rfl rfl rfl ⟨rfl, rfl, Nat.le_of_ble_eq_true rfl⟩ rfl rfl (c_need (dd := d) (hd := by omega) (hW := hW613) (g := 0) (ln := ln) (e_ln := show G605 9 = ln from ((hF614.1 9 rfl).trans ((hF471.1 9 rfl).trans ((hF315.1 9 rfl).trans (e_ln))))) (le := le) (e_le := show A606 4 (ln).toNat = le from (congrFun ((hF614.2 4 rfl).trans ((hF471.2 4 rfl).trans (hF315.2 4 rfl))) _).trans (e_le)) (at0 := at2_608) (e_at0 := show G605 10 = at2_608 from (e616)) (fk := fk2_609) (e_fk := show G605 16 = fk2_609 from (e617)) (tk0 := tk2_612) (e_tk0 := show G605 11 = tk2_612 from (e620))  (h_g := by omega)  (p_0 := by omega)) (fun o V' hq => ?_)
                            obtain ⟨G686, A687, at2_688, tk2_689, fk2_690, rfl, rfl, hW691, hF692, e693, e694, e695, p696, p697, q698⟩ := hq
                            have hF699 := Fr_tr hF628 hF692 (Fr_sub (by decide)) (Fr_sub (by decide))
                            have bat2_688 : (0 : Int) ≤ at2_688 ∧ at2_688 ≤ 3002 := e693 ▸ hW691.1 10
                            have ztk2_689 := tz_b tk2_689
                            have btk2_689 : (0 : Int) ≤ tk2_689 ∧ tk2_689 ≤ 5 := e694 ▸ hW691.1 11
                            have bfk2_690 : (0 : Int) ≤ fk2_690 ∧ fk2_690 ≤ 6 := e695 ▸ hW691.1 16
                            refine .inl ⟨rfl, ?_⟩
                            rcases q698 with ⟨a700, a701, a702, a703⟩ | ⟨a704, a705, a706, a707⟩
                            · have _q : True := trivial
                              refine jx_ld (pc' := 113) (l' := L641) (st' := [.ref 66]) rfl (jl_aloadn gL641_0) ?_
                              refine jx_ar (pc' := 114) (st' := [.ref 66, .ref 66]) rfl rfl rfl rfl ?_
                              refine jr_get (pc' := 117) (i := 15) (v := .int (i32 (op2_610))) rfl rfl (by decide) (rFv_eq (by decide) (show G686 15 = op2_610 from ((hF692.1 15 rfl).trans (e618)))) rfl ?_
                              refine jx_ar (pc' := 118) (st' := [.int (i32 (1)), .int (i32 (op2_610)), .ref 66]) rfl rfl rfl rfl ?_
                              refine jx_sub (pc' := 119) rfl rfl ?_
                              refine jr_put (pc' := 122) (i := 15) (z := (op2_610 - 1)) rfl rfl (by decide) rfl rfl rfl rfl rfl rfl ?_
                              have hW708 : Wk (uG G686 15 ((op2_610 - 1))) A687 := Wk_g hW691 (show (-2147483648 : Int) ≤ (op2_610 - 1) by omega) (show (op2_610 - 1) ≤ (2147483647 : Int) by omega)
                              have hF709 := Fr_g (z := (op2_610 - 1)) (i := 15) hF699 (by decide)
                              refine jx_ld (pc' := 123) (l' := L641) (st' := [.ref 66]) rfl (jl_aloadn gL641_0) ?_
                              refine jx_ar (pc' := 125) (st' := [.int (i32 (7)), .ref 66]) rfl rfl rfl rfl ?_
                              refine jx_ld (pc' := 126) (l' := L641) (st' := [.int (i32 (r607)), .int (i32 (7)), .ref 66]) rfl (jl_iloadn gL641_1) ?_
                              refine jx_ar (pc' := 127) (st' := [.int (i32 (0)), .int (i32 (r607)), .int (i32 (7)), .ref 66]) rfl rfl rfl rfl ?_
                              refine jx_ar (pc' := 128) (st' := [.int (i32 (0)), .int (i32 (0)), .int (i32 (r607)), .int (i32 (7)), .ref 66]) rfl rfl rfl rfl ?_
                              refine jx_ar (pc' := 129) (st' := [.int (i32 (0)), .int (i32 (0)), .int (i32 (0)), .int (i32 (r607)), .int (i32 (7)), .ref 66]) rfl rfl rfl rfl ?_
                              refine jx_vr (pc' := 132) (as := [.int (i32 (7)), .int (i32 (r607)), .int (i32 (0)), .int (i32 (0)), .int (i32 (0))]) (st := []) rfl rfl rfl rfl ⟨rfl, rfl, Nat.le_of_ble_eq_true rfl⟩ rfl rfl (c_node (dd := d) (hd := by omega) (hW := hW708) (kind := 7) (a := r607) (b := 0) (c := 0) (e := 0) (nd := nd2_611) (e_nd := show (uG G686 15 ((op2_610 - 1))) 31 = nd2_611 from ((hF692.1 31 rfl).trans (e619)))  (h_kind := by omega) (h_a := by omega) (h_b := by omega) (h_c := by omega) (h_e := by omega)  (p_0 := by omega) (p_1 := by omega)) (fun o V' hq => ?_)
                              obtain ⟨G710, A711, r712, nd2_713, rfl, rfl, hW714, hF715, b716, e717, p718, p719, -⟩ := hq
                              have hF721 := Fr_tr hF709 hF715 (Fr_sub (by decide)) (Fr_sub (by decide))
                              have bnd2_713 : (0 : Int) ≤ nd2_713 ∧ nd2_713 ≤ 6999 := e717 ▸ hW714.1 31
                              refine .inr ⟨_, rfl, ?_⟩
                              refine jx_rt (v := some (.int (i32 (r712)))) rfl rfl rfl rfl rfl rfl ?_
                              have z722 := tz_f (tk2_689)
                              exact ⟨_, _, _, at2_688, fk2_690, (op2_610 - 1), nd2_713, tk2_689, rfl, rfl, hW714, hF721, by omega, ((hF715.1 10 rfl).trans (e693)), ((hF715.1 16 rfl).trans (e695)), (hF715.1 15 rfl), (e717), ((hF715.1 11 rfl).trans (e694)), by omega, by omega, by omega, by omega, by omega, by omega, by first | exact Or.inl (⟨by omega, by omega, by omega, by omega, by omega, by omega⟩) | exact Or.inr (Or.inl (⟨by omega, by omega, by omega⟩)) | exact Or.inr (Or.inr ((⟨by omega, by omega, by omega⟩)))⟩
                            · have _q : True := trivial
                              exfalso
                              omega
                        · have _q : True := trivial
                          refine jx_ld (pc' := 102) (l' := jSto1 [(0, .ref 66)] 1 (.int (i32 (r607)))) (st' := []) rfl rfl ?_
                          obtain ⟨L723, eL723⟩ : ∃ q, q = jSto1 [(0, .ref 66)] 1 (.int (i32 (r607))) := ⟨_, rfl⟩
                          rw [← eL723]
                          have gL723_0 : jGet L723 0 = some (.ref 66) := eL723 ▸ jg_ne (by decide) (rfl : jGet [(0, .ref 66)] 0 = some (.ref 66)) rfl
                          have gL723_1 : jGet L723 1 = some (.int (i32 (r607))) := eL723 ▸ jg_eq
                          refine jx_ld (pc' := 103) (l' := L723) (st' := [.ref 66]) rfl (jl_aloadn gL723_0) ?_
                          refine jx_ld (pc' := 104) (l' := L723) (st' := [.ref 66, .ref 66]) rfl (jl_aloadn gL723_0) ?_
                          refine jx_ar (pc' := 106) (st' := [.int (i32 (41)), .ref 66, .ref 66]) rfl rfl rfl rfl ?_
                          have b724 : (-2147483648 : Int) ≤ G605 13 ∧ G605 13 ≤ 2147483647 := hW613.1 13
                          refine jx_vr (pc' := 109) (as := [.int (i32 (41))]) (st := [.ref 66]) rfl rfl rfl rfl ⟨rfl, rfl, Nat.le_of_ble_eq_true rfl⟩ rfl rfl (c_is (dd := d) (hd := by omega) (hW := hW613) (k := 41) (tk := tk2_612) (e_tk := show G605 11 = tk2_612 from (e620)) (tn := G605 13) (e_tn := show G605 13 = G605 13 from rfl)  (h_k := by omega)  ) (fun o V' hq => ?_)
                          obtain ⟨r725, rfl, rfl, b726, q727⟩ := hq
                          refine .inr ⟨_, rfl, ?_⟩
                          rcases q727 with ⟨rfl, a728, a729, a730⟩ | rfl
                          · have _q : True := trivial
                            refine jx_vr (pc' := 112) (as := [.int (i32 (1))]) (st := []) rfl rfl rfl rfl ⟨rfl, rfl, Nat.le_of_ble_eq_true rfl⟩ rfl rfl (c_need (dd := d) (hd := by omega) (hW := hW613) (g := 1) (ln := ln) (e_ln := show G605 9 = ln from ((hF614.1 9 rfl).trans ((hF471.1 9 rfl).trans ((hF315.1 9 rfl).trans (e_ln))))) (le := le) (e_le := show A606 4 (ln).toNat = le from (congrFun ((hF614.2 4 rfl).trans ((hF471.2 4 rfl).trans (hF315.2 4 rfl))) _).trans (e_le)) (at0 := at2_608) (e_at0 := show G605 10 = at2_608 from (e616)) (fk := fk2_609) (e_fk := show G605 16 = fk2_609 from (e617)) (tk0 := tk2_612) (e_tk0 := show G605 11 = tk2_612 from (e620))  (h_g := by omega)  (p_0 := by omega)) (fun o V' hq => ?_)
                            obtain ⟨G731, A732, at2_733, tk2_734, fk2_735, rfl, rfl, hW736, hF737, e738, e739, e740, p741, p742, q743⟩ := hq
                            have hF744 := Fr_tr hF628 hF737 (Fr_sub (by decide)) (Fr_sub (by decide))
                            have bat2_733 : (0 : Int) ≤ at2_733 ∧ at2_733 ≤ 3002 := e738 ▸ hW736.1 10
                            have ztk2_734 := tz_b tk2_734
                            have btk2_734 : (0 : Int) ≤ tk2_734 ∧ tk2_734 ≤ 5 := e739 ▸ hW736.1 11
                            have bfk2_735 : (0 : Int) ≤ fk2_735 ∧ fk2_735 ≤ 6 := e740 ▸ hW736.1 16
                            refine .inl ⟨rfl, ?_⟩
                            rcases q743 with ⟨a745, a746, a747, a748⟩ | ⟨a749, a750, a751, a752⟩
                            · have _q : True := trivial
                              refine jx_ld (pc' := 113) (l' := L723) (st' := [.ref 66]) rfl (jl_aloadn gL723_0) ?_
                              refine jx_ar (pc' := 114) (st' := [.ref 66, .ref 66]) rfl rfl rfl rfl ?_
                              refine jr_get (pc' := 117) (i := 15) (v := .int (i32 (op2_610))) rfl rfl (by decide) (rFv_eq (by decide) (show G731 15 = op2_610 from ((hF737.1 15 rfl).trans (e618)))) rfl ?_
                              refine jx_ar (pc' := 118) (st' := [.int (i32 (1)), .int (i32 (op2_610)), .ref 66]) rfl rfl rfl rfl ?_
                              refine jx_sub (pc' := 119) rfl rfl ?_
                              refine jr_put (pc' := 122) (i := 15) (z := (op2_610 - 1)) rfl rfl (by decide) rfl rfl rfl rfl rfl rfl ?_
                              have hW753 : Wk (uG G731 15 ((op2_610 - 1))) A732 := Wk_g hW736 (show (-2147483648 : Int) ≤ (op2_610 - 1) by omega) (show (op2_610 - 1) ≤ (2147483647 : Int) by omega)
                              have hF754 := Fr_g (z := (op2_610 - 1)) (i := 15) hF744 (by decide)
                              refine jx_ld (pc' := 123) (l' := L723) (st' := [.ref 66]) rfl (jl_aloadn gL723_0) ?_
                              refine jx_ar (pc' := 125) (st' := [.int (i32 (7)), .ref 66]) rfl rfl rfl rfl ?_
                              refine jx_ld (pc' := 126) (l' := L723) (st' := [.int (i32 (r607)), .int (i32 (7)), .ref 66]) rfl (jl_iloadn gL723_1) ?_
                              refine jx_ar (pc' := 127) (st' := [.int (i32 (0)), .int (i32 (r607)), .int (i32 (7)), .ref 66]) rfl rfl rfl rfl ?_
                              refine jx_ar (pc' := 128) (st' := [.int (i32 (0)), .int (i32 (0)), .int (i32 (r607)), .int (i32 (7)), .ref 66]) rfl rfl rfl rfl ?_
                              refine jx_ar (pc' := 129) (st' := [.int (i32 (0)), .int (i32 (0)), .int (i32 (0)), .int (i32 (r607)), .int (i32 (7)), .ref 66]) rfl rfl rfl rfl ?_
                              refine jx_vr (pc' := 132) (as := [.int (i32 (7)), .int (i32 (r607)), .int (i32 (0)), .int (i32 (0)), .int (i32 (0))]) (st := []) rfl rfl rfl rfl ⟨rfl, rfl, Nat.le_of_ble_eq_true rfl⟩ rfl rfl (c_node (dd := d) (hd := by omega) (hW := hW753) (kind := 7) (a := r607) (b := 0) (c := 0) (e := 0) (nd := nd2_611) (e_nd := show (uG G731 15 ((op2_610 - 1))) 31 = nd2_611 from ((hF737.1 31 rfl).trans (e619)))  (h_kind := by omega) (h_a := by omega) (h_b := by omega) (h_c := by omega) (h_e := by omega)  (p_0 := by omega) (p_1 := by omega)) (fun o V' hq => ?_)
                              obtain ⟨G755, A756, r757, nd2_758, rfl, rfl, hW759, hF760, b761, e762, p763, p764, -⟩ := hq
                              have hF766 := Fr_tr hF754 hF760 (Fr_sub (by decide)) (Fr_sub (by decide))
                              have bnd2_758 : (0 : Int) ≤ nd2_758 ∧ nd2_758 ≤ 6999 := e762 ▸ hW759.1 31
                              refine .inr ⟨_, rfl, ?_⟩
                              refine jx_rt (v := some (.int (i32 (r757)))) rfl rfl rfl rfl rfl rfl ?_
                              have z767 := tz_f (tk2_734)
                              exact ⟨_, _, _, at2_733, fk2_735, (op2_610 - 1), nd2_758, tk2_734, rfl, rfl, hW759, hF766, by omega, ((hF760.1 10 rfl).trans (e738)), ((hF760.1 16 rfl).trans (e740)), (hF760.1 15 rfl), (e762), ((hF760.1 11 rfl).trans (e739)), by omega, by omega, by omega, by omega, by omega, by omega, by first | exact Or.inl (⟨by omega, by omega, by omega, by omega, by omega, by omega⟩) | exact Or.inr (Or.inl (⟨by omega, by omega, by omega⟩)) | exact Or.inr (Or.inr ((⟨by omega, by omega, by omega⟩)))⟩
                            · have _q : True := trivial
                              refine jx_ld (pc' := 113) (l' := L723) (st' := [.ref 66]) rfl (jl_aloadn gL723_0) ?_
                              refine jx_ar (pc' := 114) (st' := [.ref 66, .ref 66]) rfl rfl rfl rfl ?_
                              refine jr_get (pc' := 117) (i := 15) (v := .int (i32 (op2_610))) rfl rfl (by decide) (rFv_eq (by decide) (show G731 15 = op2_610 from ((hF737.1 15 rfl).trans (e618)))) rfl ?_
                              refine jx_ar (pc' := 118) (st' := [.int (i32 (1)), .int (i32 (op2_610)), .ref 66]) rfl rfl rfl rfl ?_
                              refine jx_sub (pc' := 119) rfl rfl ?_
                              refine jr_put (pc' := 122) (i := 15) (z := (op2_610 - 1)) rfl rfl (by decide) rfl rfl rfl rfl rfl rfl ?_
                              have hW768 : Wk (uG G731 15 ((op2_610 - 1))) A732 := Wk_g hW736 (show (-2147483648 : Int) ≤ (op2_610 - 1) by omega) (show (op2_610 - 1) ≤ (2147483647 : Int) by omega)
                              have hF769 := Fr_g (z := (op2_610 - 1)) (i := 15) hF744 (by decide)
                              refine jx_ld (pc' := 123) (l' := L723) (st' := [.ref 66]) rfl (jl_aloadn gL723_0) ?_
                              refine jx_ar (pc' := 125) (st' := [.int (i32 (7)), .ref 66]) rfl rfl rfl rfl ?_
                              refine jx_ld (pc' := 126) (l' := L723) (st' := [.int (i32 (r607)), .int (i32 (7)), .ref 66]) rfl (jl_iloadn gL723_1) ?_
                              refine jx_ar (pc' := 127) (st' := [.int (i32 (0)), .int (i32 (r607)), .int (i32 (7)), .ref 66]) rfl rfl rfl rfl ?_
                              refine jx_ar (pc' := 128) (st' := [.int (i32 (0)), .int (i32 (0)), .int (i32 (r607)), .int (i32 (7)), .ref 66]) rfl rfl rfl rfl ?_
                              refine jx_ar (pc' := 129) (st' := [.int (i32 (0)), .int (i32 (0)), .int (i32 (0)), .int (i32 (r607)), .int (i32 (7)), .ref 66]) rfl rfl rfl rfl ?_
                              refine jx_vr (pc' := 132) (as := [.int (i32 (7)), .int (i32 (r607)), .int (i32 (0)), .int (i32 (0)), .int (i32 (0))]) (st := []) rfl rfl rfl rfl ⟨rfl, rfl, Nat.le_of_ble_eq_true rfl⟩ rfl rfl (c_node (dd := d) (hd := by omega) (hW := hW768) (kind := 7) (a := r607) (b := 0) (c := 0) (e := 0) (nd := nd2_611) (e_nd := show (uG G731 15 ((op2_610 - 1))) 31 = nd2_611 from ((hF737.1 31 rfl).trans (e619)))  (h_kind := by omega) (h_a := by omega) (h_b := by omega) (h_c := by omega) (h_e := by omega)  (p_0 := by omega) (p_1 := by omega)) (fun o V' hq => ?_)
                              obtain ⟨G770, A771, r772, nd2_773, rfl, rfl, hW774, hF775, b776, e777, p778, p779, -⟩ := hq
                              have hF781 := Fr_tr hF769 hF775 (Fr_sub (by decide)) (Fr_sub (by decide))
                              have bnd2_773 : (0 : Int) ≤ nd2_773 ∧ nd2_773 ≤ 6999 := e777 ▸ hW774.1 31
                              refine .inr ⟨_, rfl, ?_⟩
                              refine jx_rt (v := some (.int (i32 (r772)))) rfl rfl rfl rfl rfl rfl ?_
                              have z782 := tz_f (tk2_734)
                              exact ⟨_, _, _, at2_733, fk2_735, (op2_610 - 1), nd2_773, tk2_734, rfl, rfl, hW774, hF781, by omega, ((hF775.1 10 rfl).trans (e738)), ((hF775.1 16 rfl).trans (e740)), (hF775.1 15 rfl), (e777), ((hF775.1 11 rfl).trans (e739)), by omega, by omega, by omega, by omega, by omega, by omega, by first | exact Or.inl (⟨by omega, by omega, by omega, by omega, by omega, by omega⟩) | exact Or.inr (Or.inl (⟨by omega, by omega, by omega⟩)) | exact Or.inr (Or.inr ((⟨by omega, by omega, by omega⟩)))⟩
                          · have _q : True := trivial
                            refine jx_vr (pc' := 112) (as := [.int (i32 (0))]) (st := []) rfl rfl rfl rfl ⟨rfl, rfl, Nat.le_of_ble_eq_true rfl⟩ rfl rfl (c_need (dd := d) (hd := by omega) (hW := hW613) (g := 0) (ln := ln) (e_ln := show G605 9 = ln from ((hF614.1 9 rfl).trans ((hF471.1 9 rfl).trans ((hF315.1 9 rfl).trans (e_ln))))) (le := le) (e_le := show A606 4 (ln).toNat = le from (congrFun ((hF614.2 4 rfl).trans ((hF471.2 4 rfl).trans (hF315.2 4 rfl))) _).trans (e_le)) (at0 := at2_608) (e_at0 := show G605 10 = at2_608 from (e616)) (fk := fk2_609) (e_fk := show G605 16 = fk2_609 from (e617)) (tk0 := tk2_612) (e_tk0 := show G605 11 = tk2_612 from (e620))  (h_g := by omega)  (p_0 := by omega)) (fun o V' hq => ?_)
                            obtain ⟨G783, A784, at2_785, tk2_786, fk2_787, rfl, rfl, hW788, hF789, e790, e791, e792, p793, p794, q795⟩ := hq
                            have hF796 := Fr_tr hF628 hF789 (Fr_sub (by decide)) (Fr_sub (by decide))
                            have bat2_785 : (0 : Int) ≤ at2_785 ∧ at2_785 ≤ 3002 := e790 ▸ hW788.1 10
                            have ztk2_786 := tz_b tk2_786
                            have btk2_786 : (0 : Int) ≤ tk2_786 ∧ tk2_786 ≤ 5 := e791 ▸ hW788.1 11
                            have bfk2_787 : (0 : Int) ≤ fk2_787 ∧ fk2_787 ≤ 6 := e792 ▸ hW788.1 16
                            refine .inl ⟨rfl, ?_⟩
                            rcases q795 with ⟨a797, a798, a799, a800⟩ | ⟨a801, a802, a803, a804⟩
                            · have _q : True := trivial
                              refine jx_ld (pc' := 113) (l' := L723) (st' := [.ref 66]) rfl (jl_aloadn gL723_0) ?_
                              refine jx_ar (pc' := 114) (st' := [.ref 66, .ref 66]) rfl rfl rfl rfl ?_
                              refine jr_get (pc' := 117) (i := 15) (v := .int (i32 (op2_610))) rfl rfl (by decide) (rFv_eq (by decide) (show G783 15 = op2_610 from ((hF789.1 15 rfl).trans (e618)))) rfl ?_
                              refine jx_ar (pc' := 118) (st' := [.int (i32 (1)), .int (i32 (op2_610)), .ref 66]) rfl rfl rfl rfl ?_
                              refine jx_sub (pc' := 119) rfl rfl ?_
                              refine jr_put (pc' := 122) (i := 15) (z := (op2_610 - 1)) rfl rfl (by decide) rfl rfl rfl rfl rfl rfl ?_
                              have hW805 : Wk (uG G783 15 ((op2_610 - 1))) A784 := Wk_g hW788 (show (-2147483648 : Int) ≤ (op2_610 - 1) by omega) (show (op2_610 - 1) ≤ (2147483647 : Int) by omega)
                              have hF806 := Fr_g (z := (op2_610 - 1)) (i := 15) hF796 (by decide)
                              refine jx_ld (pc' := 123) (l' := L723) (st' := [.ref 66]) rfl (jl_aloadn gL723_0) ?_
                              refine jx_ar (pc' := 125) (st' := [.int (i32 (7)), .ref 66]) rfl rfl rfl rfl ?_
                              refine jx_ld (pc' := 126) (l' := L723) (st' := [.int (i32 (r607)), .int (i32 (7)), .ref 66]) rfl (jl_iloadn gL723_1) ?_
                              refine jx_ar (pc' := 127) (st' := [.int (i32 (0)), .int (i32 (r607)), .int (i32 (7)), .ref 66]) rfl rfl rfl rfl ?_
                              refine jx_ar (pc' := 128) (st' := [.int (i32 (0)), .int (i32 (0)), .int (i32 (r607)), .int (i32 (7)), .ref 66]) rfl rfl rfl rfl ?_
                              refine jx_ar (pc' := 129) (st' := [.int (i32 (0)), .int (i32 (0)), .int (i32 (0)), .int (i32 (r607)), .int (i32 (7)), .ref 66]) rfl rfl rfl rfl ?_
                              refine jx_vr (pc' := 132) (as := [.int (i32 (7)), .int (i32 (r607)), .int (i32 (0)), .int (i32 (0)), .int (i32 (0))]) (st := []) rfl rfl rfl rfl ⟨rfl, rfl, Nat.le_of_ble_eq_true rfl⟩ rfl rfl (c_node (dd := d) (hd := by omega) (hW := hW805) (kind := 7) (a := r607) (b := 0) (c := 0) (e := 0) (nd := nd2_611) (e_nd := show (uG G783 15 ((op2_610 - 1))) 31 = nd2_611 from ((hF789.1 31 rfl).trans (e619)))  (h_kind := by omega) (h_a := by omega) (h_b := by omega) (h_c := by omega) (h_e := by omega)  (p_0 := by omega) (p_1 := by omega)) (fun o V' hq => ?_)
                              obtain ⟨G807, A808, r809, nd2_810, rfl, rfl, hW811, hF812, b813, e814, p815, p816, -⟩ := hq
                              have hF818 := Fr_tr hF806 hF812 (Fr_sub (by decide)) (Fr_sub (by decide))
                              have bnd2_810 : (0 : Int) ≤ nd2_810 ∧ nd2_810 ≤ 6999 := e814 ▸ hW811.1 31
                              refine .inr ⟨_, rfl, ?_⟩
                              refine jx_rt (v := some (.int (i32 (r809)))) rfl rfl rfl rfl rfl rfl ?_
                              have z819 := tz_f (tk2_786)
                              exact ⟨_, _, _, at2_785, fk2_787, (op2_610 - 1), nd2_810, tk2_786, rfl, rfl, hW811, hF818, by omega, ((hF812.1 10 rfl).trans (e790)), ((hF812.1 16 rfl).trans (e792)), (hF812.1 15 rfl), (e814), ((hF812.1 11 rfl).trans (e791)), by omega, by omega, by omega, by omega, by omega, by omega, by first | exact Or.inl (⟨by omega, by omega, by omega, by omega, by omega, by omega⟩) | exact Or.inr (Or.inl (⟨by omega, by omega, by omega⟩)) | exact Or.inr (Or.inr ((⟨by omega, by omega, by omega⟩)))⟩
                            · have _q : True := trivial
                              exfalso
                              omega
                · have _q : True := trivial
                  refine jx_if_eq (pc' := 88) (tg := 133) rfl rfl rfl (by omega) (by omega) (fun h820 => ?_) (fun h820 => ?_)
                  · have _q := h820
                    refine jx_ld (pc' := 134) (l' := [(0, .ref 66)]) (st' := [.ref 66]) rfl (jl_aloadn rfl) ?_
                    have z821 := tz_f (tk0)
                    refine jr_get (pc' := 137) (i := 11) (v := .int (i32 (tk0))) rfl rfl (by decide) (rFv_eq (by decide) (show G 11 = tk0 from (e_tk0))) rfl ?_
                    refine jx_ar (pc' := 138) (st' := [.int (i32 (1)), .int (i32 (tk0))]) rfl rfl rfl rfl ?_
                    refine jx_icmp_eq (pc' := 141) (tg := 152) rfl rfl rfl (by omega) (by omega) (by omega) (by omega) (fun h822 => ?_) (fun h822 => ?_)
                    · have _q := h822
                      refine jx_ld (pc' := 153) (l' := [(0, .ref 66)]) (st' := [.ref 66]) rfl (jl_aloadn rfl) ?_
                      have b823 : (-3000 : Int) ≤ G 12 ∧ G 12 ≤ 3002 := hW.1 12
                      refine jr_get (pc' := 156) (i := 12) (v := .int (i32 (G 12))) rfl rfl (by decide) rfl rfl ?_
                      refine jx_ld (pc' := 157) (l' := jSto1 [(0, .ref 66)] 1 (.int (i32 (G 12)))) (st' := []) rfl rfl ?_
                      obtain ⟨L824, eL824⟩ : ∃ q, q = jSto1 [(0, .ref 66)] 1 (.int (i32 (G 12))) := ⟨_, rfl⟩
                      rw [← eL824]
                      have gL824_0 : jGet L824 0 = some (.ref 66) := eL824 ▸ jg_ne (by decide) (rfl : jGet [(0, .ref 66)] 0 = some (.ref 66)) rfl
                      have gL824_1 : jGet L824 1 = some (.int (i32 (G 12))) := eL824 ▸ jg_eq
                      refine jx_ld (pc' := 158) (l' := L824) (st' := [.ref 66]) rfl (jl_aloadn gL824_0) ?_
                      refine jx_vr (pc' := 161) (as := []) (st := []) rfl rfl rfl rfl ⟨rfl, rfl, Nat.le_of_ble_eq_true rfl⟩ rfl rfl (c_lookUp (dd := d) (hd := by omega) (hW := hW)  (fk := fk) (e_fk := show G 16 = fk from (e_fk))    ) (fun o V' hq => ?_)
                      obtain ⟨G825, A826, r827, fk2_828, rfl, rfl, hW829, hF830, b831, e832, q833⟩ := hq
                      have hF834 := Fr_tr hF0 hF830 (Fr_sub (by decide)) (Fr_sub (by decide))
                      have bfk2_828 : (0 : Int) ≤ fk2_828 ∧ fk2_828 ≤ 6 := e832 ▸ hW829.1 16
                      refine .inr ⟨_, rfl, ?_⟩
                      rcases q833 with ⟨a835, a836⟩ | ⟨a837, a838, a839⟩
                      · have _q : True := trivial
                        refine jx_ld (pc' := 162) (l' := jSto1 L824 2 (.int (i32 (r827)))) (st' := []) rfl rfl ?_
                        obtain ⟨L840, eL840⟩ : ∃ q, q = jSto1 L824 2 (.int (i32 (r827))) := ⟨_, rfl⟩
                        rw [← eL840]
                        have gL840_0 : jGet L840 0 = some (.ref 66) := eL840 ▸ jg_ne (by decide) gL824_0 rfl
                        have gL840_1 : jGet L840 1 = some (.int (i32 (G 12))) := eL840 ▸ jg_ne (by decide) gL824_1 rfl
                        have gL840_2 : jGet L840 2 = some (.int (i32 (r827))) := eL840 ▸ jg_eq
                        refine jx_ld (pc' := 163) (l' := L840) (st' := [.ref 66]) rfl (jl_aloadn gL840_0) ?_
                        refine jx_vr (pc' := 166) (as := []) (st := []) rfl rfl rfl rfl ⟨rfl, rfl, Nat.le_of_ble_eq_true rfl⟩ rfl rfl (c_bad (dd := d) (hd := by omega) (hW := hW829)  (fk := fk2_828) (e_fk := show G825 16 = fk2_828 from (e832))    ) (fun o V' hq => ?_)
                        obtain ⟨r841, rfl, rfl, b842, q843⟩ := hq
                        refine .inr ⟨_, rfl, ?_⟩
                        rcases q843 with ⟨rfl, a844⟩ | ⟨rfl, a845⟩
                        · have _q : True := trivial
                          refine jx_if_eq (pc' := 169) (tg := 171) rfl rfl rfl (by omega) (by omega) (fun h846 => ?_) (fun h846 => ?_)
                          · have _q := h846
                            exact absurd h846 (by omega)
                          · have _q := h846
                            refine jx_ar (pc' := 170) (st' := [.int (i32 (0))]) rfl rfl rfl rfl ?_
                            refine jx_rt (v := some (.int (i32 (0)))) rfl rfl rfl rfl rfl rfl ?_
                            have z847 := tz_f (tk0)
                            exact ⟨_, _, _, at0, fk2_828, op0, nd, tk0, rfl, rfl, hW829, hF834, by omega, ((hF830.1 10 rfl).trans (e_at0)), (e832), ((hF830.1 15 rfl).trans (e_op0)), ((hF830.1 31 rfl).trans (e_nd)), ((hF830.1 11 rfl).trans (e_tk0)), by omega, by omega, by omega, by omega, by omega, by omega, by first | exact Or.inl (⟨by omega, by omega, by omega, by omega, by omega, by omega⟩) | exact Or.inr (Or.inl (⟨by omega, by omega, by omega⟩)) | exact Or.inr (Or.inr ((⟨by omega, by omega, by omega⟩)))⟩
                        · have _q : True := trivial
                          exfalso
                          omega
                      · have _q : True := trivial
                        refine jx_ld (pc' := 162) (l' := jSto1 L824 2 (.int (i32 (r827)))) (st' := []) rfl rfl ?_
                        obtain ⟨L848, eL848⟩ : ∃ q, q = jSto1 L824 2 (.int (i32 (r827))) := ⟨_, rfl⟩
                        rw [← eL848]
                        have gL848_0 : jGet L848 0 = some (.ref 66) := eL848 ▸ jg_ne (by decide) gL824_0 rfl
                        have gL848_1 : jGet L848 1 = some (.int (i32 (G 12))) := eL848 ▸ jg_ne (by decide) gL824_1 rfl
                        have gL848_2 : jGet L848 2 = some (.int (i32 (r827))) := eL848 ▸ jg_eq
                        refine jx_ld (pc' := 163) (l' := L848) (st' := [.ref 66]) rfl (jl_aloadn gL848_0) ?_
                        refine jx_vr (pc' := 166) (as := []) (st := []) rfl rfl rfl rfl ⟨rfl, rfl, Nat.le_of_ble_eq_true rfl⟩ rfl rfl (c_bad (dd := d) (hd := by omega) (hW := hW829)  (fk := fk2_828) (e_fk := show G825 16 = fk2_828 from (e832))    ) (fun o V' hq => ?_)
                        obtain ⟨r849, rfl, rfl, b850, q851⟩ := hq
                        refine .inr ⟨_, rfl, ?_⟩
                        rcases q851 with ⟨rfl, a852⟩ | ⟨rfl, a853⟩
                        · have _q : True := trivial
                          exfalso
                          omega
                        · have _q : True := trivial
                          refine jx_if_eq (pc' := 169) (tg := 171) rfl rfl rfl (by omega) (by omega) (fun h854 => ?_) (fun h854 => ?_)
                          · have _q := h854
                            refine jx_ld (pc' := 172) (l' := L848) (st' := [.ref 66]) rfl (jl_aloadn gL848_0) ?_
                            refine jx_vr (pc' := 175) (as := []) (st := []) rfl rfl rfl rfl ⟨rfl, rfl, Nat.le_of_ble_eq_true rfl⟩ rfl rfl (c_next (dd := d) (hd := by omega) (hW := hW829)  (ln := ln) (e_ln := show G825 9 = ln from ((hF830.1 9 rfl).trans (e_ln))) (le := le) (e_le := show A826 4 (ln).toNat = le from (congrFun (hF830.2 4 rfl) _).trans (e_le)) (at0 := at0) (e_at0 := show G825 10 = at0 from ((hF830.1 10 rfl).trans (e_at0)))    (p_0 := by omega)) (fun o V' hq => ?_)
                            obtain ⟨G855, A856, at2_857, tk2_858, rfl, rfl, hW859, hF860, e861, e862, p863, p864, p865, -⟩ := hq
                            have hF867 := Fr_tr hF834 hF860 (Fr_sub (by decide)) (Fr_sub (by decide))
                            have bat2_857 : (0 : Int) ≤ at2_857 ∧ at2_857 ≤ 3002 := e861 ▸ hW859.1 10
                            have ztk2_858 := tz_b tk2_858
                            have btk2_858 : (0 : Int) ≤ tk2_858 ∧ tk2_858 ≤ 5 := e862 ▸ hW859.1 11
                            refine .inl ⟨rfl, ?_⟩
                            refine jx_ld (pc' := 176) (l' := L848) (st' := [.ref 66]) rfl (jl_aloadn gL848_0) ?_
                            refine jx_ld (pc' := 177) (l' := L848) (st' := [.int (i32 (r827)), .ref 66]) rfl (jl_iloadn gL848_2) ?_
                            refine jx_ld (pc' := 178) (l' := L848) (st' := [.int (i32 (G 12)), .int (i32 (r827)), .ref 66]) rfl (jl_iloadn gL848_1) ?_
                            refine jx_vr (pc' := 181) (as := [.int (i32 (r827)), .int (i32 (G 12))]) (st := []) rfl rfl rfl rfl ⟨rfl, rfl, Nat.le_of_ble_eq_true rfl⟩ rfl rfl (c_readValue (dd := d) (hE := hE) (hd := by omega) (hW := hW859) (s := r827) (place := G 12) (ln := ln) (e_ln := show G855 9 = ln from ((hF860.1 9 rfl).trans ((hF830.1 9 rfl).trans (e_ln)))) (le := le) (e_le := show A856 4 (ln).toNat = le from (congrFun ((hF860.2 4 rfl).trans (hF830.2 4 rfl)) _).trans (e_le)) (at0 := at2_857) (e_at0 := show G855 10 = at2_857 from (e861)) (fk := fk2_828) (e_fk := show G855 16 = fk2_828 from ((hF860.1 16 rfl).trans (e832))) (op0 := op0) (e_op0 := show G855 15 = op0 from ((hF860.1 15 rfl).trans ((hF830.1 15 rfl).trans (e_op0)))) (nd := nd) (e_nd := show G855 31 = nd from ((hF860.1 31 rfl).trans ((hF830.1 31 rfl).trans (e_nd)))) (tk0 := tk2_858) (e_tk0 := show G855 11 = tk2_858 from (e862))  (h_s := by omega) (h_place := by omega)  (p_0 := by omega) (p_1 := by omega) (p_2 := by omega) (p_3 := by omega) (p_4 := by omega) (p_5 := by omega) (p_6 := by omega) (p_7 := by omega) (p_8 := by omega) (p_9 := by omega)) (fun o V' hq => ?_)
                            obtain ⟨G868, A869, r870, at2_871, fk2_872, op2_873, nd2_874, tk2_875, rfl, rfl, hW876, hF877, b878, e879, e880, e881, e882, e883, p884, p885, p886, p887, p888, p889, q890⟩ := hq
                            have hF891 := Fr_tr hF867 hF877 (Fr_sub (by decide)) (Fr_sub (by decide))
                            have bat2_871 : (0 : Int) ≤ at2_871 ∧ at2_871 ≤ 3002 := e879 ▸ hW876.1 10
                            have bfk2_872 : (0 : Int) ≤ fk2_872 ∧ fk2_872 ≤ 6 := e880 ▸ hW876.1 16
                            have bop2_873 : (-2147483648 : Int) ≤ op2_873 ∧ op2_873 ≤ 2147483647 := e881 ▸ hW876.1 15
                            have bnd2_874 : (0 : Int) ≤ nd2_874 ∧ nd2_874 ≤ 6999 := e882 ▸ hW876.1 31
                            have ztk2_875 := tz_b tk2_875
                            have btk2_875 : (0 : Int) ≤ tk2_875 ∧ tk2_875 ≤ 5 := e883 ▸ hW876.1 11
                            refine .inr ⟨_, rfl, ?_⟩
                            rcases q890 with ⟨a892, a893, a894⟩ | ⟨a895, a896, a897⟩
                            · have _q : True := trivial
                              refine jx_rt (v := some (.int (i32 (r870)))) rfl rfl rfl rfl rfl rfl ?_
                              have z898 := tz_f (tk2_875)
                              exact ⟨_, _, _, at2_871, fk2_872, op2_873, nd2_874, tk2_875, rfl, rfl, hW876, hF891, by omega, (e879), (e880), (e881), (e882), (e883), by omega, by omega, by omega, by omega, by omega, by omega, by first | exact Or.inl (⟨by omega, by omega, by omega, by omega, by omega, by omega⟩) | exact Or.inr (Or.inl (⟨by omega, by omega, by omega⟩)) | exact Or.inr (Or.inr ((⟨by omega, by omega, by omega⟩)))⟩
                            · have _q : True := trivial
                              refine jx_rt (v := some (.int (i32 (r870)))) rfl rfl rfl rfl rfl rfl ?_
                              have z899 := tz_f (tk2_875)
                              exact ⟨_, _, _, at2_871, fk2_872, op2_873, nd2_874, tk2_875, rfl, rfl, hW876, hF891, by omega, (e879), (e880), (e881), (e882), (e883), by omega, by omega, by omega, by omega, by omega, by omega, by first | exact Or.inl (⟨by omega, by omega, by omega, by omega, by omega, by omega⟩) | exact Or.inr (Or.inl (⟨by omega, by omega, by omega⟩)) | exact Or.inr (Or.inr ((⟨by omega, by omega, by omega⟩)))⟩
                          · have _q := h854
                            exact absurd h854 (by omega)
                    · have _q := h822
                      refine jx_ld (pc' := 142) (l' := [(0, .ref 66)]) (st' := [.ref 66]) rfl (jl_aloadn rfl) ?_
                      refine jx_ar (pc' := 143) (st' := [.int (i32 (1)), .ref 66]) rfl rfl rfl rfl ?_
                      refine jx_ld (pc' := 144) (l' := [(0, .ref 66)]) (st' := [.ref 66, .int (i32 (1)), .ref 66]) rfl (jl_aloadn rfl) ?_
                      have b900 : (-3000 : Int) ≤ G 12 ∧ G 12 ≤ 3002 := hW.1 12
                      refine jr_get (pc' := 147) (i := 12) (v := .int (i32 (G 12))) rfl rfl (by decide) rfl rfl ?_
                      refine jx_vr (pc' := 150) (as := [.int (i32 (1)), .int (i32 (G 12))]) (st := []) rfl rfl rfl rfl ⟨rfl, rfl, Nat.le_of_ble_eq_true rfl⟩ rfl rfl (c_fail (dd := d) (hd := by omega) (hW := hW) (kind := 1) (place := G 12) (fk := fk) (e_fk := show G 16 = fk from (e_fk))  (h_kind := by omega) (h_place := by omega)  (p_0 := by omega) (p_1 := by omega)) (fun o V' hq => ?_)
                      obtain ⟨G901, A902, fk2_903, rfl, rfl, hW904, hF905, e906, p907, -⟩ := hq
                      have hF909 := Fr_tr hF0 hF905 (Fr_sub (by decide)) (Fr_sub (by decide))
                      have bfk2_903 : (0 : Int) ≤ fk2_903 ∧ fk2_903 ≤ 6 := e906 ▸ hW904.1 16
                      refine .inl ⟨rfl, ?_⟩
                      refine jx_ar (pc' := 151) (st' := [.int (i32 (0))]) rfl rfl rfl rfl ?_
                      refine jx_rt (v := some (.int (i32 (0)))) rfl rfl rfl rfl rfl rfl ?_
                      have z910 := tz_f (tk0)
                      exact ⟨_, _, _, at0, fk2_903, op0, nd, tk0, rfl, rfl, hW904, hF909, by omega, ((hF905.1 10 rfl).trans (e_at0)), (e906), ((hF905.1 15 rfl).trans (e_op0)), ((hF905.1 31 rfl).trans (e_nd)), ((hF905.1 11 rfl).trans (e_tk0)), by omega, by omega, by omega, by omega, by omega, by omega, by first | exact Or.inl (⟨by omega, by omega, by omega, by omega, by omega, by omega⟩) | exact Or.inr (Or.inl (⟨by omega, by omega, by omega⟩)) | exact Or.inr (Or.inr ((⟨by omega, by omega, by omega⟩)))⟩
                  · have _q := h820
                    exact absurd h820 (by omega)
              · have _q := h302
                exact absurd h302 (by omega)
    · have _q := h8
      exact absurd h8 (by omega)
set_option maxRecDepth 20000 in
set_option maxHeartbeats 4000000 in
theorem c_readRest {X : jX} {k : Nat} (hE : RE X k) {dd : Nat} {c0 c1 : jC} {G : Nat → Int} {A : Nat → Nat → Int} {T : jH} {x : Int} {ln le at0 fk op0 nd tk0 : Int} (hd : 6 * k + 15 ≤ dd) (hW : Wk G A) (e_ln : G 9 = ln) (e_le : A 4 (ln).toNat = le) (e_at0 : G 10 = at0) (e_fk : G 16 = fk) (e_op0 : G 15 = op0) (e_nd : G 31 = nd) (e_tk0 : G 11 = tk0) (h_x : (-2147483648 : Int) ≤ x ∧ x ≤ 2147483647) (p_0 : 0 ≤ op0) (p_1 : op0 ≤ 9) (p_2 : op0 ≤ 8 ∨ 1 ≤ fk) (p_3 : 9 - op0 ≤ ((k + 1 : Nat) : Int) ∨ 1 ≤ fk) (p_4 : nd ≤ 2 * at0 - tz tk0 + 51) (p_5 : at0 ≤ le) (p_6 : nd ≤ 2 * at0 - tz tk0 + 50 ∨ 1 ≤ fk) (p_7 : 0 ≤ x ∧ x ≤ nd) : wk X dd 287 [.ref 66, .int (i32 x)] (rV c0 c1 G A T) (fun o V' => ∃ (G' : Nat → Int) (A' : Nat → Nat → Int) (r : Int) (at2 : Int) (fk2 : Int) (op2 : Int) (nd2 : Int) (tk2 : Int), V' = rV c0 c1 G' A' T ∧ o = .inl (some (.int (i32 r))) ∧ Wk G' A' ∧ Fr [10, 11, 12, 13, 14, 15, 16, 17, 18, 31] [15, 16, 17, 18, 19, 20, 21, 22, 24, 28] G A G' A' ∧ ((-2147483648 : Int) ≤ r ∧ r ≤ 2147483647) ∧ G' 10 = at2 ∧ G' 16 = fk2 ∧ G' 15 = op2 ∧ G' 31 = nd2 ∧ G' 11 = tk2 ∧ (at0 ≤ at2) ∧ (at2 ≤ le) ∧ (nd ≤ nd2) ∧ (op2 = op0) ∧ (0 ≤ r) ∧ (r ≤ nd2) ∧ (((1 ≤ fk) ∧ (1 ≤ fk2) ∧ (nd2 = nd) ∧ (at2 = at0) ∧ (tk2 = tk0) ∧ (tz tk2 = tz tk0)) ∨ ((fk = 0) ∧ (1 ≤ fk2) ∧ (nd2 - nd ≤ (2 * at2 - tz tk2) - (2 * at0 - tz tk0) + 1)) ∨ ((fk = 0) ∧ (fk2 = 0) ∧ (nd2 - nd ≤ (2 * at2 - tz tk2) - (2 * at0 - tz tk0))))) := by
  obtain ⟨d, rfl⟩ : ∃ d, dd = d + 1 := ⟨dd - 1, by omega⟩
  refine wk_of (e := jm287) rfl (Nat.le_of_ble_eq_true rfl) ?_
  show wj X d jm287 (0, [(0, .ref 66), (1, .int (i32 (x)))], [], rV c0 c1 G A T) _
  have hF0 : Fr [10, 11, 12, 13, 14, 15, 16, 17, 18, 31] [15, 16, 17, 18, 19, 20, 21, 22, 24, 28] G A G A := Fr_rf
  have b_ln : (0 : Int) ≤ ln ∧ ln ≤ 3000 := e_ln ▸ hW.1 9
  have b_le : (0 : Int) ≤ le ∧ le ≤ 3000 := e_le ▸ hW.2 4 _
  have b_at0 : (0 : Int) ≤ at0 ∧ at0 ≤ 3002 := e_at0 ▸ hW.1 10
  have b_fk : (0 : Int) ≤ fk ∧ fk ≤ 6 := e_fk ▸ hW.1 16
  have b_op0 : (-2147483648 : Int) ≤ op0 ∧ op0 ≤ 2147483647 := e_op0 ▸ hW.1 15
  have b_nd : (0 : Int) ≤ nd ∧ nd ≤ 6999 := e_nd ▸ hW.1 31
  have z_tk0 := tz_f tk0
  have b_tk0 : (0 : Int) ≤ tk0 ∧ tk0 ≤ 5 := e_tk0 ▸ hW.1 11
  refine jx_ld (pc' := 1) (l' := [(0, .ref 66), (1, .int (i32 (x)))]) (st' := [.ref 66]) rfl (jl_aloadn rfl) ?_
  refine jx_vr (pc' := 4) (as := []) (st := []) rfl rfl rfl rfl ⟨rfl, rfl, Nat.le_of_ble_eq_true rfl⟩ rfl rfl (c_bad (dd := d) (hd := by omega) (hW := hW)  (fk := fk) (e_fk := show G 16 = fk from (e_fk))    ) (fun o V' hq => ?_)
  obtain ⟨r1, rfl, rfl, b2, q3⟩ := hq
  refine .inr ⟨_, rfl, ?_⟩
  rcases q3 with ⟨rfl, a4⟩ | ⟨rfl, a5⟩
  · have _q : True := trivial
    refine jx_if_eq (pc' := 7) (tg := 11) rfl rfl rfl (by omega) (by omega) (fun h6 => ?_) (fun h6 => ?_)
    · have _q := h6
      exact absurd h6 (by omega)
    · have _q := h6
      refine jx_ar (pc' := 8) (st' := [.int (i32 (0))]) rfl rfl rfl rfl ?_
      refine jx_go (tg := 15) rfl rfl ?_
      refine jx_ld (pc' := 16) (l' := jSto1 [(0, .ref 66), (1, .int (i32 (x)))] 2 (.int (i32 (0)))) (st' := []) rfl rfl ?_
      obtain ⟨L7, eL7⟩ : ∃ q, q = jSto1 [(0, .ref 66), (1, .int (i32 (x)))] 2 (.int (i32 (0))) := ⟨_, rfl⟩
      rw [← eL7]
      have gL7_0 : jGet L7 0 = some (.ref 66) := eL7 ▸ jg_ne (by decide) (rfl : jGet [(0, .ref 66), (1, .int (i32 (x)))] 0 = some (.ref 66)) rfl
      have gL7_1 : jGet L7 1 = some (.int (i32 (x))) := eL7 ▸ jg_ne (by decide) (rfl : jGet [(0, .ref 66), (1, .int (i32 (x)))] 1 = some (.int (i32 (x)))) rfl
      have gL7_2 : jGet L7 2 = some (.int (i32 (0))) := eL7 ▸ jg_eq
      refine jx_ld (pc' := 17) (l' := L7) (st' := [.int (i32 (0))]) rfl (jl_iloadn gL7_2) ?_
      refine jx_if_ne (pc' := 20) (tg := 22) rfl rfl rfl (by omega) (by omega) (fun h8 => ?_) (fun h8 => ?_)
      · have _q := h8
        exact absurd h8 (by omega)
      · have _q := h8
        refine jx_ld (pc' := 21) (l' := L7) (st' := [.int (i32 (x))]) rfl (jl_iloadn gL7_1) ?_
        refine jx_rt (v := some (.int (i32 (x)))) rfl rfl rfl rfl rfl rfl ?_
        have z9 := tz_f (tk0)
        exact ⟨_, _, _, at0, fk, op0, nd, tk0, rfl, rfl, hW, hF0, by omega, (e_at0), (e_fk), (e_op0), (e_nd), (e_tk0), by omega, by omega, by omega, by omega, by omega, by omega, by first | exact Or.inl (⟨by omega, by omega, by omega, by omega, by omega, by omega⟩) | exact Or.inr (Or.inl (⟨by omega, by omega, by omega⟩)) | exact Or.inr (Or.inr ((⟨by omega, by omega, by omega⟩)))⟩
  · have _q : True := trivial
    refine jx_if_eq (pc' := 7) (tg := 11) rfl rfl rfl (by omega) (by omega) (fun h10 => ?_) (fun h10 => ?_)
    · have _q := h10
      refine jx_ld (pc' := 12) (l' := [(0, .ref 66), (1, .int (i32 (x)))]) (st' := [.ref 66]) rfl (jl_aloadn rfl) ?_
      have b11 : (-2147483648 : Int) ≤ G 13 ∧ G 13 ≤ 2147483647 := hW.1 13
      refine jx_vr (pc' := 15) (as := []) (st := []) rfl rfl rfl rfl ⟨rfl, rfl, Nat.le_of_ble_eq_true rfl⟩ rfl rfl (c_operationAt (dd := d) (hd := by omega) (hW := hW)  (tk := tk0) (e_tk := show G 11 = tk0 from (e_tk0)) (tn := G 13) (e_tn := show G 13 = G 13 from rfl)    ) (fun o V' hq => ?_)
      obtain ⟨r12, rfl, rfl, b13, q14⟩ := hq
      refine .inr ⟨_, rfl, ?_⟩
      rcases q14 with rfl | a15
      · have _q : True := trivial
        refine jx_ld (pc' := 16) (l' := jSto1 [(0, .ref 66), (1, .int (i32 (x)))] 2 (.int (i32 (0)))) (st' := []) rfl rfl ?_
        obtain ⟨L16, eL16⟩ : ∃ q, q = jSto1 [(0, .ref 66), (1, .int (i32 (x)))] 2 (.int (i32 (0))) := ⟨_, rfl⟩
        rw [← eL16]
        have gL16_0 : jGet L16 0 = some (.ref 66) := eL16 ▸ jg_ne (by decide) (rfl : jGet [(0, .ref 66), (1, .int (i32 (x)))] 0 = some (.ref 66)) rfl
        have gL16_1 : jGet L16 1 = some (.int (i32 (x))) := eL16 ▸ jg_ne (by decide) (rfl : jGet [(0, .ref 66), (1, .int (i32 (x)))] 1 = some (.int (i32 (x)))) rfl
        have gL16_2 : jGet L16 2 = some (.int (i32 (0))) := eL16 ▸ jg_eq
        refine jx_ld (pc' := 17) (l' := L16) (st' := [.int (i32 (0))]) rfl (jl_iloadn gL16_2) ?_
        refine jx_if_ne (pc' := 20) (tg := 22) rfl rfl rfl (by omega) (by omega) (fun h17 => ?_) (fun h17 => ?_)
        · have _q := h17
          exact absurd h17 (by omega)
        · have _q := h17
          refine jx_ld (pc' := 21) (l' := L16) (st' := [.int (i32 (x))]) rfl (jl_iloadn gL16_1) ?_
          refine jx_rt (v := some (.int (i32 (x)))) rfl rfl rfl rfl rfl rfl ?_
          have z18 := tz_f (tk0)
          exact ⟨_, _, _, at0, fk, op0, nd, tk0, rfl, rfl, hW, hF0, by omega, (e_at0), (e_fk), (e_op0), (e_nd), (e_tk0), by omega, by omega, by omega, by omega, by omega, by omega, by first | exact Or.inl (⟨by omega, by omega, by omega, by omega, by omega, by omega⟩) | exact Or.inr (Or.inl (⟨by omega, by omega, by omega⟩)) | exact Or.inr (Or.inr ((⟨by omega, by omega, by omega⟩)))⟩
      · have _q : True := trivial
        refine jx_ld (pc' := 16) (l' := jSto1 [(0, .ref 66), (1, .int (i32 (x)))] 2 (.int (i32 (r12)))) (st' := []) rfl rfl ?_
        obtain ⟨L19, eL19⟩ : ∃ q, q = jSto1 [(0, .ref 66), (1, .int (i32 (x)))] 2 (.int (i32 (r12))) := ⟨_, rfl⟩
        rw [← eL19]
        have gL19_0 : jGet L19 0 = some (.ref 66) := eL19 ▸ jg_ne (by decide) (rfl : jGet [(0, .ref 66), (1, .int (i32 (x)))] 0 = some (.ref 66)) rfl
        have gL19_1 : jGet L19 1 = some (.int (i32 (x))) := eL19 ▸ jg_ne (by decide) (rfl : jGet [(0, .ref 66), (1, .int (i32 (x)))] 1 = some (.int (i32 (x)))) rfl
        have gL19_2 : jGet L19 2 = some (.int (i32 (r12))) := eL19 ▸ jg_eq
        refine jx_ld (pc' := 17) (l' := L19) (st' := [.int (i32 (r12))]) rfl (jl_iloadn gL19_2) ?_
        refine jx_if_ne (pc' := 20) (tg := 22) rfl rfl rfl (by omega) (by omega) (fun h20 => ?_) (fun h20 => ?_)
        · have _q := h20
          refine jx_ld (pc' := 23) (l' := L19) (st' := [.ref 66]) rfl (jl_aloadn gL19_0) ?_
          refine jx_vr (pc' := 26) (as := []) (st := []) rfl rfl rfl rfl ⟨rfl, rfl, Nat.le_of_ble_eq_true rfl⟩ rfl rfl (c_next (dd := d) (hd := by omega) (hW := hW)  (ln := ln) (e_ln := show G 9 = ln from (e_ln)) (le := le) (e_le := show A 4 (ln).toNat = le from (e_le)) (at0 := at0) (e_at0 := show G 10 = at0 from (e_at0))    (p_0 := by omega)) (fun o V' hq => ?_)
          obtain ⟨G21, A22, at2_23, tk2_24, rfl, rfl, hW25, hF26, e27, e28, p29, p30, p31, -⟩ := hq
          have hF33 := Fr_tr hF0 hF26 (Fr_sub (by decide)) (Fr_sub (by decide))
          have bat2_23 : (0 : Int) ≤ at2_23 ∧ at2_23 ≤ 3002 := e27 ▸ hW25.1 10
          have ztk2_24 := tz_b tk2_24
          have btk2_24 : (0 : Int) ≤ tk2_24 ∧ tk2_24 ≤ 5 := e28 ▸ hW25.1 11
          refine .inl ⟨rfl, ?_⟩
          refine jx_ld (pc' := 27) (l' := L19) (st' := [.ref 66]) rfl (jl_aloadn gL19_0) ?_
          refine jx_vr (pc' := 30) (as := []) (st := []) rfl rfl rfl rfl ⟨rfl, rfl, Nat.le_of_ble_eq_true rfl⟩ rfl rfl (c_readOperand (dd := d) (hE := hE) (hd := by omega) (hW := hW25)  (ln := ln) (e_ln := show G21 9 = ln from ((hF26.1 9 rfl).trans (e_ln))) (le := le) (e_le := show A22 4 (ln).toNat = le from (congrFun (hF26.2 4 rfl) _).trans (e_le)) (at0 := at2_23) (e_at0 := show G21 10 = at2_23 from (e27)) (fk := fk) (e_fk := show G21 16 = fk from ((hF26.1 16 rfl).trans (e_fk))) (op0 := op0) (e_op0 := show G21 15 = op0 from ((hF26.1 15 rfl).trans (e_op0))) (nd := nd) (e_nd := show G21 31 = nd from ((hF26.1 31 rfl).trans (e_nd))) (tk0 := tk2_24) (e_tk0 := show G21 11 = tk2_24 from (e28))    (p_0 := by omega) (p_1 := by omega) (p_2 := by omega) (p_3 := by omega) (p_4 := by omega) (p_5 := by omega)) (fun o V' hq => ?_)
          obtain ⟨G34, A35, r36, at2_37, fk2_38, op2_39, nd2_40, tk2_41, rfl, rfl, hW42, hF43, b44, e45, e46, e47, e48, e49, p50, p51, p52, p53, p54, p55, q56⟩ := hq
          have hF57 := Fr_tr hF33 hF43 (Fr_sub (by decide)) (Fr_sub (by decide))
          have bat2_37 : (0 : Int) ≤ at2_37 ∧ at2_37 ≤ 3002 := e45 ▸ hW42.1 10
          have bfk2_38 : (0 : Int) ≤ fk2_38 ∧ fk2_38 ≤ 6 := e46 ▸ hW42.1 16
          have bop2_39 : (-2147483648 : Int) ≤ op2_39 ∧ op2_39 ≤ 2147483647 := e47 ▸ hW42.1 15
          have bnd2_40 : (0 : Int) ≤ nd2_40 ∧ nd2_40 ≤ 6999 := e48 ▸ hW42.1 31
          have ztk2_41 := tz_b tk2_41
          have btk2_41 : (0 : Int) ≤ tk2_41 ∧ tk2_41 ≤ 5 := e49 ▸ hW42.1 11
          refine .inr ⟨_, rfl, ?_⟩
          rcases q56 with ⟨a58, a59, a60, a61, a62, a63⟩ | ⟨a64, a65, a66⟩ | ⟨a67, a68, a69⟩
          · have _q : True := trivial
            exfalso
            omega
          · have _q : True := trivial
            refine jx_ld (pc' := 31) (l' := jSto1 L19 3 (.int (i32 (r36)))) (st' := []) rfl rfl ?_
            obtain ⟨L70, eL70⟩ : ∃ q, q = jSto1 L19 3 (.int (i32 (r36))) := ⟨_, rfl⟩
            rw [← eL70]
            have gL70_0 : jGet L70 0 = some (.ref 66) := eL70 ▸ jg_ne (by decide) gL19_0 rfl
            have gL70_1 : jGet L70 1 = some (.int (i32 (x))) := eL70 ▸ jg_ne (by decide) gL19_1 rfl
            have gL70_2 : jGet L70 2 = some (.int (i32 (r12))) := eL70 ▸ jg_ne (by decide) gL19_2 rfl
            have gL70_3 : jGet L70 3 = some (.int (i32 (r36))) := eL70 ▸ jg_eq
            refine jx_ld (pc' := 32) (l' := L70) (st' := [.ref 66]) rfl (jl_aloadn gL70_0) ?_
            refine jx_ar (pc' := 33) (st' := [.int (i32 (4)), .ref 66]) rfl rfl rfl rfl ?_
            refine jx_ld (pc' := 34) (l' := L70) (st' := [.int (i32 (r12)), .int (i32 (4)), .ref 66]) rfl (jl_iloadn gL70_2) ?_
            refine jx_ld (pc' := 35) (l' := L70) (st' := [.int (i32 (x)), .int (i32 (r12)), .int (i32 (4)), .ref 66]) rfl (jl_iloadn gL70_1) ?_
            refine jx_ld (pc' := 36) (l' := L70) (st' := [.int (i32 (r36)), .int (i32 (x)), .int (i32 (r12)), .int (i32 (4)), .ref 66]) rfl (jl_iloadn gL70_3) ?_
            refine jx_ar (pc' := 37) (st' := [.int (i32 (0)), .int (i32 (r36)), .int (i32 (x)), .int (i32 (r12)), .int (i32 (4)), .ref 66]) rfl rfl rfl rfl ?_
            refine jx_vr (pc' := 40) (as := [.int (i32 (4)), .int (i32 (r12)), .int (i32 (x)), .int (i32 (r36)), .int (i32 (0))]) (st := []) rfl rfl rfl rfl ⟨rfl, rfl, Nat.le_of_ble_eq_true rfl⟩ rfl rfl (c_node (dd := d) (hd := by omega) (hW := hW42) (kind := 4) (a := r12) (b := x) (c := r36) (e := 0) (nd := nd2_40) (e_nd := show G34 31 = nd2_40 from (e48))  (h_kind := by omega) (h_a := by omega) (h_b := by omega) (h_c := by omega) (h_e := by omega)  (p_0 := by omega) (p_1 := by omega)) (fun o V' hq => ?_)
            obtain ⟨G71, A72, r73, nd2_74, rfl, rfl, hW75, hF76, b77, e78, p79, p80, -⟩ := hq
            have hF82 := Fr_tr hF57 hF76 (Fr_sub (by decide)) (Fr_sub (by decide))
            have bnd2_74 : (0 : Int) ≤ nd2_74 ∧ nd2_74 ≤ 6999 := e78 ▸ hW75.1 31
            refine .inr ⟨_, rfl, ?_⟩
            refine jx_rt (v := some (.int (i32 (r73)))) rfl rfl rfl rfl rfl rfl ?_
            have z83 := tz_f (tk2_41)
            exact ⟨_, _, _, at2_37, fk2_38, op2_39, nd2_74, tk2_41, rfl, rfl, hW75, hF82, by omega, ((hF76.1 10 rfl).trans (e45)), ((hF76.1 16 rfl).trans (e46)), ((hF76.1 15 rfl).trans (e47)), (e78), ((hF76.1 11 rfl).trans (e49)), by omega, by omega, by omega, by omega, by omega, by omega, by first | exact Or.inl (⟨by omega, by omega, by omega, by omega, by omega, by omega⟩) | exact Or.inr (Or.inl (⟨by omega, by omega, by omega⟩)) | exact Or.inr (Or.inr ((⟨by omega, by omega, by omega⟩)))⟩
          · have _q : True := trivial
            refine jx_ld (pc' := 31) (l' := jSto1 L19 3 (.int (i32 (r36)))) (st' := []) rfl rfl ?_
            obtain ⟨L84, eL84⟩ : ∃ q, q = jSto1 L19 3 (.int (i32 (r36))) := ⟨_, rfl⟩
            rw [← eL84]
            have gL84_0 : jGet L84 0 = some (.ref 66) := eL84 ▸ jg_ne (by decide) gL19_0 rfl
            have gL84_1 : jGet L84 1 = some (.int (i32 (x))) := eL84 ▸ jg_ne (by decide) gL19_1 rfl
            have gL84_2 : jGet L84 2 = some (.int (i32 (r12))) := eL84 ▸ jg_ne (by decide) gL19_2 rfl
            have gL84_3 : jGet L84 3 = some (.int (i32 (r36))) := eL84 ▸ jg_eq
            refine jx_ld (pc' := 32) (l' := L84) (st' := [.ref 66]) rfl (jl_aloadn gL84_0) ?_
            refine jx_ar (pc' := 33) (st' := [.int (i32 (4)), .ref 66]) rfl rfl rfl rfl ?_
            refine jx_ld (pc' := 34) (l' := L84) (st' := [.int (i32 (r12)), .int (i32 (4)), .ref 66]) rfl (jl_iloadn gL84_2) ?_
            refine jx_ld (pc' := 35) (l' := L84) (st' := [.int (i32 (x)), .int (i32 (r12)), .int (i32 (4)), .ref 66]) rfl (jl_iloadn gL84_1) ?_
            refine jx_ld (pc' := 36) (l' := L84) (st' := [.int (i32 (r36)), .int (i32 (x)), .int (i32 (r12)), .int (i32 (4)), .ref 66]) rfl (jl_iloadn gL84_3) ?_
            refine jx_ar (pc' := 37) (st' := [.int (i32 (0)), .int (i32 (r36)), .int (i32 (x)), .int (i32 (r12)), .int (i32 (4)), .ref 66]) rfl rfl rfl rfl ?_
            refine jx_vr (pc' := 40) (as := [.int (i32 (4)), .int (i32 (r12)), .int (i32 (x)), .int (i32 (r36)), .int (i32 (0))]) (st := []) rfl rfl rfl rfl ⟨rfl, rfl, Nat.le_of_ble_eq_true rfl⟩ rfl rfl (c_node (dd := d) (hd := by omega) (hW := hW42) (kind := 4) (a := r12) (b := x) (c := r36) (e := 0) (nd := nd2_40) (e_nd := show G34 31 = nd2_40 from (e48))  (h_kind := by omega) (h_a := by omega) (h_b := by omega) (h_c := by omega) (h_e := by omega)  (p_0 := by omega) (p_1 := by omega)) (fun o V' hq => ?_)
            obtain ⟨G85, A86, r87, nd2_88, rfl, rfl, hW89, hF90, b91, e92, p93, p94, -⟩ := hq
            have hF96 := Fr_tr hF57 hF90 (Fr_sub (by decide)) (Fr_sub (by decide))
            have bnd2_88 : (0 : Int) ≤ nd2_88 ∧ nd2_88 ≤ 6999 := e92 ▸ hW89.1 31
            refine .inr ⟨_, rfl, ?_⟩
            refine jx_rt (v := some (.int (i32 (r87)))) rfl rfl rfl rfl rfl rfl ?_
            have z97 := tz_f (tk2_41)
            exact ⟨_, _, _, at2_37, fk2_38, op2_39, nd2_88, tk2_41, rfl, rfl, hW89, hF96, by omega, ((hF90.1 10 rfl).trans (e45)), ((hF90.1 16 rfl).trans (e46)), ((hF90.1 15 rfl).trans (e47)), (e92), ((hF90.1 11 rfl).trans (e49)), by omega, by omega, by omega, by omega, by omega, by omega, by first | exact Or.inl (⟨by omega, by omega, by omega, by omega, by omega, by omega⟩) | exact Or.inr (Or.inl (⟨by omega, by omega, by omega⟩)) | exact Or.inr (Or.inr ((⟨by omega, by omega, by omega⟩)))⟩
        · have _q := h20
          refine jx_ld (pc' := 21) (l' := L19) (st' := [.int (i32 (x))]) rfl (jl_iloadn gL19_1) ?_
          refine jx_rt (v := some (.int (i32 (x)))) rfl rfl rfl rfl rfl rfl ?_
          have z98 := tz_f (tk0)
          exact ⟨_, _, _, at0, fk, op0, nd, tk0, rfl, rfl, hW, hF0, by omega, (e_at0), (e_fk), (e_op0), (e_nd), (e_tk0), by omega, by omega, by omega, by omega, by omega, by omega, by first | exact Or.inl (⟨by omega, by omega, by omega, by omega, by omega, by omega⟩) | exact Or.inr (Or.inl (⟨by omega, by omega, by omega⟩)) | exact Or.inr (Or.inr ((⟨by omega, by omega, by omega⟩)))⟩
    · have _q := h10
      exact absurd h10 (by omega)
set_option maxRecDepth 20000 in
set_option maxHeartbeats 4000000 in
theorem c_readE_s {X : jX} {k : Nat} (hE : RE X k) {dd : Nat} {c0 c1 : jC} {G : Nat → Int} {A : Nat → Nat → Int} {T : jH} {ln le at0 fk op0 nd tk0 : Int} (hd : 6 * (k + 1) + 10 ≤ dd) (hW : Wk G A) (e_ln : G 9 = ln) (e_le : A 4 (ln).toNat = le) (e_at0 : G 10 = at0) (e_fk : G 16 = fk) (e_op0 : G 15 = op0) (e_nd : G 31 = nd) (e_tk0 : G 11 = tk0) (p_0 : 0 ≤ op0) (p_1 : op0 ≤ 9) (p_2 : op0 ≤ 8 ∨ 1 ≤ fk) (p_3 : 9 - op0 ≤ ((k + 1 : Nat) : Int) ∨ 1 ≤ fk) (p_4 : nd ≤ 2 * at0 - tz tk0 + 50) (p_5 : at0 ≤ le) : wk X dd 286 [.ref 66] (rV c0 c1 G A T) (fun o V' => ∃ (G' : Nat → Int) (A' : Nat → Nat → Int) (r : Int) (at2 : Int) (fk2 : Int) (op2 : Int) (nd2 : Int) (tk2 : Int), V' = rV c0 c1 G' A' T ∧ o = .inl (some (.int (i32 r))) ∧ Wk G' A' ∧ Fr [10, 11, 12, 13, 14, 15, 16, 17, 18, 31] [15, 16, 17, 18, 19, 20, 21, 22, 24, 28] G A G' A' ∧ ((-2147483648 : Int) ≤ r ∧ r ≤ 2147483647) ∧ G' 10 = at2 ∧ G' 16 = fk2 ∧ G' 15 = op2 ∧ G' 31 = nd2 ∧ G' 11 = tk2 ∧ (at0 ≤ at2) ∧ (at2 ≤ le) ∧ (nd ≤ nd2) ∧ (op2 = op0) ∧ (0 ≤ r) ∧ (r ≤ nd2) ∧ (((1 ≤ fk) ∧ (1 ≤ fk2) ∧ (nd2 = nd) ∧ (at2 = at0) ∧ (tk2 = tk0) ∧ (tz tk2 = tz tk0)) ∨ ((fk = 0) ∧ (1 ≤ fk2) ∧ (nd2 - nd ≤ (2 * at2 - tz tk2) - (2 * at0 - tz tk0) + 1)) ∨ ((fk = 0) ∧ (fk2 = 0) ∧ (nd2 - nd ≤ (2 * at2 - tz tk2) - (2 * at0 - tz tk0))))) := by
  obtain ⟨d, rfl⟩ : ∃ d, dd = d + 1 := ⟨dd - 1, by omega⟩
  refine wk_of (e := jm286) rfl (Nat.le_of_ble_eq_true rfl) ?_
  show wj X d jm286 (0, [(0, .ref 66)], [], rV c0 c1 G A T) _
  have hF0 : Fr [10, 11, 12, 13, 14, 15, 16, 17, 18, 31] [15, 16, 17, 18, 19, 20, 21, 22, 24, 28] G A G A := Fr_rf
  have b_ln : (0 : Int) ≤ ln ∧ ln ≤ 3000 := e_ln ▸ hW.1 9
  have b_le : (0 : Int) ≤ le ∧ le ≤ 3000 := e_le ▸ hW.2 4 _
  have b_at0 : (0 : Int) ≤ at0 ∧ at0 ≤ 3002 := e_at0 ▸ hW.1 10
  have b_fk : (0 : Int) ≤ fk ∧ fk ≤ 6 := e_fk ▸ hW.1 16
  have b_op0 : (-2147483648 : Int) ≤ op0 ∧ op0 ≤ 2147483647 := e_op0 ▸ hW.1 15
  have b_nd : (0 : Int) ≤ nd ∧ nd ≤ 6999 := e_nd ▸ hW.1 31
  have z_tk0 := tz_f tk0
  have b_tk0 : (0 : Int) ≤ tk0 ∧ tk0 ≤ 5 := e_tk0 ▸ hW.1 11
  refine jx_ld (pc' := 1) (l' := [(0, .ref 66)]) (st' := [.ref 66]) rfl (jl_aloadn rfl) ?_
  refine jx_vr (pc' := 4) (as := []) (st := []) rfl rfl rfl rfl ⟨rfl, rfl, Nat.le_of_ble_eq_true rfl⟩ rfl rfl (c_bad (dd := d) (hd := by omega) (hW := hW)  (fk := fk) (e_fk := show G 16 = fk from (e_fk))    ) (fun o V' hq => ?_)
  obtain ⟨r1, rfl, rfl, b2, q3⟩ := hq
  refine .inr ⟨_, rfl, ?_⟩
  rcases q3 with ⟨rfl, a4⟩ | ⟨rfl, a5⟩
  · have _q : True := trivial
    refine jx_if_eq (pc' := 7) (tg := 9) rfl rfl rfl (by omega) (by omega) (fun h6 => ?_) (fun h6 => ?_)
    · have _q := h6
      exact absurd h6 (by omega)
    · have _q := h6
      refine jx_ar (pc' := 8) (st' := [.int (i32 (0))]) rfl rfl rfl rfl ?_
      refine jx_rt (v := some (.int (i32 (0)))) rfl rfl rfl rfl rfl rfl ?_
      have z7 := tz_f (tk0)
      exact ⟨_, _, _, at0, fk, op0, nd, tk0, rfl, rfl, hW, hF0, by omega, (e_at0), (e_fk), (e_op0), (e_nd), (e_tk0), by omega, by omega, by omega, by omega, by omega, by omega, by first | exact Or.inl (⟨by omega, by omega, by omega, by omega, by omega, by omega⟩) | exact Or.inr (Or.inl (⟨by omega, by omega, by omega⟩)) | exact Or.inr (Or.inr ((⟨by omega, by omega, by omega⟩)))⟩
  · have _q : True := trivial
    refine jx_if_eq (pc' := 7) (tg := 9) rfl rfl rfl (by omega) (by omega) (fun h8 => ?_) (fun h8 => ?_)
    · have _q := h8
      refine jx_ld (pc' := 10) (l' := [(0, .ref 66)]) (st' := [.ref 66]) rfl (jl_aloadn rfl) ?_
      refine jx_ar (pc' := 12) (st' := [.int (i32 (45)), .ref 66]) rfl rfl rfl rfl ?_
      have b9 : (-2147483648 : Int) ≤ G 13 ∧ G 13 ≤ 2147483647 := hW.1 13
      refine jx_vr (pc' := 15) (as := [.int (i32 (45))]) (st := []) rfl rfl rfl rfl ⟨rfl, rfl, Nat.le_of_ble_eq_true rfl⟩ rfl rfl (c_is (dd := d) (hd := by omega) (hW := hW) (k := 45) (tk := tk0) (e_tk := show G 11 = tk0 from (e_tk0)) (tn := G 13) (e_tn := show G 13 = G 13 from rfl)  (h_k := by omega)  ) (fun o V' hq => ?_)
      obtain ⟨r10, rfl, rfl, b11, q12⟩ := hq
      refine .inr ⟨_, rfl, ?_⟩
      rcases q12 with ⟨rfl, a13, a14, a15⟩ | rfl
      · have _q : True := trivial
        refine jx_if_ne (pc' := 18) (tg := 27) rfl rfl rfl (by omega) (by omega) (fun h16 => ?_) (fun h16 => ?_)
        · have _q := h16
          refine jx_ld (pc' := 28) (l' := [(0, .ref 66)]) (st' := [.ref 66]) rfl (jl_aloadn rfl) ?_
          refine jx_ar (pc' := 30) (st' := [.int (i32 (45)), .ref 66]) rfl rfl rfl rfl ?_
          refine jx_vr (pc' := 33) (as := [.int (i32 (45))]) (st := []) rfl rfl rfl rfl ⟨rfl, rfl, Nat.le_of_ble_eq_true rfl⟩ rfl rfl (c_is (dd := d) (hd := by omega) (hW := hW) (k := 45) (tk := tk0) (e_tk := show G 11 = tk0 from (e_tk0)) (tn := G 13) (e_tn := show G 13 = G 13 from rfl)  (h_k := by omega)  ) (fun o V' hq => ?_)
          obtain ⟨r17, rfl, rfl, b18, q19⟩ := hq
          refine .inr ⟨_, rfl, ?_⟩
          rcases q19 with ⟨rfl, a20, a21, a22⟩ | rfl
          · have _q : True := trivial
            refine jx_if_eq (pc' := 36) (tg := 40) rfl rfl rfl (by omega) (by omega) (fun h23 => ?_) (fun h23 => ?_)
            · have _q := h23
              exact absurd h23 (by omega)
            · have _q := h23
              refine jx_ar (pc' := 37) (st' := [.int (i32 (5))]) rfl rfl rfl rfl ?_
              refine jx_go (tg := 42) rfl rfl ?_
              refine jx_ld (pc' := 43) (l' := jSto1 [(0, .ref 66)] 1 (.int (i32 (5)))) (st' := []) rfl rfl ?_
              obtain ⟨L24, eL24⟩ : ∃ q, q = jSto1 [(0, .ref 66)] 1 (.int (i32 (5))) := ⟨_, rfl⟩
              rw [← eL24]
              have gL24_0 : jGet L24 0 = some (.ref 66) := eL24 ▸ jg_ne (by decide) (rfl : jGet [(0, .ref 66)] 0 = some (.ref 66)) rfl
              have gL24_1 : jGet L24 1 = some (.int (i32 (5))) := eL24 ▸ jg_eq
              refine jx_ld (pc' := 44) (l' := L24) (st' := [.ref 66]) rfl (jl_aloadn gL24_0) ?_
              refine jx_vr (pc' := 47) (as := []) (st := []) rfl rfl rfl rfl ⟨rfl, rfl, Nat.le_of_ble_eq_true rfl⟩ rfl rfl (c_next (dd := d) (hd := by omega) (hW := hW)  (ln := ln) (e_ln := show G 9 = ln from (e_ln)) (le := le) (e_le := show A 4 (ln).toNat = le from (e_le)) (at0 := at0) (e_at0 := show G 10 = at0 from (e_at0))    (p_0 := by omega)) (fun o V' hq => ?_)
              obtain ⟨G25, A26, at2_27, tk2_28, rfl, rfl, hW29, hF30, e31, e32, p33, p34, p35, -⟩ := hq
              have hF37 := Fr_tr hF0 hF30 (Fr_sub (by decide)) (Fr_sub (by decide))
              have bat2_27 : (0 : Int) ≤ at2_27 ∧ at2_27 ≤ 3002 := e31 ▸ hW29.1 10
              have ztk2_28 := tz_b tk2_28
              have btk2_28 : (0 : Int) ≤ tk2_28 ∧ tk2_28 ≤ 5 := e32 ▸ hW29.1 11
              refine .inl ⟨rfl, ?_⟩
              refine jx_ld (pc' := 48) (l' := L24) (st' := [.ref 66]) rfl (jl_aloadn gL24_0) ?_
              refine jx_vr (pc' := 51) (as := []) (st := []) rfl rfl rfl rfl ⟨rfl, rfl, Nat.le_of_ble_eq_true rfl⟩ rfl rfl (c_readOperand (dd := d) (hE := hE) (hd := by omega) (hW := hW29)  (ln := ln) (e_ln := show G25 9 = ln from ((hF30.1 9 rfl).trans (e_ln))) (le := le) (e_le := show A26 4 (ln).toNat = le from (congrFun (hF30.2 4 rfl) _).trans (e_le)) (at0 := at2_27) (e_at0 := show G25 10 = at2_27 from (e31)) (fk := fk) (e_fk := show G25 16 = fk from ((hF30.1 16 rfl).trans (e_fk))) (op0 := op0) (e_op0 := show G25 15 = op0 from ((hF30.1 15 rfl).trans (e_op0))) (nd := nd) (e_nd := show G25 31 = nd from ((hF30.1 31 rfl).trans (e_nd))) (tk0 := tk2_28) (e_tk0 := show G25 11 = tk2_28 from (e32))    (p_0 := by omega) (p_1 := by omega) (p_2 := by omega) (p_3 := by omega) (p_4 := by omega) (p_5 := by omega)) (fun o V' hq => ?_)
              obtain ⟨G38, A39, r40, at2_41, fk2_42, op2_43, nd2_44, tk2_45, rfl, rfl, hW46, hF47, b48, e49, e50, e51, e52, e53, p54, p55, p56, p57, p58, p59, q60⟩ := hq
              have hF61 := Fr_tr hF37 hF47 (Fr_sub (by decide)) (Fr_sub (by decide))
              have bat2_41 : (0 : Int) ≤ at2_41 ∧ at2_41 ≤ 3002 := e49 ▸ hW46.1 10
              have bfk2_42 : (0 : Int) ≤ fk2_42 ∧ fk2_42 ≤ 6 := e50 ▸ hW46.1 16
              have bop2_43 : (-2147483648 : Int) ≤ op2_43 ∧ op2_43 ≤ 2147483647 := e51 ▸ hW46.1 15
              have bnd2_44 : (0 : Int) ≤ nd2_44 ∧ nd2_44 ≤ 6999 := e52 ▸ hW46.1 31
              have ztk2_45 := tz_b tk2_45
              have btk2_45 : (0 : Int) ≤ tk2_45 ∧ tk2_45 ≤ 5 := e53 ▸ hW46.1 11
              refine .inr ⟨_, rfl, ?_⟩
              rcases q60 with ⟨a62, a63, a64, a65, a66, a67⟩ | ⟨a68, a69, a70⟩ | ⟨a71, a72, a73⟩
              · have _q : True := trivial
                exfalso
                omega
              · have _q : True := trivial
                refine jx_ld (pc' := 52) (l' := jSto1 L24 2 (.int (i32 (r40)))) (st' := []) rfl rfl ?_
                obtain ⟨L74, eL74⟩ : ∃ q, q = jSto1 L24 2 (.int (i32 (r40))) := ⟨_, rfl⟩
                rw [← eL74]
                have gL74_0 : jGet L74 0 = some (.ref 66) := eL74 ▸ jg_ne (by decide) gL24_0 rfl
                have gL74_1 : jGet L74 1 = some (.int (i32 (5))) := eL74 ▸ jg_ne (by decide) gL24_1 rfl
                have gL74_2 : jGet L74 2 = some (.int (i32 (r40))) := eL74 ▸ jg_eq
                refine jx_ld (pc' := 53) (l' := L74) (st' := [.ref 66]) rfl (jl_aloadn gL74_0) ?_
                refine jx_ld (pc' := 54) (l' := L74) (st' := [.int (i32 (5)), .ref 66]) rfl (jl_iloadn gL74_1) ?_
                refine jx_ld (pc' := 55) (l' := L74) (st' := [.int (i32 (r40)), .int (i32 (5)), .ref 66]) rfl (jl_iloadn gL74_2) ?_
                refine jx_ar (pc' := 56) (st' := [.int (i32 (0)), .int (i32 (r40)), .int (i32 (5)), .ref 66]) rfl rfl rfl rfl ?_
                refine jx_ar (pc' := 57) (st' := [.int (i32 (0)), .int (i32 (0)), .int (i32 (r40)), .int (i32 (5)), .ref 66]) rfl rfl rfl rfl ?_
                refine jx_ar (pc' := 58) (st' := [.int (i32 (0)), .int (i32 (0)), .int (i32 (0)), .int (i32 (r40)), .int (i32 (5)), .ref 66]) rfl rfl rfl rfl ?_
                refine jx_vr (pc' := 61) (as := [.int (i32 (5)), .int (i32 (r40)), .int (i32 (0)), .int (i32 (0)), .int (i32 (0))]) (st := []) rfl rfl rfl rfl ⟨rfl, rfl, Nat.le_of_ble_eq_true rfl⟩ rfl rfl (c_node (dd := d) (hd := by omega) (hW := hW46) (kind := 5) (a := r40) (b := 0) (c := 0) (e := 0) (nd := nd2_44) (e_nd := show G38 31 = nd2_44 from (e52))  (h_kind := by omega) (h_a := by omega) (h_b := by omega) (h_c := by omega) (h_e := by omega)  (p_0 := by omega) (p_1 := by omega)) (fun o V' hq => ?_)
                obtain ⟨G75, A76, r77, nd2_78, rfl, rfl, hW79, hF80, b81, e82, p83, p84, -⟩ := hq
                have hF86 := Fr_tr hF61 hF80 (Fr_sub (by decide)) (Fr_sub (by decide))
                have bnd2_78 : (0 : Int) ≤ nd2_78 ∧ nd2_78 ≤ 6999 := e82 ▸ hW79.1 31
                refine .inr ⟨_, rfl, ?_⟩
                refine jx_rt (v := some (.int (i32 (r77)))) rfl rfl rfl rfl rfl rfl ?_
                have z87 := tz_f (tk2_45)
                exact ⟨_, _, _, at2_41, fk2_42, op2_43, nd2_78, tk2_45, rfl, rfl, hW79, hF86, by omega, ((hF80.1 10 rfl).trans (e49)), ((hF80.1 16 rfl).trans (e50)), ((hF80.1 15 rfl).trans (e51)), (e82), ((hF80.1 11 rfl).trans (e53)), by omega, by omega, by omega, by omega, by omega, by omega, by first | exact Or.inl (⟨by omega, by omega, by omega, by omega, by omega, by omega⟩) | exact Or.inr (Or.inl (⟨by omega, by omega, by omega⟩)) | exact Or.inr (Or.inr ((⟨by omega, by omega, by omega⟩)))⟩
              · have _q : True := trivial
                refine jx_ld (pc' := 52) (l' := jSto1 L24 2 (.int (i32 (r40)))) (st' := []) rfl rfl ?_
                obtain ⟨L88, eL88⟩ : ∃ q, q = jSto1 L24 2 (.int (i32 (r40))) := ⟨_, rfl⟩
                rw [← eL88]
                have gL88_0 : jGet L88 0 = some (.ref 66) := eL88 ▸ jg_ne (by decide) gL24_0 rfl
                have gL88_1 : jGet L88 1 = some (.int (i32 (5))) := eL88 ▸ jg_ne (by decide) gL24_1 rfl
                have gL88_2 : jGet L88 2 = some (.int (i32 (r40))) := eL88 ▸ jg_eq
                refine jx_ld (pc' := 53) (l' := L88) (st' := [.ref 66]) rfl (jl_aloadn gL88_0) ?_
                refine jx_ld (pc' := 54) (l' := L88) (st' := [.int (i32 (5)), .ref 66]) rfl (jl_iloadn gL88_1) ?_
                refine jx_ld (pc' := 55) (l' := L88) (st' := [.int (i32 (r40)), .int (i32 (5)), .ref 66]) rfl (jl_iloadn gL88_2) ?_
                refine jx_ar (pc' := 56) (st' := [.int (i32 (0)), .int (i32 (r40)), .int (i32 (5)), .ref 66]) rfl rfl rfl rfl ?_
                refine jx_ar (pc' := 57) (st' := [.int (i32 (0)), .int (i32 (0)), .int (i32 (r40)), .int (i32 (5)), .ref 66]) rfl rfl rfl rfl ?_
                refine jx_ar (pc' := 58) (st' := [.int (i32 (0)), .int (i32 (0)), .int (i32 (0)), .int (i32 (r40)), .int (i32 (5)), .ref 66]) rfl rfl rfl rfl ?_
                refine jx_vr (pc' := 61) (as := [.int (i32 (5)), .int (i32 (r40)), .int (i32 (0)), .int (i32 (0)), .int (i32 (0))]) (st := []) rfl rfl rfl rfl ⟨rfl, rfl, Nat.le_of_ble_eq_true rfl⟩ rfl rfl (c_node (dd := d) (hd := by omega) (hW := hW46) (kind := 5) (a := r40) (b := 0) (c := 0) (e := 0) (nd := nd2_44) (e_nd := show G38 31 = nd2_44 from (e52))  (h_kind := by omega) (h_a := by omega) (h_b := by omega) (h_c := by omega) (h_e := by omega)  (p_0 := by omega) (p_1 := by omega)) (fun o V' hq => ?_)
                obtain ⟨G89, A90, r91, nd2_92, rfl, rfl, hW93, hF94, b95, e96, p97, p98, -⟩ := hq
                have hF100 := Fr_tr hF61 hF94 (Fr_sub (by decide)) (Fr_sub (by decide))
                have bnd2_92 : (0 : Int) ≤ nd2_92 ∧ nd2_92 ≤ 6999 := e96 ▸ hW93.1 31
                refine .inr ⟨_, rfl, ?_⟩
                refine jx_rt (v := some (.int (i32 (r91)))) rfl rfl rfl rfl rfl rfl ?_
                have z101 := tz_f (tk2_45)
                exact ⟨_, _, _, at2_41, fk2_42, op2_43, nd2_92, tk2_45, rfl, rfl, hW93, hF100, by omega, ((hF94.1 10 rfl).trans (e49)), ((hF94.1 16 rfl).trans (e50)), ((hF94.1 15 rfl).trans (e51)), (e96), ((hF94.1 11 rfl).trans (e53)), by omega, by omega, by omega, by omega, by omega, by omega, by first | exact Or.inl (⟨by omega, by omega, by omega, by omega, by omega, by omega⟩) | exact Or.inr (Or.inl (⟨by omega, by omega, by omega⟩)) | exact Or.inr (Or.inr ((⟨by omega, by omega, by omega⟩)))⟩
          · have _q : True := trivial
            refine jx_if_eq (pc' := 36) (tg := 40) rfl rfl rfl (by omega) (by omega) (fun h102 => ?_) (fun h102 => ?_)
            · have _q := h102
              refine jx_ar (pc' := 42) (st' := [.int (i32 (6))]) rfl rfl rfl rfl ?_
              refine jx_ld (pc' := 43) (l' := jSto1 [(0, .ref 66)] 1 (.int (i32 (6)))) (st' := []) rfl rfl ?_
              obtain ⟨L103, eL103⟩ : ∃ q, q = jSto1 [(0, .ref 66)] 1 (.int (i32 (6))) := ⟨_, rfl⟩
              rw [← eL103]
              have gL103_0 : jGet L103 0 = some (.ref 66) := eL103 ▸ jg_ne (by decide) (rfl : jGet [(0, .ref 66)] 0 = some (.ref 66)) rfl
              have gL103_1 : jGet L103 1 = some (.int (i32 (6))) := eL103 ▸ jg_eq
              refine jx_ld (pc' := 44) (l' := L103) (st' := [.ref 66]) rfl (jl_aloadn gL103_0) ?_
              refine jx_vr (pc' := 47) (as := []) (st := []) rfl rfl rfl rfl ⟨rfl, rfl, Nat.le_of_ble_eq_true rfl⟩ rfl rfl (c_next (dd := d) (hd := by omega) (hW := hW)  (ln := ln) (e_ln := show G 9 = ln from (e_ln)) (le := le) (e_le := show A 4 (ln).toNat = le from (e_le)) (at0 := at0) (e_at0 := show G 10 = at0 from (e_at0))    (p_0 := by omega)) (fun o V' hq => ?_)
              obtain ⟨G104, A105, at2_106, tk2_107, rfl, rfl, hW108, hF109, e110, e111, p112, p113, p114, -⟩ := hq
              have hF116 := Fr_tr hF0 hF109 (Fr_sub (by decide)) (Fr_sub (by decide))
              have bat2_106 : (0 : Int) ≤ at2_106 ∧ at2_106 ≤ 3002 := e110 ▸ hW108.1 10
              have ztk2_107 := tz_b tk2_107
              have btk2_107 : (0 : Int) ≤ tk2_107 ∧ tk2_107 ≤ 5 := e111 ▸ hW108.1 11
              refine .inl ⟨rfl, ?_⟩
              refine jx_ld (pc' := 48) (l' := L103) (st' := [.ref 66]) rfl (jl_aloadn gL103_0) ?_
              refine jx_vr (pc' := 51) (as := []) (st := []) rfl rfl rfl rfl ⟨rfl, rfl, Nat.le_of_ble_eq_true rfl⟩ rfl rfl (c_readOperand (dd := d) (hE := hE) (hd := by omega) (hW := hW108)  (ln := ln) (e_ln := show G104 9 = ln from ((hF109.1 9 rfl).trans (e_ln))) (le := le) (e_le := show A105 4 (ln).toNat = le from (congrFun (hF109.2 4 rfl) _).trans (e_le)) (at0 := at2_106) (e_at0 := show G104 10 = at2_106 from (e110)) (fk := fk) (e_fk := show G104 16 = fk from ((hF109.1 16 rfl).trans (e_fk))) (op0 := op0) (e_op0 := show G104 15 = op0 from ((hF109.1 15 rfl).trans (e_op0))) (nd := nd) (e_nd := show G104 31 = nd from ((hF109.1 31 rfl).trans (e_nd))) (tk0 := tk2_107) (e_tk0 := show G104 11 = tk2_107 from (e111))    (p_0 := by omega) (p_1 := by omega) (p_2 := by omega) (p_3 := by omega) (p_4 := by omega) (p_5 := by omega)) (fun o V' hq => ?_)
              obtain ⟨G117, A118, r119, at2_120, fk2_121, op2_122, nd2_123, tk2_124, rfl, rfl, hW125, hF126, b127, e128, e129, e130, e131, e132, p133, p134, p135, p136, p137, p138, q139⟩ := hq
              have hF140 := Fr_tr hF116 hF126 (Fr_sub (by decide)) (Fr_sub (by decide))
              have bat2_120 : (0 : Int) ≤ at2_120 ∧ at2_120 ≤ 3002 := e128 ▸ hW125.1 10
              have bfk2_121 : (0 : Int) ≤ fk2_121 ∧ fk2_121 ≤ 6 := e129 ▸ hW125.1 16
              have bop2_122 : (-2147483648 : Int) ≤ op2_122 ∧ op2_122 ≤ 2147483647 := e130 ▸ hW125.1 15
              have bnd2_123 : (0 : Int) ≤ nd2_123 ∧ nd2_123 ≤ 6999 := e131 ▸ hW125.1 31
              have ztk2_124 := tz_b tk2_124
              have btk2_124 : (0 : Int) ≤ tk2_124 ∧ tk2_124 ≤ 5 := e132 ▸ hW125.1 11
              refine .inr ⟨_, rfl, ?_⟩
              rcases q139 with ⟨a141, a142, a143, a144, a145, a146⟩ | ⟨a147, a148, a149⟩ | ⟨a150, a151, a152⟩
              · have _q : True := trivial
                exfalso
                omega
              · have _q : True := trivial
                refine jx_ld (pc' := 52) (l' := jSto1 L103 2 (.int (i32 (r119)))) (st' := []) rfl rfl ?_
                obtain ⟨L153, eL153⟩ : ∃ q, q = jSto1 L103 2 (.int (i32 (r119))) := ⟨_, rfl⟩
                rw [← eL153]
                have gL153_0 : jGet L153 0 = some (.ref 66) := eL153 ▸ jg_ne (by decide) gL103_0 rfl
                have gL153_1 : jGet L153 1 = some (.int (i32 (6))) := eL153 ▸ jg_ne (by decide) gL103_1 rfl
                have gL153_2 : jGet L153 2 = some (.int (i32 (r119))) := eL153 ▸ jg_eq
                refine jx_ld (pc' := 53) (l' := L153) (st' := [.ref 66]) rfl (jl_aloadn gL153_0) ?_
                refine jx_ld (pc' := 54) (l' := L153) (st' := [.int (i32 (6)), .ref 66]) rfl (jl_iloadn gL153_1) ?_
                refine jx_ld (pc' := 55) (l' := L153) (st' := [.int (i32 (r119)), .int (i32 (6)), .ref 66]) rfl (jl_iloadn gL153_2) ?_
                refine jx_ar (pc' := 56) (st' := [.int (i32 (0)), .int (i32 (r119)), .int (i32 (6)), .ref 66]) rfl rfl rfl rfl ?_
                refine jx_ar (pc' := 57) (st' := [.int (i32 (0)), .int (i32 (0)), .int (i32 (r119)), .int (i32 (6)), .ref 66]) rfl rfl rfl rfl ?_
                refine jx_ar (pc' := 58) (st' := [.int (i32 (0)), .int (i32 (0)), .int (i32 (0)), .int (i32 (r119)), .int (i32 (6)), .ref 66]) rfl rfl rfl rfl ?_
                refine jx_vr (pc' := 61) (as := [.int (i32 (6)), .int (i32 (r119)), .int (i32 (0)), .int (i32 (0)), .int (i32 (0))]) (st := []) rfl rfl rfl rfl ⟨rfl, rfl, Nat.le_of_ble_eq_true rfl⟩ rfl rfl (c_node (dd := d) (hd := by omega) (hW := hW125) (kind := 6) (a := r119) (b := 0) (c := 0) (e := 0) (nd := nd2_123) (e_nd := show G117 31 = nd2_123 from (e131))  (h_kind := by omega) (h_a := by omega) (h_b := by omega) (h_c := by omega) (h_e := by omega)  (p_0 := by omega) (p_1 := by omega)) (fun o V' hq => ?_)
                obtain ⟨G154, A155, r156, nd2_157, rfl, rfl, hW158, hF159, b160, e161, p162, p163, -⟩ := hq
                have hF165 := Fr_tr hF140 hF159 (Fr_sub (by decide)) (Fr_sub (by decide))
                have bnd2_157 : (0 : Int) ≤ nd2_157 ∧ nd2_157 ≤ 6999 := e161 ▸ hW158.1 31
                refine .inr ⟨_, rfl, ?_⟩
                refine jx_rt (v := some (.int (i32 (r156)))) rfl rfl rfl rfl rfl rfl ?_
                have z166 := tz_f (tk2_124)
                exact ⟨_, _, _, at2_120, fk2_121, op2_122, nd2_157, tk2_124, rfl, rfl, hW158, hF165, by omega, ((hF159.1 10 rfl).trans (e128)), ((hF159.1 16 rfl).trans (e129)), ((hF159.1 15 rfl).trans (e130)), (e161), ((hF159.1 11 rfl).trans (e132)), by omega, by omega, by omega, by omega, by omega, by omega, by first | exact Or.inl (⟨by omega, by omega, by omega, by omega, by omega, by omega⟩) | exact Or.inr (Or.inl (⟨by omega, by omega, by omega⟩)) | exact Or.inr (Or.inr ((⟨by omega, by omega, by omega⟩)))⟩
              · have _q : True := trivial
                refine jx_ld (pc' := 52) (l' := jSto1 L103 2 (.int (i32 (r119)))) (st' := []) rfl rfl ?_
                obtain ⟨L167, eL167⟩ : ∃ q, q = jSto1 L103 2 (.int (i32 (r119))) := ⟨_, rfl⟩
                rw [← eL167]
                have gL167_0 : jGet L167 0 = some (.ref 66) := eL167 ▸ jg_ne (by decide) gL103_0 rfl
                have gL167_1 : jGet L167 1 = some (.int (i32 (6))) := eL167 ▸ jg_ne (by decide) gL103_1 rfl
                have gL167_2 : jGet L167 2 = some (.int (i32 (r119))) := eL167 ▸ jg_eq
                refine jx_ld (pc' := 53) (l' := L167) (st' := [.ref 66]) rfl (jl_aloadn gL167_0) ?_
                refine jx_ld (pc' := 54) (l' := L167) (st' := [.int (i32 (6)), .ref 66]) rfl (jl_iloadn gL167_1) ?_
                refine jx_ld (pc' := 55) (l' := L167) (st' := [.int (i32 (r119)), .int (i32 (6)), .ref 66]) rfl (jl_iloadn gL167_2) ?_
                refine jx_ar (pc' := 56) (st' := [.int (i32 (0)), .int (i32 (r119)), .int (i32 (6)), .ref 66]) rfl rfl rfl rfl ?_
                refine jx_ar (pc' := 57) (st' := [.int (i32 (0)), .int (i32 (0)), .int (i32 (r119)), .int (i32 (6)), .ref 66]) rfl rfl rfl rfl ?_
                refine jx_ar (pc' := 58) (st' := [.int (i32 (0)), .int (i32 (0)), .int (i32 (0)), .int (i32 (r119)), .int (i32 (6)), .ref 66]) rfl rfl rfl rfl ?_
                refine jx_vr (pc' := 61) (as := [.int (i32 (6)), .int (i32 (r119)), .int (i32 (0)), .int (i32 (0)), .int (i32 (0))]) (st := []) rfl rfl rfl rfl ⟨rfl, rfl, Nat.le_of_ble_eq_true rfl⟩ rfl rfl (c_node (dd := d) (hd := by omega) (hW := hW125) (kind := 6) (a := r119) (b := 0) (c := 0) (e := 0) (nd := nd2_123) (e_nd := show G117 31 = nd2_123 from (e131))  (h_kind := by omega) (h_a := by omega) (h_b := by omega) (h_c := by omega) (h_e := by omega)  (p_0 := by omega) (p_1 := by omega)) (fun o V' hq => ?_)
                obtain ⟨G168, A169, r170, nd2_171, rfl, rfl, hW172, hF173, b174, e175, p176, p177, -⟩ := hq
                have hF179 := Fr_tr hF140 hF173 (Fr_sub (by decide)) (Fr_sub (by decide))
                have bnd2_171 : (0 : Int) ≤ nd2_171 ∧ nd2_171 ≤ 6999 := e175 ▸ hW172.1 31
                refine .inr ⟨_, rfl, ?_⟩
                refine jx_rt (v := some (.int (i32 (r170)))) rfl rfl rfl rfl rfl rfl ?_
                have z180 := tz_f (tk2_124)
                exact ⟨_, _, _, at2_120, fk2_121, op2_122, nd2_171, tk2_124, rfl, rfl, hW172, hF179, by omega, ((hF173.1 10 rfl).trans (e128)), ((hF173.1 16 rfl).trans (e129)), ((hF173.1 15 rfl).trans (e130)), (e175), ((hF173.1 11 rfl).trans (e132)), by omega, by omega, by omega, by omega, by omega, by omega, by first | exact Or.inl (⟨by omega, by omega, by omega, by omega, by omega, by omega⟩) | exact Or.inr (Or.inl (⟨by omega, by omega, by omega⟩)) | exact Or.inr (Or.inr ((⟨by omega, by omega, by omega⟩)))⟩
            · have _q := h102
              exact absurd h102 (by omega)
        · have _q := h16
          exact absurd h16 (by omega)
      · have _q : True := trivial
        refine jx_if_ne (pc' := 18) (tg := 27) rfl rfl rfl (by omega) (by omega) (fun h181 => ?_) (fun h181 => ?_)
        · have _q := h181
          exact absurd h181 (by omega)
        · have _q := h181
          refine jx_ld (pc' := 19) (l' := [(0, .ref 66)]) (st' := [.ref 66]) rfl (jl_aloadn rfl) ?_
          refine jx_ar (pc' := 21) (st' := [.int (i32 (16)), .ref 66]) rfl rfl rfl rfl ?_
          refine jx_vr (pc' := 24) (as := [.int (i32 (16))]) (st := []) rfl rfl rfl rfl ⟨rfl, rfl, Nat.le_of_ble_eq_true rfl⟩ rfl rfl (c_isKey (dd := d) (hd := by omega) (hW := hW) (k := 16) (tk := tk0) (e_tk := show G 11 = tk0 from (e_tk0)) (tn := G 13) (e_tn := show G 13 = G 13 from rfl)  (h_k := by omega)  ) (fun o V' hq => ?_)
          obtain ⟨r182, rfl, rfl, b183, q184⟩ := hq
          refine .inr ⟨_, rfl, ?_⟩
          rcases q184 with ⟨rfl, a185, a186, a187⟩ | rfl
          · have _q : True := trivial
            refine jx_if_eq (pc' := 27) (tg := 62) rfl rfl rfl (by omega) (by omega) (fun h188 => ?_) (fun h188 => ?_)
            · have _q := h188
              exact absurd h188 (by omega)
            · have _q := h188
              refine jx_ld (pc' := 28) (l' := [(0, .ref 66)]) (st' := [.ref 66]) rfl (jl_aloadn rfl) ?_
              refine jx_ar (pc' := 30) (st' := [.int (i32 (45)), .ref 66]) rfl rfl rfl rfl ?_
              refine jx_vr (pc' := 33) (as := [.int (i32 (45))]) (st := []) rfl rfl rfl rfl ⟨rfl, rfl, Nat.le_of_ble_eq_true rfl⟩ rfl rfl (c_is (dd := d) (hd := by omega) (hW := hW) (k := 45) (tk := tk0) (e_tk := show G 11 = tk0 from (e_tk0)) (tn := G 13) (e_tn := show G 13 = G 13 from rfl)  (h_k := by omega)  ) (fun o V' hq => ?_)
              obtain ⟨r189, rfl, rfl, b190, q191⟩ := hq
              refine .inr ⟨_, rfl, ?_⟩
              rcases q191 with ⟨rfl, a192, a193, a194⟩ | rfl
              · have _q : True := trivial
                refine jx_if_eq (pc' := 36) (tg := 40) rfl rfl rfl (by omega) (by omega) (fun h195 => ?_) (fun h195 => ?_)
                · have _q := h195
                  exact absurd h195 (by omega)
                · have _q := h195
                  refine jx_ar (pc' := 37) (st' := [.int (i32 (5))]) rfl rfl rfl rfl ?_
                  refine jx_go (tg := 42) rfl rfl ?_
                  refine jx_ld (pc' := 43) (l' := jSto1 [(0, .ref 66)] 1 (.int (i32 (5)))) (st' := []) rfl rfl ?_
                  obtain ⟨L196, eL196⟩ : ∃ q, q = jSto1 [(0, .ref 66)] 1 (.int (i32 (5))) := ⟨_, rfl⟩
                  rw [← eL196]
                  have gL196_0 : jGet L196 0 = some (.ref 66) := eL196 ▸ jg_ne (by decide) (rfl : jGet [(0, .ref 66)] 0 = some (.ref 66)) rfl
                  have gL196_1 : jGet L196 1 = some (.int (i32 (5))) := eL196 ▸ jg_eq
                  refine jx_ld (pc' := 44) (l' := L196) (st' := [.ref 66]) rfl (jl_aloadn gL196_0) ?_
                  refine jx_vr (pc' := 47) (as := []) (st := []) rfl rfl rfl rfl ⟨rfl, rfl, Nat.le_of_ble_eq_true rfl⟩ rfl rfl (c_next (dd := d) (hd := by omega) (hW := hW)  (ln := ln) (e_ln := show G 9 = ln from (e_ln)) (le := le) (e_le := show A 4 (ln).toNat = le from (e_le)) (at0 := at0) (e_at0 := show G 10 = at0 from (e_at0))    (p_0 := by omega)) (fun o V' hq => ?_)
                  obtain ⟨G197, A198, at2_199, tk2_200, rfl, rfl, hW201, hF202, e203, e204, p205, p206, p207, -⟩ := hq
                  have hF209 := Fr_tr hF0 hF202 (Fr_sub (by decide)) (Fr_sub (by decide))
                  have bat2_199 : (0 : Int) ≤ at2_199 ∧ at2_199 ≤ 3002 := e203 ▸ hW201.1 10
                  have ztk2_200 := tz_b tk2_200
                  have btk2_200 : (0 : Int) ≤ tk2_200 ∧ tk2_200 ≤ 5 := e204 ▸ hW201.1 11
                  refine .inl ⟨rfl, ?_⟩
                  refine jx_ld (pc' := 48) (l' := L196) (st' := [.ref 66]) rfl (jl_aloadn gL196_0) ?_
                  refine jx_vr (pc' := 51) (as := []) (st := []) rfl rfl rfl rfl ⟨rfl, rfl, Nat.le_of_ble_eq_true rfl⟩ rfl rfl (c_readOperand (dd := d) (hE := hE) (hd := by omega) (hW := hW201)  (ln := ln) (e_ln := show G197 9 = ln from ((hF202.1 9 rfl).trans (e_ln))) (le := le) (e_le := show A198 4 (ln).toNat = le from (congrFun (hF202.2 4 rfl) _).trans (e_le)) (at0 := at2_199) (e_at0 := show G197 10 = at2_199 from (e203)) (fk := fk) (e_fk := show G197 16 = fk from ((hF202.1 16 rfl).trans (e_fk))) (op0 := op0) (e_op0 := show G197 15 = op0 from ((hF202.1 15 rfl).trans (e_op0))) (nd := nd) (e_nd := show G197 31 = nd from ((hF202.1 31 rfl).trans (e_nd))) (tk0 := tk2_200) (e_tk0 := show G197 11 = tk2_200 from (e204))    (p_0 := by omega) (p_1 := by omega) (p_2 := by omega) (p_3 := by omega) (p_4 := by omega) (p_5 := by omega)) (fun o V' hq => ?_)
                  obtain ⟨G210, A211, r212, at2_213, fk2_214, op2_215, nd2_216, tk2_217, rfl, rfl, hW218, hF219, b220, e221, e222, e223, e224, e225, p226, p227, p228, p229, p230, p231, q232⟩ := hq
                  have hF233 := Fr_tr hF209 hF219 (Fr_sub (by decide)) (Fr_sub (by decide))
                  have bat2_213 : (0 : Int) ≤ at2_213 ∧ at2_213 ≤ 3002 := e221 ▸ hW218.1 10
                  have bfk2_214 : (0 : Int) ≤ fk2_214 ∧ fk2_214 ≤ 6 := e222 ▸ hW218.1 16
                  have bop2_215 : (-2147483648 : Int) ≤ op2_215 ∧ op2_215 ≤ 2147483647 := e223 ▸ hW218.1 15
                  have bnd2_216 : (0 : Int) ≤ nd2_216 ∧ nd2_216 ≤ 6999 := e224 ▸ hW218.1 31
                  have ztk2_217 := tz_b tk2_217
                  have btk2_217 : (0 : Int) ≤ tk2_217 ∧ tk2_217 ≤ 5 := e225 ▸ hW218.1 11
                  refine .inr ⟨_, rfl, ?_⟩
                  rcases q232 with ⟨a234, a235, a236, a237, a238, a239⟩ | ⟨a240, a241, a242⟩ | ⟨a243, a244, a245⟩
                  · have _q : True := trivial
                    exfalso
                    omega
                  · have _q : True := trivial
                    refine jx_ld (pc' := 52) (l' := jSto1 L196 2 (.int (i32 (r212)))) (st' := []) rfl rfl ?_
                    obtain ⟨L246, eL246⟩ : ∃ q, q = jSto1 L196 2 (.int (i32 (r212))) := ⟨_, rfl⟩
                    rw [← eL246]
                    have gL246_0 : jGet L246 0 = some (.ref 66) := eL246 ▸ jg_ne (by decide) gL196_0 rfl
                    have gL246_1 : jGet L246 1 = some (.int (i32 (5))) := eL246 ▸ jg_ne (by decide) gL196_1 rfl
                    have gL246_2 : jGet L246 2 = some (.int (i32 (r212))) := eL246 ▸ jg_eq
                    refine jx_ld (pc' := 53) (l' := L246) (st' := [.ref 66]) rfl (jl_aloadn gL246_0) ?_
                    refine jx_ld (pc' := 54) (l' := L246) (st' := [.int (i32 (5)), .ref 66]) rfl (jl_iloadn gL246_1) ?_
                    refine jx_ld (pc' := 55) (l' := L246) (st' := [.int (i32 (r212)), .int (i32 (5)), .ref 66]) rfl (jl_iloadn gL246_2) ?_
                    refine jx_ar (pc' := 56) (st' := [.int (i32 (0)), .int (i32 (r212)), .int (i32 (5)), .ref 66]) rfl rfl rfl rfl ?_
                    refine jx_ar (pc' := 57) (st' := [.int (i32 (0)), .int (i32 (0)), .int (i32 (r212)), .int (i32 (5)), .ref 66]) rfl rfl rfl rfl ?_
                    refine jx_ar (pc' := 58) (st' := [.int (i32 (0)), .int (i32 (0)), .int (i32 (0)), .int (i32 (r212)), .int (i32 (5)), .ref 66]) rfl rfl rfl rfl ?_
                    refine jx_vr (pc' := 61) (as := [.int (i32 (5)), .int (i32 (r212)), .int (i32 (0)), .int (i32 (0)), .int (i32 (0))]) (st := []) rfl rfl rfl rfl ⟨rfl, rfl, Nat.le_of_ble_eq_true rfl⟩ rfl rfl (c_node (dd := d) (hd := by omega) (hW := hW218) (kind := 5) (a := r212) (b := 0) (c := 0) (e := 0) (nd := nd2_216) (e_nd := show G210 31 = nd2_216 from (e224))  (h_kind := by omega) (h_a := by omega) (h_b := by omega) (h_c := by omega) (h_e := by omega)  (p_0 := by omega) (p_1 := by omega)) (fun o V' hq => ?_)
                    obtain ⟨G247, A248, r249, nd2_250, rfl, rfl, hW251, hF252, b253, e254, p255, p256, -⟩ := hq
                    have hF258 := Fr_tr hF233 hF252 (Fr_sub (by decide)) (Fr_sub (by decide))
                    have bnd2_250 : (0 : Int) ≤ nd2_250 ∧ nd2_250 ≤ 6999 := e254 ▸ hW251.1 31
                    refine .inr ⟨_, rfl, ?_⟩
                    refine jx_rt (v := some (.int (i32 (r249)))) rfl rfl rfl rfl rfl rfl ?_
                    have z259 := tz_f (tk2_217)
                    exact ⟨_, _, _, at2_213, fk2_214, op2_215, nd2_250, tk2_217, rfl, rfl, hW251, hF258, by omega, ((hF252.1 10 rfl).trans (e221)), ((hF252.1 16 rfl).trans (e222)), ((hF252.1 15 rfl).trans (e223)), (e254), ((hF252.1 11 rfl).trans (e225)), by omega, by omega, by omega, by omega, by omega, by omega, by first | exact Or.inl (⟨by omega, by omega, by omega, by omega, by omega, by omega⟩) | exact Or.inr (Or.inl (⟨by omega, by omega, by omega⟩)) | exact Or.inr (Or.inr ((⟨by omega, by omega, by omega⟩)))⟩
                  · have _q : True := trivial
                    refine jx_ld (pc' := 52) (l' := jSto1 L196 2 (.int (i32 (r212)))) (st' := []) rfl rfl ?_
                    obtain ⟨L260, eL260⟩ : ∃ q, q = jSto1 L196 2 (.int (i32 (r212))) := ⟨_, rfl⟩
                    rw [← eL260]
                    have gL260_0 : jGet L260 0 = some (.ref 66) := eL260 ▸ jg_ne (by decide) gL196_0 rfl
                    have gL260_1 : jGet L260 1 = some (.int (i32 (5))) := eL260 ▸ jg_ne (by decide) gL196_1 rfl
                    have gL260_2 : jGet L260 2 = some (.int (i32 (r212))) := eL260 ▸ jg_eq
                    refine jx_ld (pc' := 53) (l' := L260) (st' := [.ref 66]) rfl (jl_aloadn gL260_0) ?_
                    refine jx_ld (pc' := 54) (l' := L260) (st' := [.int (i32 (5)), .ref 66]) rfl (jl_iloadn gL260_1) ?_
                    refine jx_ld (pc' := 55) (l' := L260) (st' := [.int (i32 (r212)), .int (i32 (5)), .ref 66]) rfl (jl_iloadn gL260_2) ?_
                    refine jx_ar (pc' := 56) (st' := [.int (i32 (0)), .int (i32 (r212)), .int (i32 (5)), .ref 66]) rfl rfl rfl rfl ?_
                    refine jx_ar (pc' := 57) (st' := [.int (i32 (0)), .int (i32 (0)), .int (i32 (r212)), .int (i32 (5)), .ref 66]) rfl rfl rfl rfl ?_
                    refine jx_ar (pc' := 58) (st' := [.int (i32 (0)), .int (i32 (0)), .int (i32 (0)), .int (i32 (r212)), .int (i32 (5)), .ref 66]) rfl rfl rfl rfl ?_
                    refine jx_vr (pc' := 61) (as := [.int (i32 (5)), .int (i32 (r212)), .int (i32 (0)), .int (i32 (0)), .int (i32 (0))]) (st := []) rfl rfl rfl rfl ⟨rfl, rfl, Nat.le_of_ble_eq_true rfl⟩ rfl rfl (c_node (dd := d) (hd := by omega) (hW := hW218) (kind := 5) (a := r212) (b := 0) (c := 0) (e := 0) (nd := nd2_216) (e_nd := show G210 31 = nd2_216 from (e224))  (h_kind := by omega) (h_a := by omega) (h_b := by omega) (h_c := by omega) (h_e := by omega)  (p_0 := by omega) (p_1 := by omega)) (fun o V' hq => ?_)
                    obtain ⟨G261, A262, r263, nd2_264, rfl, rfl, hW265, hF266, b267, e268, p269, p270, -⟩ := hq
                    have hF272 := Fr_tr hF233 hF266 (Fr_sub (by decide)) (Fr_sub (by decide))
                    have bnd2_264 : (0 : Int) ≤ nd2_264 ∧ nd2_264 ≤ 6999 := e268 ▸ hW265.1 31
                    refine .inr ⟨_, rfl, ?_⟩
                    refine jx_rt (v := some (.int (i32 (r263)))) rfl rfl rfl rfl rfl rfl ?_
                    have z273 := tz_f (tk2_217)
                    exact ⟨_, _, _, at2_213, fk2_214, op2_215, nd2_264, tk2_217, rfl, rfl, hW265, hF272, by omega, ((hF266.1 10 rfl).trans (e221)), ((hF266.1 16 rfl).trans (e222)), ((hF266.1 15 rfl).trans (e223)), (e268), ((hF266.1 11 rfl).trans (e225)), by omega, by omega, by omega, by omega, by omega, by omega, by first | exact Or.inl (⟨by omega, by omega, by omega, by omega, by omega, by omega⟩) | exact Or.inr (Or.inl (⟨by omega, by omega, by omega⟩)) | exact Or.inr (Or.inr ((⟨by omega, by omega, by omega⟩)))⟩
              · have _q : True := trivial
                refine jx_if_eq (pc' := 36) (tg := 40) rfl rfl rfl (by omega) (by omega) (fun h274 => ?_) (fun h274 => ?_)
                · have _q := h274
                  refine jx_ar (pc' := 42) (st' := [.int (i32 (6))]) rfl rfl rfl rfl ?_
                  refine jx_ld (pc' := 43) (l' := jSto1 [(0, .ref 66)] 1 (.int (i32 (6)))) (st' := []) rfl rfl ?_
                  obtain ⟨L275, eL275⟩ : ∃ q, q = jSto1 [(0, .ref 66)] 1 (.int (i32 (6))) := ⟨_, rfl⟩
                  rw [← eL275]
                  have gL275_0 : jGet L275 0 = some (.ref 66) := eL275 ▸ jg_ne (by decide) (rfl : jGet [(0, .ref 66)] 0 = some (.ref 66)) rfl
                  have gL275_1 : jGet L275 1 = some (.int (i32 (6))) := eL275 ▸ jg_eq
                  refine jx_ld (pc' := 44) (l' := L275) (st' := [.ref 66]) rfl (jl_aloadn gL275_0) ?_
                  refine jx_vr (pc' := 47) (as := []) (st := []) rfl rfl rfl rfl ⟨rfl, rfl, Nat.le_of_ble_eq_true rfl⟩ rfl rfl (c_next (dd := d) (hd := by omega) (hW := hW)  (ln := ln) (e_ln := show G 9 = ln from (e_ln)) (le := le) (e_le := show A 4 (ln).toNat = le from (e_le)) (at0 := at0) (e_at0 := show G 10 = at0 from (e_at0))    (p_0 := by omega)) (fun o V' hq => ?_)
                  obtain ⟨G276, A277, at2_278, tk2_279, rfl, rfl, hW280, hF281, e282, e283, p284, p285, p286, -⟩ := hq
                  have hF288 := Fr_tr hF0 hF281 (Fr_sub (by decide)) (Fr_sub (by decide))
                  have bat2_278 : (0 : Int) ≤ at2_278 ∧ at2_278 ≤ 3002 := e282 ▸ hW280.1 10
                  have ztk2_279 := tz_b tk2_279
                  have btk2_279 : (0 : Int) ≤ tk2_279 ∧ tk2_279 ≤ 5 := e283 ▸ hW280.1 11
                  refine .inl ⟨rfl, ?_⟩
                  refine jx_ld (pc' := 48) (l' := L275) (st' := [.ref 66]) rfl (jl_aloadn gL275_0) ?_
                  refine jx_vr (pc' := 51) (as := []) (st := []) rfl rfl rfl rfl ⟨rfl, rfl, Nat.le_of_ble_eq_true rfl⟩ rfl rfl (c_readOperand (dd := d) (hE := hE) (hd := by omega) (hW := hW280)  (ln := ln) (e_ln := show G276 9 = ln from ((hF281.1 9 rfl).trans (e_ln))) (le := le) (e_le := show A277 4 (ln).toNat = le from (congrFun (hF281.2 4 rfl) _).trans (e_le)) (at0 := at2_278) (e_at0 := show G276 10 = at2_278 from (e282)) (fk := fk) (e_fk := show G276 16 = fk from ((hF281.1 16 rfl).trans (e_fk))) (op0 := op0) (e_op0 := show G276 15 = op0 from ((hF281.1 15 rfl).trans (e_op0))) (nd := nd) (e_nd := show G276 31 = nd from ((hF281.1 31 rfl).trans (e_nd))) (tk0 := tk2_279) (e_tk0 := show G276 11 = tk2_279 from (e283))    (p_0 := by omega) (p_1 := by omega) (p_2 := by omega) (p_3 := by omega) (p_4 := by omega) (p_5 := by omega)) (fun o V' hq => ?_)
                  obtain ⟨G289, A290, r291, at2_292, fk2_293, op2_294, nd2_295, tk2_296, rfl, rfl, hW297, hF298, b299, e300, e301, e302, e303, e304, p305, p306, p307, p308, p309, p310, q311⟩ := hq
                  have hF312 := Fr_tr hF288 hF298 (Fr_sub (by decide)) (Fr_sub (by decide))
                  have bat2_292 : (0 : Int) ≤ at2_292 ∧ at2_292 ≤ 3002 := e300 ▸ hW297.1 10
                  have bfk2_293 : (0 : Int) ≤ fk2_293 ∧ fk2_293 ≤ 6 := e301 ▸ hW297.1 16
                  have bop2_294 : (-2147483648 : Int) ≤ op2_294 ∧ op2_294 ≤ 2147483647 := e302 ▸ hW297.1 15
                  have bnd2_295 : (0 : Int) ≤ nd2_295 ∧ nd2_295 ≤ 6999 := e303 ▸ hW297.1 31
                  have ztk2_296 := tz_b tk2_296
                  have btk2_296 : (0 : Int) ≤ tk2_296 ∧ tk2_296 ≤ 5 := e304 ▸ hW297.1 11
                  refine .inr ⟨_, rfl, ?_⟩
                  rcases q311 with ⟨a313, a314, a315, a316, a317, a318⟩ | ⟨a319, a320, a321⟩ | ⟨a322, a323, a324⟩
                  · have _q : True := trivial
                    exfalso
                    omega
                  · have _q : True := trivial
                    refine jx_ld (pc' := 52) (l' := jSto1 L275 2 (.int (i32 (r291)))) (st' := []) rfl rfl ?_
                    obtain ⟨L325, eL325⟩ : ∃ q, q = jSto1 L275 2 (.int (i32 (r291))) := ⟨_, rfl⟩
                    rw [← eL325]
                    have gL325_0 : jGet L325 0 = some (.ref 66) := eL325 ▸ jg_ne (by decide) gL275_0 rfl
                    have gL325_1 : jGet L325 1 = some (.int (i32 (6))) := eL325 ▸ jg_ne (by decide) gL275_1 rfl
                    have gL325_2 : jGet L325 2 = some (.int (i32 (r291))) := eL325 ▸ jg_eq
                    refine jx_ld (pc' := 53) (l' := L325) (st' := [.ref 66]) rfl (jl_aloadn gL325_0) ?_
                    refine jx_ld (pc' := 54) (l' := L325) (st' := [.int (i32 (6)), .ref 66]) rfl (jl_iloadn gL325_1) ?_
                    refine jx_ld (pc' := 55) (l' := L325) (st' := [.int (i32 (r291)), .int (i32 (6)), .ref 66]) rfl (jl_iloadn gL325_2) ?_
                    refine jx_ar (pc' := 56) (st' := [.int (i32 (0)), .int (i32 (r291)), .int (i32 (6)), .ref 66]) rfl rfl rfl rfl ?_
                    refine jx_ar (pc' := 57) (st' := [.int (i32 (0)), .int (i32 (0)), .int (i32 (r291)), .int (i32 (6)), .ref 66]) rfl rfl rfl rfl ?_
                    refine jx_ar (pc' := 58) (st' := [.int (i32 (0)), .int (i32 (0)), .int (i32 (0)), .int (i32 (r291)), .int (i32 (6)), .ref 66]) rfl rfl rfl rfl ?_
                    refine jx_vr (pc' := 61) (as := [.int (i32 (6)), .int (i32 (r291)), .int (i32 (0)), .int (i32 (0)), .int (i32 (0))]) (st := []) rfl rfl rfl rfl ⟨rfl, rfl, Nat.le_of_ble_eq_true rfl⟩ rfl rfl (c_node (dd := d) (hd := by omega) (hW := hW297) (kind := 6) (a := r291) (b := 0) (c := 0) (e := 0) (nd := nd2_295) (e_nd := show G289 31 = nd2_295 from (e303))  (h_kind := by omega) (h_a := by omega) (h_b := by omega) (h_c := by omega) (h_e := by omega)  (p_0 := by omega) (p_1 := by omega)) (fun o V' hq => ?_)
                    obtain ⟨G326, A327, r328, nd2_329, rfl, rfl, hW330, hF331, b332, e333, p334, p335, -⟩ := hq
                    have hF337 := Fr_tr hF312 hF331 (Fr_sub (by decide)) (Fr_sub (by decide))
                    have bnd2_329 : (0 : Int) ≤ nd2_329 ∧ nd2_329 ≤ 6999 := e333 ▸ hW330.1 31
                    refine .inr ⟨_, rfl, ?_⟩
                    refine jx_rt (v := some (.int (i32 (r328)))) rfl rfl rfl rfl rfl rfl ?_
                    have z338 := tz_f (tk2_296)
                    exact ⟨_, _, _, at2_292, fk2_293, op2_294, nd2_329, tk2_296, rfl, rfl, hW330, hF337, by omega, ((hF331.1 10 rfl).trans (e300)), ((hF331.1 16 rfl).trans (e301)), ((hF331.1 15 rfl).trans (e302)), (e333), ((hF331.1 11 rfl).trans (e304)), by omega, by omega, by omega, by omega, by omega, by omega, by first | exact Or.inl (⟨by omega, by omega, by omega, by omega, by omega, by omega⟩) | exact Or.inr (Or.inl (⟨by omega, by omega, by omega⟩)) | exact Or.inr (Or.inr ((⟨by omega, by omega, by omega⟩)))⟩
                  · have _q : True := trivial
                    refine jx_ld (pc' := 52) (l' := jSto1 L275 2 (.int (i32 (r291)))) (st' := []) rfl rfl ?_
                    obtain ⟨L339, eL339⟩ : ∃ q, q = jSto1 L275 2 (.int (i32 (r291))) := ⟨_, rfl⟩
                    rw [← eL339]
                    have gL339_0 : jGet L339 0 = some (.ref 66) := eL339 ▸ jg_ne (by decide) gL275_0 rfl
                    have gL339_1 : jGet L339 1 = some (.int (i32 (6))) := eL339 ▸ jg_ne (by decide) gL275_1 rfl
                    have gL339_2 : jGet L339 2 = some (.int (i32 (r291))) := eL339 ▸ jg_eq
                    refine jx_ld (pc' := 53) (l' := L339) (st' := [.ref 66]) rfl (jl_aloadn gL339_0) ?_
                    refine jx_ld (pc' := 54) (l' := L339) (st' := [.int (i32 (6)), .ref 66]) rfl (jl_iloadn gL339_1) ?_
                    refine jx_ld (pc' := 55) (l' := L339) (st' := [.int (i32 (r291)), .int (i32 (6)), .ref 66]) rfl (jl_iloadn gL339_2) ?_
                    refine jx_ar (pc' := 56) (st' := [.int (i32 (0)), .int (i32 (r291)), .int (i32 (6)), .ref 66]) rfl rfl rfl rfl ?_
                    refine jx_ar (pc' := 57) (st' := [.int (i32 (0)), .int (i32 (0)), .int (i32 (r291)), .int (i32 (6)), .ref 66]) rfl rfl rfl rfl ?_
                    refine jx_ar (pc' := 58) (st' := [.int (i32 (0)), .int (i32 (0)), .int (i32 (0)), .int (i32 (r291)), .int (i32 (6)), .ref 66]) rfl rfl rfl rfl ?_
                    refine jx_vr (pc' := 61) (as := [.int (i32 (6)), .int (i32 (r291)), .int (i32 (0)), .int (i32 (0)), .int (i32 (0))]) (st := []) rfl rfl rfl rfl ⟨rfl, rfl, Nat.le_of_ble_eq_true rfl⟩ rfl rfl (c_node (dd := d) (hd := by omega) (hW := hW297) (kind := 6) (a := r291) (b := 0) (c := 0) (e := 0) (nd := nd2_295) (e_nd := show G289 31 = nd2_295 from (e303))  (h_kind := by omega) (h_a := by omega) (h_b := by omega) (h_c := by omega) (h_e := by omega)  (p_0 := by omega) (p_1 := by omega)) (fun o V' hq => ?_)
                    obtain ⟨G340, A341, r342, nd2_343, rfl, rfl, hW344, hF345, b346, e347, p348, p349, -⟩ := hq
                    have hF351 := Fr_tr hF312 hF345 (Fr_sub (by decide)) (Fr_sub (by decide))
                    have bnd2_343 : (0 : Int) ≤ nd2_343 ∧ nd2_343 ≤ 6999 := e347 ▸ hW344.1 31
                    refine .inr ⟨_, rfl, ?_⟩
                    refine jx_rt (v := some (.int (i32 (r342)))) rfl rfl rfl rfl rfl rfl ?_
                    have z352 := tz_f (tk2_296)
                    exact ⟨_, _, _, at2_292, fk2_293, op2_294, nd2_343, tk2_296, rfl, rfl, hW344, hF351, by omega, ((hF345.1 10 rfl).trans (e300)), ((hF345.1 16 rfl).trans (e301)), ((hF345.1 15 rfl).trans (e302)), (e347), ((hF345.1 11 rfl).trans (e304)), by omega, by omega, by omega, by omega, by omega, by omega, by first | exact Or.inl (⟨by omega, by omega, by omega, by omega, by omega, by omega⟩) | exact Or.inr (Or.inl (⟨by omega, by omega, by omega⟩)) | exact Or.inr (Or.inr ((⟨by omega, by omega, by omega⟩)))⟩
                · have _q := h274
                  exact absurd h274 (by omega)
          · have _q : True := trivial
            refine jx_if_eq (pc' := 27) (tg := 62) rfl rfl rfl (by omega) (by omega) (fun h353 => ?_) (fun h353 => ?_)
            · have _q := h353
              refine jx_ld (pc' := 63) (l' := [(0, .ref 66)]) (st' := [.ref 66]) rfl (jl_aloadn rfl) ?_
              refine jx_ld (pc' := 64) (l' := [(0, .ref 66)]) (st' := [.ref 66, .ref 66]) rfl (jl_aloadn rfl) ?_
              refine jx_vr (pc' := 67) (as := []) (st := [.ref 66]) rfl rfl rfl rfl ⟨rfl, rfl, Nat.le_of_ble_eq_true rfl⟩ rfl rfl (c_readOperand (dd := d) (hE := hE) (hd := by omega) (hW := hW)  (ln := ln) (e_ln := show G 9 = ln from (e_ln)) (le := le) (e_le := show A 4 (ln).toNat = le from (e_le)) (at0 := at0) (e_at0 := show G 10 = at0 from (e_at0)) (fk := fk) (e_fk := show G 16 = fk from (e_fk)) (op0 := op0) (e_op0 := show G 15 = op0 from (e_op0)) (nd := nd) (e_nd := show G 31 = nd from (e_nd)) (tk0 := tk0) (e_tk0 := show G 11 = tk0 from (e_tk0))    (p_0 := by omega) (p_1 := by omega) (p_2 := by omega) (p_3 := by omega) (p_4 := by omega) (p_5 := by omega)) (fun o V' hq => ?_)
              obtain ⟨G354, A355, r356, at2_357, fk2_358, op2_359, nd2_360, tk2_361, rfl, rfl, hW362, hF363, b364, e365, e366, e367, e368, e369, p370, p371, p372, p373, p374, p375, q376⟩ := hq
              have hF377 := Fr_tr hF0 hF363 (Fr_sub (by decide)) (Fr_sub (by decide))
              have bat2_357 : (0 : Int) ≤ at2_357 ∧ at2_357 ≤ 3002 := e365 ▸ hW362.1 10
              have bfk2_358 : (0 : Int) ≤ fk2_358 ∧ fk2_358 ≤ 6 := e366 ▸ hW362.1 16
              have bop2_359 : (-2147483648 : Int) ≤ op2_359 ∧ op2_359 ≤ 2147483647 := e367 ▸ hW362.1 15
              have bnd2_360 : (0 : Int) ≤ nd2_360 ∧ nd2_360 ≤ 6999 := e368 ▸ hW362.1 31
              have ztk2_361 := tz_b tk2_361
              have btk2_361 : (0 : Int) ≤ tk2_361 ∧ tk2_361 ≤ 5 := e369 ▸ hW362.1 11
              refine .inr ⟨_, rfl, ?_⟩
              rcases q376 with ⟨a378, a379, a380, a381, a382, a383⟩ | ⟨a384, a385, a386⟩ | ⟨a387, a388, a389⟩
              · have _q : True := trivial
                exfalso
                omega
              · have _q : True := trivial
                refine jx_vr (pc' := 70) (as := [.int (i32 (r356))]) (st := []) rfl rfl rfl rfl ⟨rfl, rfl, Nat.le_of_ble_eq_true rfl⟩ rfl rfl (c_readRest (dd := d) (hE := hE) (hd := by omega) (hW := hW362) (x := r356) (ln := ln) (e_ln := show G354 9 = ln from ((hF363.1 9 rfl).trans (e_ln))) (le := le) (e_le := show A355 4 (ln).toNat = le from (congrFun (hF363.2 4 rfl) _).trans (e_le)) (at0 := at2_357) (e_at0 := show G354 10 = at2_357 from (e365)) (fk := fk2_358) (e_fk := show G354 16 = fk2_358 from (e366)) (op0 := op2_359) (e_op0 := show G354 15 = op2_359 from (e367)) (nd := nd2_360) (e_nd := show G354 31 = nd2_360 from (e368)) (tk0 := tk2_361) (e_tk0 := show G354 11 = tk2_361 from (e369))  (h_x := by omega)  (p_0 := by omega) (p_1 := by omega) (p_2 := by omega) (p_3 := by omega) (p_4 := by omega) (p_5 := by omega) (p_6 := by omega) (p_7 := by omega)) (fun o V' hq => ?_)
                obtain ⟨G390, A391, r392, at2_393, fk2_394, op2_395, nd2_396, tk2_397, rfl, rfl, hW398, hF399, b400, e401, e402, e403, e404, e405, p406, p407, p408, p409, p410, p411, q412⟩ := hq
                have hF413 := Fr_tr hF377 hF399 (Fr_sub (by decide)) (Fr_sub (by decide))
                have bat2_393 : (0 : Int) ≤ at2_393 ∧ at2_393 ≤ 3002 := e401 ▸ hW398.1 10
                have bfk2_394 : (0 : Int) ≤ fk2_394 ∧ fk2_394 ≤ 6 := e402 ▸ hW398.1 16
                have bop2_395 : (-2147483648 : Int) ≤ op2_395 ∧ op2_395 ≤ 2147483647 := e403 ▸ hW398.1 15
                have bnd2_396 : (0 : Int) ≤ nd2_396 ∧ nd2_396 ≤ 6999 := e404 ▸ hW398.1 31
                have ztk2_397 := tz_b tk2_397
                have btk2_397 : (0 : Int) ≤ tk2_397 ∧ tk2_397 ≤ 5 := e405 ▸ hW398.1 11
                refine .inr ⟨_, rfl, ?_⟩
                rcases q412 with ⟨a414, a415, a416, a417, a418, a419⟩ | ⟨a420, a421, a422⟩ | ⟨a423, a424, a425⟩
                · have _q : True := trivial
                  refine jx_rt (v := some (.int (i32 (r392)))) rfl rfl rfl rfl rfl rfl ?_
                  have z426 := tz_f (tk2_397)
                  exact ⟨_, _, _, at2_393, fk2_394, op2_395, nd2_396, tk2_397, rfl, rfl, hW398, hF413, by omega, (e401), (e402), (e403), (e404), (e405), by omega, by omega, by omega, by omega, by omega, by omega, by first | exact Or.inl (⟨by omega, by omega, by omega, by omega, by omega, by omega⟩) | exact Or.inr (Or.inl (⟨by omega, by omega, by omega⟩)) | exact Or.inr (Or.inr ((⟨by omega, by omega, by omega⟩)))⟩
                · have _q : True := trivial
                  exfalso
                  omega
                · have _q : True := trivial
                  exfalso
                  omega
              · have _q : True := trivial
                refine jx_vr (pc' := 70) (as := [.int (i32 (r356))]) (st := []) rfl rfl rfl rfl ⟨rfl, rfl, Nat.le_of_ble_eq_true rfl⟩ rfl rfl (c_readRest (dd := d) (hE := hE) (hd := by omega) (hW := hW362) (x := r356) (ln := ln) (e_ln := show G354 9 = ln from ((hF363.1 9 rfl).trans (e_ln))) (le := le) (e_le := show A355 4 (ln).toNat = le from (congrFun (hF363.2 4 rfl) _).trans (e_le)) (at0 := at2_357) (e_at0 := show G354 10 = at2_357 from (e365)) (fk := fk2_358) (e_fk := show G354 16 = fk2_358 from (e366)) (op0 := op2_359) (e_op0 := show G354 15 = op2_359 from (e367)) (nd := nd2_360) (e_nd := show G354 31 = nd2_360 from (e368)) (tk0 := tk2_361) (e_tk0 := show G354 11 = tk2_361 from (e369))  (h_x := by omega)  (p_0 := by omega) (p_1 := by omega) (p_2 := by omega) (p_3 := by omega) (p_4 := by omega) (p_5 := by omega) (p_6 := by omega) (p_7 := by omega)) (fun o V' hq => ?_)
                obtain ⟨G427, A428, r429, at2_430, fk2_431, op2_432, nd2_433, tk2_434, rfl, rfl, hW435, hF436, b437, e438, e439, e440, e441, e442, p443, p444, p445, p446, p447, p448, q449⟩ := hq
                have hF450 := Fr_tr hF377 hF436 (Fr_sub (by decide)) (Fr_sub (by decide))
                have bat2_430 : (0 : Int) ≤ at2_430 ∧ at2_430 ≤ 3002 := e438 ▸ hW435.1 10
                have bfk2_431 : (0 : Int) ≤ fk2_431 ∧ fk2_431 ≤ 6 := e439 ▸ hW435.1 16
                have bop2_432 : (-2147483648 : Int) ≤ op2_432 ∧ op2_432 ≤ 2147483647 := e440 ▸ hW435.1 15
                have bnd2_433 : (0 : Int) ≤ nd2_433 ∧ nd2_433 ≤ 6999 := e441 ▸ hW435.1 31
                have ztk2_434 := tz_b tk2_434
                have btk2_434 : (0 : Int) ≤ tk2_434 ∧ tk2_434 ≤ 5 := e442 ▸ hW435.1 11
                refine .inr ⟨_, rfl, ?_⟩
                rcases q449 with ⟨a451, a452, a453, a454, a455, a456⟩ | ⟨a457, a458, a459⟩ | ⟨a460, a461, a462⟩
                · have _q : True := trivial
                  exfalso
                  omega
                · have _q : True := trivial
                  refine jx_rt (v := some (.int (i32 (r429)))) rfl rfl rfl rfl rfl rfl ?_
                  have z463 := tz_f (tk2_434)
                  exact ⟨_, _, _, at2_430, fk2_431, op2_432, nd2_433, tk2_434, rfl, rfl, hW435, hF450, by omega, (e438), (e439), (e440), (e441), (e442), by omega, by omega, by omega, by omega, by omega, by omega, by first | exact Or.inl (⟨by omega, by omega, by omega, by omega, by omega, by omega⟩) | exact Or.inr (Or.inl (⟨by omega, by omega, by omega⟩)) | exact Or.inr (Or.inr ((⟨by omega, by omega, by omega⟩)))⟩
                · have _q : True := trivial
                  refine jx_rt (v := some (.int (i32 (r429)))) rfl rfl rfl rfl rfl rfl ?_
                  have z464 := tz_f (tk2_434)
                  exact ⟨_, _, _, at2_430, fk2_431, op2_432, nd2_433, tk2_434, rfl, rfl, hW435, hF450, by omega, (e438), (e439), (e440), (e441), (e442), by omega, by omega, by omega, by omega, by omega, by omega, by first | exact Or.inl (⟨by omega, by omega, by omega, by omega, by omega, by omega⟩) | exact Or.inr (Or.inl (⟨by omega, by omega, by omega⟩)) | exact Or.inr (Or.inr ((⟨by omega, by omega, by omega⟩)))⟩
            · have _q := h353
              exact absurd h353 (by omega)
    · have _q := h8
      exact absurd h8 (by omega)
set_option maxRecDepth 20000 in
set_option maxHeartbeats 4000000 in
theorem c_readE_0 {X : jX} {dd : Nat} {c0 c1 : jC} {G : Nat → Int} {A : Nat → Nat → Int} {T : jH} {ln le at0 fk op0 nd tk0 : Int} (hd : 6 * 0 + 10 ≤ dd) (hW : Wk G A) (e_ln : G 9 = ln) (e_le : A 4 (ln).toNat = le) (e_at0 : G 10 = at0) (e_fk : G 16 = fk) (e_op0 : G 15 = op0) (e_nd : G 31 = nd) (e_tk0 : G 11 = tk0) (p_0 : 0 ≤ op0) (p_1 : op0 ≤ 9) (p_2 : op0 ≤ 8 ∨ 1 ≤ fk) (p_3 : 9 - op0 ≤ ((0 : Nat) : Int) ∨ 1 ≤ fk) (p_4 : nd ≤ 2 * at0 - tz tk0 + 50) (p_5 : at0 ≤ le) : wk X dd 286 [.ref 66] (rV c0 c1 G A T) (fun o V' => ∃ (G' : Nat → Int) (A' : Nat → Nat → Int) (r : Int) (at2 : Int) (fk2 : Int) (op2 : Int) (nd2 : Int) (tk2 : Int), V' = rV c0 c1 G' A' T ∧ o = .inl (some (.int (i32 r))) ∧ Wk G' A' ∧ Fr [10, 11, 12, 13, 14, 15, 16, 17, 18, 31] [15, 16, 17, 18, 19, 20, 21, 22, 24, 28] G A G' A' ∧ ((-2147483648 : Int) ≤ r ∧ r ≤ 2147483647) ∧ G' 10 = at2 ∧ G' 16 = fk2 ∧ G' 15 = op2 ∧ G' 31 = nd2 ∧ G' 11 = tk2 ∧ (at0 ≤ at2) ∧ (at2 ≤ le) ∧ (nd ≤ nd2) ∧ (op2 = op0) ∧ (0 ≤ r) ∧ (r ≤ nd2) ∧ (((1 ≤ fk) ∧ (1 ≤ fk2) ∧ (nd2 = nd) ∧ (at2 = at0) ∧ (tk2 = tk0) ∧ (tz tk2 = tz tk0)) ∨ ((fk = 0) ∧ (1 ≤ fk2) ∧ (nd2 - nd ≤ (2 * at2 - tz tk2) - (2 * at0 - tz tk0) + 1)) ∨ ((fk = 0) ∧ (fk2 = 0) ∧ (nd2 - nd ≤ (2 * at2 - tz tk2) - (2 * at0 - tz tk0))))) := by
  obtain ⟨d, rfl⟩ : ∃ d, dd = d + 1 := ⟨dd - 1, by omega⟩
  refine wk_of (e := jm286) rfl (Nat.le_of_ble_eq_true rfl) ?_
  show wj X d jm286 (0, [(0, .ref 66)], [], rV c0 c1 G A T) _
  have hF0 : Fr [10, 11, 12, 13, 14, 15, 16, 17, 18, 31] [15, 16, 17, 18, 19, 20, 21, 22, 24, 28] G A G A := Fr_rf
  have b_ln : (0 : Int) ≤ ln ∧ ln ≤ 3000 := e_ln ▸ hW.1 9
  have b_le : (0 : Int) ≤ le ∧ le ≤ 3000 := e_le ▸ hW.2 4 _
  have b_at0 : (0 : Int) ≤ at0 ∧ at0 ≤ 3002 := e_at0 ▸ hW.1 10
  have b_fk : (0 : Int) ≤ fk ∧ fk ≤ 6 := e_fk ▸ hW.1 16
  have b_op0 : (-2147483648 : Int) ≤ op0 ∧ op0 ≤ 2147483647 := e_op0 ▸ hW.1 15
  have b_nd : (0 : Int) ≤ nd ∧ nd ≤ 6999 := e_nd ▸ hW.1 31
  have z_tk0 := tz_f tk0
  have b_tk0 : (0 : Int) ≤ tk0 ∧ tk0 ≤ 5 := e_tk0 ▸ hW.1 11
  refine jx_ld (pc' := 1) (l' := [(0, .ref 66)]) (st' := [.ref 66]) rfl (jl_aloadn rfl) ?_
  refine jx_vr (pc' := 4) (as := []) (st := []) rfl rfl rfl rfl ⟨rfl, rfl, Nat.le_of_ble_eq_true rfl⟩ rfl rfl (c_bad (dd := d) (hd := by omega) (hW := hW)  (fk := fk) (e_fk := show G 16 = fk from (e_fk))    ) (fun o V' hq => ?_)
  obtain ⟨r1, rfl, rfl, b2, q3⟩ := hq
  refine .inr ⟨_, rfl, ?_⟩
  rcases q3 with ⟨rfl, a4⟩ | ⟨rfl, a5⟩
  · have _q : True := trivial
    refine jx_if_eq (pc' := 7) (tg := 9) rfl rfl rfl (by omega) (by omega) (fun h6 => ?_) (fun h6 => ?_)
    · have _q := h6
      exact absurd h6 (by omega)
    · have _q := h6
      refine jx_ar (pc' := 8) (st' := [.int (i32 (0))]) rfl rfl rfl rfl ?_
      refine jx_rt (v := some (.int (i32 (0)))) rfl rfl rfl rfl rfl rfl ?_
      have z7 := tz_f (tk0)
      exact ⟨_, _, _, at0, fk, op0, nd, tk0, rfl, rfl, hW, hF0, by omega, (e_at0), (e_fk), (e_op0), (e_nd), (e_tk0), by omega, by omega, by omega, by omega, by omega, by omega, by first | exact Or.inl (⟨by omega, by omega, by omega, by omega, by omega, by omega⟩) | exact Or.inr (Or.inl (⟨by omega, by omega, by omega⟩)) | exact Or.inr (Or.inr ((⟨by omega, by omega, by omega⟩)))⟩
  · have _q : True := trivial
    refine jx_if_eq (pc' := 7) (tg := 9) rfl rfl rfl (by omega) (by omega) (fun h8 => ?_) (fun h8 => ?_)
    · have _q := h8
      exfalso
      omega
    · have _q := h8
      exact absurd h8 (by omega)
theorem RE_all (X : jX) : ∀ k, RE X k
  | 0 => @c_readE_0 X
  | k + 1 => @c_readE_s X k (RE_all X k)

