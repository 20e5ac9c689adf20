set_option maxRecDepth 20000 in
set_option maxHeartbeats 4000000 in
theorem c_readPlaced {X : jX} {dd : Nat} {c0 c1 : jC} {G : Nat → Int} {A : Nat → Nat → Int} {T : jH} {ln li at0 fk nd sy na vi le op0 tk0 : Int} (hd : 8 * 18 + 81 ≤ dd) (hW : Wk G A) (e_ln : G 9 = ln) (e_li : G 3 = li) (e_at0 : G 10 = at0) (e_fk : G 16 = fk) (e_nd : G 31 = nd) (e_sy : G 19 = sy) (e_na : G 28 = na) (e_vi : G 29 = vi) (e_le : A 4 (ln).toNat = le) (e_op0 : G 15 = op0) (e_tk0 : G 11 = tk0) (i_LT : LT G A) (p_0 : fk = 0) (p_1 : ln < li) (p_2 : at0 ≤ le) (p_3 : nd ≤ 2 * at0 - tz tk0 + 30) (p_4 : sy ≤ na + 2) (p_5 : vi ≤ sy) : wk X dd 311 [.ref 66] (rV c0 c1 G A T) (fun o V' => ∃ (G' : Nat → Int) (A' : Nat → Nat → Int) (ln2 : Int) (at2 : Int) (fk2 : Int) (nd2 : Int) (sy2 : Int) (na2 : Int) (vi2 : Int) (lf2 : Int), V' = rV c0 c1 G' A' T ∧ o = .inl none ∧ Wk G' A' ∧ Fr [9, 10, 11, 12, 13, 14, 15, 16, 17, 18, 19, 28, 29, 31] [6, 7, 8, 9, 10, 11, 12, 14, 15, 16, 17, 18, 19, 20, 21, 22, 23, 24, 28, 36] G A G' A' ∧ G' 9 = ln2 ∧ G' 10 = at2 ∧ G' 16 = fk2 ∧ G' 31 = nd2 ∧ G' 19 = sy2 ∧ G' 28 = na2 ∧ G' 29 = vi2 ∧ A' 3 (ln2).toNat = lf2 ∧ (sy2 ≤ na2 + 2) ∧ (vi2 ≤ sy2) ∧ (ln ≤ ln2) ∧ (ln2 ≤ li) ∧ (((1 ≤ fk2)) ∨ ((fk2 = 0)))) := by
  obtain ⟨d, rfl⟩ : ∃ d, dd = d + 1 := ⟨dd - 1, by omega⟩
  refine wk_of (e := jm311) rfl (Nat.le_of_ble_eq_true rfl) ?_
  show wj X d jm311 (0, [(0, .ref 66)], [], rV c0 c1 G A T) _
  have hF0 : Fr [9, 10, 11, 12, 13, 14, 15, 16, 17, 18, 19, 28, 29, 31] [6, 7, 8, 9, 10, 11, 12, 14, 15, 16, 17, 18, 19, 20, 21, 22, 23, 24, 28, 36] G A G A := Fr_rf
  have b_ln : (0 : Int) ≤ ln ∧ ln ≤ 3000 := e_ln ▸ hW.1 9
  have b_li : (0 : Int) ≤ li ∧ li ≤ 3000 := e_li ▸ hW.1 3
  have b_at0 : (0 : Int) ≤ at0 ∧ at0 ≤ 3002 := e_at0 ▸ hW.1 10
  have b_fk : (0 : Int) ≤ fk ∧ fk ≤ 6 := e_fk ▸ hW.1 16
  have b_nd : (0 : Int) ≤ nd ∧ nd ≤ 6999 := e_nd ▸ hW.1 31
  have b_sy : (0 : Int) ≤ sy ∧ sy ≤ 202 := e_sy ▸ hW.1 19
  have b_na : (0 : Int) ≤ na ∧ na ≤ 200 := e_na ▸ hW.1 28
  have b_vi : (0 : Int) ≤ vi ∧ vi ≤ 202 := e_vi ▸ hW.1 29
  have b_le : (0 : Int) ≤ le ∧ le ≤ 3000 := e_le ▸ hW.2 4 _
  have b_op0 : (-2147483648 : Int) ≤ op0 ∧ op0 ≤ 2147483647 := e_op0 ▸ hW.1 15
  have z_tk0 := tz_f tk0
  have b_tk0 : (0 : Int) ≤ tk0 ∧ tk0 ≤ 5 := e_tk0 ▸ hW.1 11
  have at_19 : ∀ (m : Nat) (L : jL) (Gx : Nat → Int) (Ax : Nat → Nat → Int) (many ln1 at1 fk1 nd1 sy1 na1 vi1 lf1 : Int), (li - ln1).toNat = m → jGet L 0 = some (.ref 66) → jGet L 1 = some (.int (i32 many)) → Wk Gx Ax → Fr [9, 10, 11, 12, 13, 14, 15, 16, 17, 18, 19, 28, 29, 31] [6, 7, 8, 9, 10, 11, 12, 14, 15, 16, 17, 18, 19, 20, 21, 22, 23, 24, 28, 36] G A Gx Ax → Gx 9 = ln1 → Gx 10 = at1 → Gx 16 = fk1 → Gx 31 = nd1 → Gx 19 = sy1 → Gx 28 = na1 → Gx 29 = vi1 → Ax 3 (ln1).toNat = lf1 → ((-2147483648 : Int) ≤ many ∧ many ≤ 2147483647) → (fk1 = 0) → (at0 ≤ at1) → (sy1 ≤ na1 + 2) → (vi1 ≤ sy1) → (ln ≤ ln1) → (ln1 ≤ li) → (nd1 ≤ 2 * at1 + 31) → (at1 < lf1 ∨ li ≤ ln1) → (0 ≤ many ∧ many ≤ ln1) → wj X d jm311 (19, L, [], rV c0 c1 Gx Ax T) (fun o V' => ∃ (G' : Nat → Int) (A' : Nat → Nat → Int) (ln2 : Int) (at2 : Int) (fk2 : Int) (nd2 : Int) (sy2 : Int) (na2 : Int) (vi2 : Int) (lf2 : Int), V' = rV c0 c1 G' A' T ∧ o = .inl none ∧ Wk G' A' ∧ Fr [9, 10, 11, 12, 13, 14, 15, 16, 17, 18, 19, 28, 29, 31] [6, 7, 8, 9, 10, 11, 12, 14, 15, 16, 17, 18, 19, 20, 21, 22, 23, 24, 28, 36] G A G' A' ∧ G' 9 = ln2 ∧ G' 10 = at2 ∧ G' 16 = fk2 ∧ G' 31 = nd2 ∧ G' 19 = sy2 ∧ G' 28 = na2 ∧ G' 29 = vi2 ∧ A' 3 (ln2).toNat = lf2 ∧ (sy2 ≤ na2 + 2) ∧ (vi2 ≤ sy2) ∧ (ln ≤ ln2) ∧ (ln2 ≤ li) ∧ (((1 ≤ fk2)) ∨ ((fk2 = 0)))) := by
    intro m
    induction m using Nat.strongRecOn with
    | ind m ih19 =>
      intro L Gx Ax many ln1 at1 fk1 nd1 sy1 na1 vi1 lf1 hm gL_0 gL_1 hWx hFx ex_ln1 ex_at1 ex_fk1 ex_nd1 ex_sy1 ex_na1 ex_vi1 ex_lf1 rx_many iv_0 iv_1 iv_2 iv_3 iv_4 iv_5 iv_6 iv_7 iv_8
      have b_ln1 : (0 : Int) ≤ ln1 ∧ ln1 ≤ 3000 := ex_ln1 ▸ hWx.1 9
      have b_at1 : (0 : Int) ≤ at1 ∧ at1 ≤ 3002 := ex_at1 ▸ hWx.1 10
      have b_fk1 : (0 : Int) ≤ fk1 ∧ fk1 ≤ 6 := ex_fk1 ▸ hWx.1 16
      have b_nd1 : (0 : Int) ≤ nd1 ∧ nd1 ≤ 6999 := ex_nd1 ▸ hWx.1 31
      have b_sy1 : (0 : Int) ≤ sy1 ∧ sy1 ≤ 202 := ex_sy1 ▸ hWx.1 19
      have b_na1 : (0 : Int) ≤ na1 ∧ na1 ≤ 200 := ex_na1 ▸ hWx.1 28
      have b_vi1 : (0 : Int) ≤ vi1 ∧ vi1 ≤ 202 := ex_vi1 ▸ hWx.1 29
      refine jx_ld (pc' := 20) (l' := L) (st' := [.ref 66]) rfl (jl_aloadn gL_0) ?_
      refine jx_ar (pc' := 21) (st' := [.int (i32 (0)), .ref 66]) rfl rfl rfl rfl ?_
      have b1 : (-1 : Int) ≤ A 5 (ln1).toNat ∧ A 5 (ln1).toNat ≤ 15 := hW.2 5 _
      refine jx_vr (pc' := 24) (as := [.int (i32 (0))]) (st := []) rfl rfl rfl rfl ⟨rfl, rfl, Nat.le_of_ble_eq_true rfl⟩ rfl rfl (c_isBelow (dd := d) (hd := by omega) (hW := hWx) (lv := 0) (ln := ln1) (e_ln := show Gx 9 = ln1 from (ex_ln1)) (li := li) (e_li := show Gx 3 = li from ((hFx.1 3 rfl).trans (e_li))) (fk := fk1) (e_fk := show Gx 16 = fk1 from (ex_fk1)) (ll := A 5 (ln1).toNat) (e_ll := show Ax 5 (ln1).toNat = A 5 (ln1).toNat from (congrFun (hFx.2 5 rfl) _))  (h_lv := ⟨(by decide), (by decide)⟩)  (p_0 := by omega)) (fun o V' hq => ?_)
      obtain ⟨G2, A3, r4, fk2_5, rfl, rfl, hW6, hF7, b8, e9, q10⟩ := hq
      have hF11 := Fr_tr hFx hF7 (Fr_sub (by decide)) (Fr_sub (by decide))
      have bfk2_5 : (0 : Int) ≤ fk2_5 ∧ fk2_5 ≤ 6 := e9 ▸ hW6.1 16
      refine .inr ⟨_, rfl, ?_⟩
      rcases q10 with ⟨rfl, a12, a13, a14, a15⟩ | ⟨rfl, a16⟩ | ⟨rfl, a17, a18⟩
      · have _q : True := trivial
        have b19 : (0 : Int) ≤ A 4 (ln1).toNat ∧ A 4 (ln1).toNat ≤ 3000 := hW.2 4 _
        have lt20 : lf1 < A 4 (ln1).toNat := LT_at (LT_ext (((hF7.1 3 rfl).trans (hFx.1 3 rfl))) (((hF7.2 3 rfl).trans (hFx.2 3 rfl))) (((hF7.2 4 rfl).trans (hFx.2 4 rfl))) i_LT) (show G2 3 = li from ((hF7.1 3 rfl).trans ((hFx.1 3 rfl).trans (e_li)))) (show A3 3 (ln1).toNat = lf1 from (congrFun (hF7.2 3 rfl) _).trans (ex_lf1)) (show A3 4 (ln1).toNat = A 4 (ln1).toNat from (congrFun ((hF7.2 4 rfl).trans (hFx.2 4 rfl)) _)) (by omega) (by omega)
        refine jx_if_eq (pc' := 27) (tg := 125) rfl rfl rfl (by decide) (by decide) (fun h21 => ?_) (fun h21 => ?_)
        · have _q := h21
          exact absurd h21 (by omega)
        · have _q := h21
          refine jx_ld (pc' := 28) (l' := L) (st' := [.ref 66]) rfl (jl_aloadn gL_0) ?_
          refine jx_vr (pc' := 31) (as := []) (st := []) rfl rfl rfl rfl ⟨rfl, rfl, Nat.le_of_ble_eq_true rfl⟩ rfl rfl (c_openLine (dd := d) (hd := by omega) (hW := hW6)  (ln := ln1) (e_ln := show G2 9 = ln1 from ((hF7.1 9 rfl).trans (ex_ln1))) (le := A 4 (ln1).toNat) (e_le := show A3 4 (ln1).toNat = A 4 (ln1).toNat from (congrFun ((hF7.2 4 rfl).trans (hFx.2 4 rfl)) _)) (lf := lf1) (e_lf := show A3 3 (ln1).toNat = lf1 from (congrFun (hF7.2 3 rfl) _).trans (ex_lf1))    (p_0 := by omega)) (fun o V' hq => ?_)
          obtain ⟨G22, A23, at2_24, tk2_25, op2_26, rfl, rfl, hW27, hF28, e29, e30, e31, p32, p33, p34, p35, -⟩ := hq
          have hF37 := Fr_tr hF11 hF28 (Fr_sub (by decide)) (Fr_sub (by decide))
          have bat2_24 : (0 : Int) ≤ at2_24 ∧ at2_24 ≤ 3002 := e29 ▸ hW27.1 10
          have ztk2_25 := tz_b tk2_25
          have btk2_25 : (0 : Int) ≤ tk2_25 ∧ tk2_25 ≤ 5 := e30 ▸ hW27.1 11
          have bop2_26 : (-2147483648 : Int) ≤ op2_26 ∧ op2_26 ≤ 2147483647 := e31 ▸ hW27.1 15
          refine .inl ⟨rfl, ?_⟩
          refine jx_ld (pc' := 32) (l' := L) (st' := [.ref 66]) rfl (jl_aloadn gL_0) ?_
          refine jx_ld (pc' := 33) (l' := L) (st' := [.ref 66, .ref 66]) rfl (jl_aloadn gL_0) ?_
          refine jx_ar (pc' := 35) (st' := [.int (i32 (20)), .ref 66, .ref 66]) rfl rfl rfl rfl ?_
          have b38 : (-2147483648 : Int) ≤ G22 13 ∧ G22 13 ≤ 2147483647 := hW27.1 13
          refine jx_vr (pc' := 38) (as := [.int (i32 (20))]) (st := [.ref 66]) rfl rfl rfl rfl ⟨rfl, rfl, Nat.le_of_ble_eq_true rfl⟩ rfl rfl (c_isKey (dd := d) (hd := by omega) (hW := hW27) (k := 20) (tk := tk2_25) (e_tk := show G22 11 = tk2_25 from (e30)) (tn := G22 13) (e_tn := show G22 13 = G22 13 from rfl)  (h_k := ⟨(by decide), (by decide)⟩)  ) (fun o V' hq => ?_)
          obtain ⟨r39, rfl, rfl, b40, q41⟩ := hq
          refine .inr ⟨_, rfl, ?_⟩
          rcases q41 with ⟨rfl, a42, a43, a44⟩ | rfl
          · have _q : True := trivial
            refine jx_vr (pc' := 41) (as := [.int (i32 (1))]) (st := []) rfl rfl rfl rfl ⟨rfl, rfl, Nat.le_of_ble_eq_true rfl⟩ rfl rfl (c_need (dd := d) (hd := by omega) (hW := hW27) (g := 1) (ln := ln1) (e_ln := show G22 9 = ln1 from ((hF28.1 9 rfl).trans ((hF7.1 9 rfl).trans (ex_ln1)))) (le := A 4 (ln1).toNat) (e_le := show A23 4 (ln1).toNat = A 4 (ln1).toNat from (congrFun ((hF28.2 4 rfl).trans ((hF7.2 4 rfl).trans (hFx.2 4 rfl))) _)) (at0 := at2_24) (e_at0 := show G22 10 = at2_24 from (e29)) (fk := fk2_5) (e_fk := show G22 16 = fk2_5 from ((hF28.1 16 rfl).trans (e9))) (tk0 := tk2_25) (e_tk0 := show G22 11 = tk2_25 from (e30))  (h_g := ⟨(by decide), (by decide)⟩)  (p_0 := by omega)) (fun o V' hq => ?_)
            obtain ⟨G45, A46, at2_47, tk2_48, fk2_49, rfl, rfl, hW50, hF51, e52, e53, e54, p55, p56, q57⟩ := hq
            have hF58 := Fr_tr hF37 hF51 (Fr_sub (by decide)) (Fr_sub (by decide))
            have bat2_47 : (0 : Int) ≤ at2_47 ∧ at2_47 ≤ 3002 := e52 ▸ hW50.1 10
            have ztk2_48 := tz_b tk2_48
            have btk2_48 : (0 : Int) ≤ tk2_48 ∧ tk2_48 ≤ 5 := e53 ▸ hW50.1 11
            have bfk2_49 : (0 : Int) ≤ fk2_49 ∧ fk2_49 ≤ 6 := e54 ▸ hW50.1 16
            refine .inl ⟨rfl, ?_⟩
            rcases q57 with ⟨a59, a60, a61, a62⟩ | ⟨a63, a64, a65, a66⟩
            · have _q : True := trivial
              refine jx_ld (pc' := 42) (l' := L) (st' := [.ref 66]) rfl (jl_aloadn gL_0) ?_
              refine jx_vr (pc' := 45) (as := []) (st := []) rfl rfl rfl rfl ⟨rfl, rfl, Nat.le_of_ble_eq_true rfl⟩ rfl rfl (c_bad (dd := d) (hd := by omega) (hW := hW50)  (fk := fk2_49) (e_fk := show G45 16 = fk2_49 from (e54))    ) (fun o V' hq => ?_)
              obtain ⟨r67, rfl, rfl, b68, q69⟩ := hq
              refine .inr ⟨_, rfl, ?_⟩
              rcases q69 with ⟨rfl, a70⟩ | ⟨rfl, a71⟩
              · have _q : True := trivial
                refine jx_if_ne (pc' := 48) (tg := 89) rfl rfl rfl (by decide) (by decide) (fun h72 => ?_) (fun h72 => ?_)
                · have _q := h72
                  refine jx_ld (pc' := 90) (l' := L) (st' := [.ref 66]) rfl (jl_aloadn gL_0) ?_
                  refine jx_ar (pc' := 91) (st' := [.int (i32 (0)), .ref 66]) rfl rfl rfl rfl ?_
                  refine jx_ar (pc' := 92) (st' := [.int (i32 (5)), .int (i32 (0)), .ref 66]) rfl rfl rfl rfl ?_
                  refine jx_vr (pc' := 95) (as := [.int (i32 (0)), .int (i32 (5))]) (st := []) rfl rfl rfl rfl ⟨rfl, rfl, Nat.le_of_ble_eq_true rfl⟩ rfl rfl (c_needNumber (dd := d) (hd := by omega) (hW := hW50) (lo := 0) (hi := 5) (ln := ln1) (e_ln := show G45 9 = ln1 from ((hF51.1 9 rfl).trans ((hF28.1 9 rfl).trans ((hF7.1 9 rfl).trans (ex_ln1))))) (le := A 4 (ln1).toNat) (e_le := show A46 4 (ln1).toNat = A 4 (ln1).toNat from (congrFun ((hF51.2 4 rfl).trans ((hF28.2 4 rfl).trans ((hF7.2 4 rfl).trans (hFx.2 4 rfl)))) _)) (at0 := at2_47) (e_at0 := show G45 10 = at2_47 from (e52)) (fk := fk2_49) (e_fk := show G45 16 = fk2_49 from (e54)) (tk0 := tk2_48) (e_tk0 := show G45 11 = tk2_48 from (e53))  (h_lo := ⟨(by decide), (by decide)⟩) (h_hi := ⟨(by decide), (by decide)⟩)  (p_0 := by omega)) (fun o V' hq => ?_)
                  obtain ⟨G73, A74, r75, at2_76, tk2_77, fk2_78, rfl, rfl, hW79, hF80, b81, e82, e83, e84, p85, p86, q87⟩ := hq
                  have hF88 := Fr_tr hF58 hF80 (Fr_sub (by decide)) (Fr_sub (by decide))
                  have bat2_76 : (0 : Int) ≤ at2_76 ∧ at2_76 ≤ 3002 := e82 ▸ hW79.1 10
                  have ztk2_77 := tz_b tk2_77
                  have btk2_77 : (0 : Int) ≤ tk2_77 ∧ tk2_77 ≤ 5 := e83 ▸ hW79.1 11
                  have bfk2_78 : (0 : Int) ≤ fk2_78 ∧ fk2_78 ≤ 6 := e84 ▸ hW79.1 16
                  refine .inr ⟨_, rfl, ?_⟩
                  rcases q87 with ⟨a89, a90, a91, a92⟩ | ⟨a93, a94, a95, a96, a97⟩
                  · have _q : True := trivial
                    refine jx_ld (pc' := 96) (l' := jSto1 L 2 (.int (i32 (r75)))) (st' := []) rfl rfl ?_
                    obtain ⟨L98, eL98⟩ : ∃ q, q = jSto1 L 2 (.int (i32 (r75))) := ⟨_, rfl⟩
                    rw [← eL98]
                    have gL98_0 : jGet L98 0 = some (.ref 66) := eL98 ▸ jg_ne (by decide) gL_0 rfl
                    have gL98_1 : jGet L98 1 = some (.int (i32 (many))) := eL98 ▸ jg_ne (by decide) gL_1 rfl
                    have gL98_2 : jGet L98 2 = some (.int (i32 (r75))) := eL98 ▸ jg_eq
                    refine jx_ld (pc' := 97) (l' := L98) (st' := [.ref 66]) rfl (jl_aloadn gL98_0) ?_
                    refine jx_vr (pc' := 100) (as := []) (st := []) rfl rfl rfl rfl ⟨rfl, rfl, Nat.le_of_ble_eq_true rfl⟩ rfl rfl (c_endLine (dd := d) (hd := by omega) (hW := hW79)  (ln := ln1) (e_ln := show G73 9 = ln1 from ((hF80.1 9 rfl).trans ((hF51.1 9 rfl).trans ((hF28.1 9 rfl).trans ((hF7.1 9 rfl).trans (ex_ln1)))))) (li := li) (e_li := show G73 3 = li from ((hF80.1 3 rfl).trans ((hF51.1 3 rfl).trans ((hF28.1 3 rfl).trans ((hF7.1 3 rfl).trans ((hFx.1 3 rfl).trans (e_li))))))) (fk := fk2_78) (e_fk := show G73 16 = fk2_78 from (e84)) (tk0 := tk2_77) (e_tk0 := show G73 11 = tk2_77 from (e83))    (p_0 := by omega)) (fun o V' hq => ?_)
                    obtain ⟨G99, A100, ln2_101, fk2_102, rfl, rfl, hW103, hF104, e105, e106, q107⟩ := hq
                    have hF108 := Fr_tr hF88 hF104 (Fr_sub (by decide)) (Fr_sub (by decide))
                    have bln2_101 : (0 : Int) ≤ ln2_101 ∧ ln2_101 ≤ 3000 := e105 ▸ hW103.1 9
                    have bfk2_102 : (0 : Int) ≤ fk2_102 ∧ fk2_102 ≤ 6 := e106 ▸ hW103.1 16
                    refine .inl ⟨rfl, ?_⟩
                    rcases q107 with ⟨a109, a110, a111, a112, a113⟩ | ⟨a114, a115⟩
                    · have _q : True := trivial
                      exfalso
                      omega
                    · have _q : True := trivial
                      refine jx_ld (pc' := 101) (l' := L98) (st' := [.ref 66]) rfl (jl_aloadn gL98_0) ?_
                      refine jx_vr (pc' := 104) (as := []) (st := []) rfl rfl rfl rfl ⟨rfl, rfl, Nat.le_of_ble_eq_true rfl⟩ rfl rfl (c_bad (dd := d) (hd := by omega) (hW := hW103)  (fk := fk2_102) (e_fk := show G99 16 = fk2_102 from (e106))    ) (fun o V' hq => ?_)
                      obtain ⟨r116, rfl, rfl, b117, q118⟩ := hq
                      refine .inr ⟨_, rfl, ?_⟩
                      rcases q118 with ⟨rfl, a119⟩ | ⟨rfl, a120⟩
                      · have _q : True := trivial
                        refine jx_if_eq (pc' := 107) (tg := 108) rfl rfl rfl (by decide) (by decide) (fun h121 => ?_) (fun h121 => ?_)
                        · have _q := h121
                          exact absurd h121 (by omega)
                        · have _q := h121
                          refine jx_rt (v := none) rfl rfl rfl rfl rfl rfl ?_
                          exact ⟨_, _, ln2_101, at2_76, fk2_102, nd1, sy1, na1, vi1, A 3 (ln2_101).toNat, rfl, rfl, hW103, hF108, (e105), ((hF104.1 10 rfl).trans (e82)), (e106), ((hF104.1 31 rfl).trans ((hF80.1 31 rfl).trans ((hF51.1 31 rfl).trans ((hF28.1 31 rfl).trans ((hF7.1 31 rfl).trans (ex_nd1)))))), ((hF104.1 19 rfl).trans ((hF80.1 19 rfl).trans ((hF51.1 19 rfl).trans ((hF28.1 19 rfl).trans ((hF7.1 19 rfl).trans (ex_sy1)))))), ((hF104.1 28 rfl).trans ((hF80.1 28 rfl).trans ((hF51.1 28 rfl).trans ((hF28.1 28 rfl).trans ((hF7.1 28 rfl).trans (ex_na1)))))), ((hF104.1 29 rfl).trans ((hF80.1 29 rfl).trans ((hF51.1 29 rfl).trans ((hF28.1 29 rfl).trans ((hF7.1 29 rfl).trans (ex_vi1)))))), (congrFun ((hF104.2 3 rfl).trans ((hF80.2 3 rfl).trans ((hF51.2 3 rfl).trans ((hF28.2 3 rfl).trans ((hF7.2 3 rfl).trans (hFx.2 3 rfl)))))) _), by omega, by omega, by omega, by omega, by first | exact Or.inl (by omega) | exact Or.inr ((by omega))⟩
                      · have _q : True := trivial
                        exfalso
                        omega
                  · have _q : True := trivial
                    exfalso
                    omega
                · have _q := h72
                  exact absurd h72 (by omega)
              · have _q : True := trivial
                exfalso
                omega
            · have _q : True := trivial
              refine jx_ld (pc' := 42) (l' := L) (st' := [.ref 66]) rfl (jl_aloadn gL_0) ?_
              refine jx_vr (pc' := 45) (as := []) (st := []) rfl rfl rfl rfl ⟨rfl, rfl, Nat.le_of_ble_eq_true rfl⟩ rfl rfl (c_bad (dd := d) (hd := by omega) (hW := hW50)  (fk := fk2_49) (e_fk := show G45 16 = fk2_49 from (e54))    ) (fun o V' hq => ?_)
              obtain ⟨r122, rfl, rfl, b123, q124⟩ := hq
              refine .inr ⟨_, rfl, ?_⟩
              rcases q124 with ⟨rfl, a125⟩ | ⟨rfl, a126⟩
              · have _q : True := trivial
                exfalso
                omega
              · have _q : True := trivial
                refine jx_if_ne (pc' := 48) (tg := 89) rfl rfl rfl (by decide) (by decide) (fun h127 => ?_) (fun h127 => ?_)
                · have _q := h127
                  exact absurd h127 (by omega)
                · have _q := h127
                  refine jx_ld (pc' := 49) (l' := L) (st' := [.ref 66]) rfl (jl_aloadn gL_0) ?_
                  have z128 := tz_f (tk2_48)
                  refine jr_get (pc' := 52) (i := 11) (v := .int (i32 (tk2_48))) rfl rfl (by decide) (rFv_eq (by decide) (show G45 11 = tk2_48 from (e53))) rfl ?_
                  refine jx_ar (pc' := 53) (st' := [.int (i32 (3)), .int (i32 (tk2_48))]) rfl rfl rfl rfl ?_
                  refine jx_icmp_ne (pc' := 56) (tg := 89) rfl rfl rfl (Int.le_trans (by decide : (-2147483648 : Int) ≤ 0) btk2_48.1) (Int.le_trans btk2_48.2 (by decide : (5 : Int) ≤ 2147483647)) (by decide) (by decide) (fun h129 => ?_) (fun h129 => ?_)
                  · have _q := h129
                    refine jx_ld (pc' := 90) (l' := L) (st' := [.ref 66]) rfl (jl_aloadn gL_0) ?_
                    refine jx_ar (pc' := 91) (st' := [.int (i32 (0)), .ref 66]) rfl rfl rfl rfl ?_
                    refine jx_ar (pc' := 92) (st' := [.int (i32 (5)), .int (i32 (0)), .ref 66]) rfl rfl rfl rfl ?_
                    refine jx_vr (pc' := 95) (as := [.int (i32 (0)), .int (i32 (5))]) (st := []) rfl rfl rfl rfl ⟨rfl, rfl, Nat.le_of_ble_eq_true rfl⟩ rfl rfl (c_needNumber (dd := d) (hd := by omega) (hW := hW50) (lo := 0) (hi := 5) (ln := ln1) (e_ln := show G45 9 = ln1 from ((hF51.1 9 rfl).trans ((hF28.1 9 rfl).trans ((hF7.1 9 rfl).trans (ex_ln1))))) (le := A 4 (ln1).toNat) (e_le := show A46 4 (ln1).toNat = A 4 (ln1).toNat from (congrFun ((hF51.2 4 rfl).trans ((hF28.2 4 rfl).trans ((hF7.2 4 rfl).trans (hFx.2 4 rfl)))) _)) (at0 := at2_47) (e_at0 := show G45 10 = at2_47 from (e52)) (fk := fk2_49) (e_fk := show G45 16 = fk2_49 from (e54)) (tk0 := tk2_48) (e_tk0 := show G45 11 = tk2_48 from (e53))  (h_lo := ⟨(by decide), (by decide)⟩) (h_hi := ⟨(by decide), (by decide)⟩)  (p_0 := by omega)) (fun o V' hq => ?_)
                    obtain ⟨G130, A131, r132, at2_133, tk2_134, fk2_135, rfl, rfl, hW136, hF137, b138, e139, e140, e141, p142, p143, q144⟩ := hq
                    have hF145 := Fr_tr hF58 hF137 (Fr_sub (by decide)) (Fr_sub (by decide))
                    have bat2_133 : (0 : Int) ≤ at2_133 ∧ at2_133 ≤ 3002 := e139 ▸ hW136.1 10
                    have ztk2_134 := tz_b tk2_134
                    have btk2_134 : (0 : Int) ≤ tk2_134 ∧ tk2_134 ≤ 5 := e140 ▸ hW136.1 11
                    have bfk2_135 : (0 : Int) ≤ fk2_135 ∧ fk2_135 ≤ 6 := e141 ▸ hW136.1 16
                    refine .inr ⟨_, rfl, ?_⟩
                    rcases q144 with ⟨a146, a147, a148, a149⟩ | ⟨a150, a151, a152, a153, a154⟩
                    · have _q : True := trivial
                      refine jx_ld (pc' := 96) (l' := jSto1 L 2 (.int (i32 (r132)))) (st' := []) rfl rfl ?_
                      obtain ⟨L155, eL155⟩ : ∃ q, q = jSto1 L 2 (.int (i32 (r132))) := ⟨_, rfl⟩
                      rw [← eL155]
                      have gL155_0 : jGet L155 0 = some (.ref 66) := eL155 ▸ jg_ne (by decide) gL_0 rfl
                      have gL155_1 : jGet L155 1 = some (.int (i32 (many))) := eL155 ▸ jg_ne (by decide) gL_1 rfl
                      have gL155_2 : jGet L155 2 = some (.int (i32 (r132))) := eL155 ▸ jg_eq
                      refine jx_ld (pc' := 97) (l' := L155) (st' := [.ref 66]) rfl (jl_aloadn gL155_0) ?_
                      refine jx_vr (pc' := 100) (as := []) (st := []) rfl rfl rfl rfl ⟨rfl, rfl, Nat.le_of_ble_eq_true rfl⟩ rfl rfl (c_endLine (dd := d) (hd := by omega) (hW := hW136)  (ln := ln1) (e_ln := show G130 9 = ln1 from ((hF137.1 9 rfl).trans ((hF51.1 9 rfl).trans ((hF28.1 9 rfl).trans ((hF7.1 9 rfl).trans (ex_ln1)))))) (li := li) (e_li := show G130 3 = li from ((hF137.1 3 rfl).trans ((hF51.1 3 rfl).trans ((hF28.1 3 rfl).trans ((hF7.1 3 rfl).trans ((hFx.1 3 rfl).trans (e_li))))))) (fk := fk2_135) (e_fk := show G130 16 = fk2_135 from (e141)) (tk0 := tk2_134) (e_tk0 := show G130 11 = tk2_134 from (e140))    (p_0 := by omega)) (fun o V' hq => ?_)
                      obtain ⟨G156, A157, ln2_158, fk2_159, rfl, rfl, hW160, hF161, e162, e163, q164⟩ := hq
                      have hF165 := Fr_tr hF145 hF161 (Fr_sub (by decide)) (Fr_sub (by decide))
                      have bln2_158 : (0 : Int) ≤ ln2_158 ∧ ln2_158 ≤ 3000 := e162 ▸ hW160.1 9
                      have bfk2_159 : (0 : Int) ≤ fk2_159 ∧ fk2_159 ≤ 6 := e163 ▸ hW160.1 16
                      refine .inl ⟨rfl, ?_⟩
                      rcases q164 with ⟨a166, a167, a168, a169, a170⟩ | ⟨a171, a172⟩
                      · have _q : True := trivial
                        exfalso
                        omega
                      · have _q : True := trivial
                        refine jx_ld (pc' := 101) (l' := L155) (st' := [.ref 66]) rfl (jl_aloadn gL155_0) ?_
                        refine jx_vr (pc' := 104) (as := []) (st := []) rfl rfl rfl rfl ⟨rfl, rfl, Nat.le_of_ble_eq_true rfl⟩ rfl rfl (c_bad (dd := d) (hd := by omega) (hW := hW160)  (fk := fk2_159) (e_fk := show G156 16 = fk2_159 from (e163))    ) (fun o V' hq => ?_)
                        obtain ⟨r173, rfl, rfl, b174, q175⟩ := hq
                        refine .inr ⟨_, rfl, ?_⟩
                        rcases q175 with ⟨rfl, a176⟩ | ⟨rfl, a177⟩
                        · have _q : True := trivial
                          refine jx_if_eq (pc' := 107) (tg := 108) rfl rfl rfl (by decide) (by decide) (fun h178 => ?_) (fun h178 => ?_)
                          · have _q := h178
                            exact absurd h178 (by omega)
                          · have _q := h178
                            refine jx_rt (v := none) rfl rfl rfl rfl rfl rfl ?_
                            exact ⟨_, _, ln2_158, at2_133, fk2_159, nd1, sy1, na1, vi1, A 3 (ln2_158).toNat, rfl, rfl, hW160, hF165, (e162), ((hF161.1 10 rfl).trans (e139)), (e163), ((hF161.1 31 rfl).trans ((hF137.1 31 rfl).trans ((hF51.1 31 rfl).trans ((hF28.1 31 rfl).trans ((hF7.1 31 rfl).trans (ex_nd1)))))), ((hF161.1 19 rfl).trans ((hF137.1 19 rfl).trans ((hF51.1 19 rfl).trans ((hF28.1 19 rfl).trans ((hF7.1 19 rfl).trans (ex_sy1)))))), ((hF161.1 28 rfl).trans ((hF137.1 28 rfl).trans ((hF51.1 28 rfl).trans ((hF28.1 28 rfl).trans ((hF7.1 28 rfl).trans (ex_na1)))))), ((hF161.1 29 rfl).trans ((hF137.1 29 rfl).trans ((hF51.1 29 rfl).trans ((hF28.1 29 rfl).trans ((hF7.1 29 rfl).trans (ex_vi1)))))), (congrFun ((hF161.2 3 rfl).trans ((hF137.2 3 rfl).trans ((hF51.2 3 rfl).trans ((hF28.2 3 rfl).trans ((hF7.2 3 rfl).trans (hFx.2 3 rfl)))))) _), by omega, by omega, by omega, by omega, by first | exact Or.inl (by omega) | exact Or.inr ((by omega))⟩
                        · have _q : True := trivial
                          exfalso
                          omega
                    · have _q : True := trivial
                      refine jx_ld (pc' := 96) (l' := jSto1 L 2 (.int (i32 (r132)))) (st' := []) rfl rfl ?_
                      obtain ⟨L179, eL179⟩ : ∃ q, q = jSto1 L 2 (.int (i32 (r132))) := ⟨_, rfl⟩
                      rw [← eL179]
                      have gL179_0 : jGet L179 0 = some (.ref 66) := eL179 ▸ jg_ne (by decide) gL_0 rfl
                      have gL179_1 : jGet L179 1 = some (.int (i32 (many))) := eL179 ▸ jg_ne (by decide) gL_1 rfl
                      have gL179_2 : jGet L179 2 = some (.int (i32 (r132))) := eL179 ▸ jg_eq
                      refine jx_ld (pc' := 97) (l' := L179) (st' := [.ref 66]) rfl (jl_aloadn gL179_0) ?_
                      refine jx_vr (pc' := 100) (as := []) (st := []) rfl rfl rfl rfl ⟨rfl, rfl, Nat.le_of_ble_eq_true rfl⟩ rfl rfl (c_endLine (dd := d) (hd := by omega) (hW := hW136)  (ln := ln1) (e_ln := show G130 9 = ln1 from ((hF137.1 9 rfl).trans ((hF51.1 9 rfl).trans ((hF28.1 9 rfl).trans ((hF7.1 9 rfl).trans (ex_ln1)))))) (li := li) (e_li := show G130 3 = li from ((hF137.1 3 rfl).trans ((hF51.1 3 rfl).trans ((hF28.1 3 rfl).trans ((hF7.1 3 rfl).trans ((hFx.1 3 rfl).trans (e_li))))))) (fk := fk2_135) (e_fk := show G130 16 = fk2_135 from (e141)) (tk0 := tk2_134) (e_tk0 := show G130 11 = tk2_134 from (e140))    (p_0 := by omega)) (fun o V' hq => ?_)
                      obtain ⟨G180, A181, ln2_182, fk2_183, rfl, rfl, hW184, hF185, e186, e187, q188⟩ := hq
                      have hF189 := Fr_tr hF145 hF185 (Fr_sub (by decide)) (Fr_sub (by decide))
                      have bln2_182 : (0 : Int) ≤ ln2_182 ∧ ln2_182 ≤ 3000 := e186 ▸ hW184.1 9
                      have bfk2_183 : (0 : Int) ≤ fk2_183 ∧ fk2_183 ≤ 6 := e187 ▸ hW184.1 16
                      refine .inl ⟨rfl, ?_⟩
                      rcases q188 with ⟨a190, a191, a192, a193, a194⟩ | ⟨a195, a196⟩
                      · have _q : True := trivial
                        have b197 : (0 : Int) ≤ A 3 (ln2_182).toNat ∧ A 3 (ln2_182).toNat ≤ 3000 := hW.2 3 _
                        have lt198 : ln2_182 < li → A 4 (ln1).toNat < A 3 (ln2_182).toNat := fun hh => LT_nx (LT_ext (((hF185.1 3 rfl).trans ((hF137.1 3 rfl).trans ((hF51.1 3 rfl).trans ((hF28.1 3 rfl).trans ((hF7.1 3 rfl).trans (hFx.1 3 rfl))))))) (((hF185.2 3 rfl).trans ((hF137.2 3 rfl).trans ((hF51.2 3 rfl).trans ((hF28.2 3 rfl).trans ((hF7.2 3 rfl).trans (hFx.2 3 rfl))))))) (((hF185.2 4 rfl).trans ((hF137.2 4 rfl).trans ((hF51.2 4 rfl).trans ((hF28.2 4 rfl).trans ((hF7.2 4 rfl).trans (hFx.2 4 rfl))))))) i_LT) (show G180 3 = li from ((hF185.1 3 rfl).trans ((hF137.1 3 rfl).trans ((hF51.1 3 rfl).trans ((hF28.1 3 rfl).trans ((hF7.1 3 rfl).trans ((hFx.1 3 rfl).trans (e_li)))))))) (show A181 4 (ln1).toNat = A 4 (ln1).toNat from (congrFun ((hF185.2 4 rfl).trans ((hF137.2 4 rfl).trans ((hF51.2 4 rfl).trans ((hF28.2 4 rfl).trans ((hF7.2 4 rfl).trans (hFx.2 4 rfl)))))) _)) (show A181 3 (ln2_182).toNat = A 3 (ln2_182).toNat from (congrFun ((hF185.2 3 rfl).trans ((hF137.2 3 rfl).trans ((hF51.2 3 rfl).trans ((hF28.2 3 rfl).trans ((hF7.2 3 rfl).trans (hFx.2 3 rfl)))))) _)) (show ln2_182 = ln1 + 1 by omega) (by omega) hh
                        refine jx_ld (pc' := 101) (l' := L179) (st' := [.ref 66]) rfl (jl_aloadn gL179_0) ?_
                        refine jx_vr (pc' := 104) (as := []) (st := []) rfl rfl rfl rfl ⟨rfl, rfl, Nat.le_of_ble_eq_true rfl⟩ rfl rfl (c_bad (dd := d) (hd := by omega) (hW := hW184)  (fk := fk2_183) (e_fk := show G180 16 = fk2_183 from (e187))    ) (fun o V' hq => ?_)
                        obtain ⟨r199, rfl, rfl, b200, q201⟩ := hq
                        refine .inr ⟨_, rfl, ?_⟩
                        rcases q201 with ⟨rfl, a202⟩ | ⟨rfl, a203⟩
                        · have _q : True := trivial
                          exfalso
                          omega
                        · have _q : True := trivial
                          refine jx_if_eq (pc' := 107) (tg := 108) rfl rfl rfl (by decide) (by decide) (fun h204 => ?_) (fun h204 => ?_)
                          · have _q := h204
                            refine jx_ld (pc' := 109) (l' := L179) (st' := [.ref 66]) rfl (jl_aloadn gL179_0) ?_
                            refine jr_get (pc' := 112) (i := 55) (v := .ref 103) rfl rfl (by decide) rfl rfl ?_
                            refine jx_ld (pc' := 113) (l' := L179) (st' := [.int (i32 (r132)), .ref 103]) rfl (jl_iloadn gL179_2) ?_
                            refine jx_ld (pc' := 114) (l' := L179) (st' := [.ref 66, .int (i32 (r132)), .ref 103]) rfl (jl_aloadn gL179_0) ?_
                            refine jx_ar (pc' := 115) (st' := [.int (i32 (2)), .ref 66, .int (i32 (r132)), .ref 103]) rfl rfl rfl rfl ?_
                            refine jx_vr (pc' := 118) (as := [.int (i32 (2))]) (st := [.int (i32 (r132)), .ref 103]) rfl rfl rfl rfl ⟨rfl, rfl, Nat.le_of_ble_eq_true rfl⟩ rfl rfl (RP_all X 18 (dd := d) (hd := by omega) (hW := hW184) (lv := 2) (at0 := at2_133) (ln := ln2_182) (e_ln := show G180 9 = ln2_182 from (e186)) (li := li) (e_li := show G180 3 = li from ((hF185.1 3 rfl).trans ((hF137.1 3 rfl).trans ((hF51.1 3 rfl).trans ((hF28.1 3 rfl).trans ((hF7.1 3 rfl).trans ((hFx.1 3 rfl).trans (e_li)))))))) (fk := fk2_183) (e_fk := show G180 16 = fk2_183 from (e187)) (nd := nd1) (e_nd := show G180 31 = nd1 from ((hF185.1 31 rfl).trans ((hF137.1 31 rfl).trans ((hF51.1 31 rfl).trans ((hF28.1 31 rfl).trans ((hF7.1 31 rfl).trans (ex_nd1))))))) (sy := sy1) (e_sy := show G180 19 = sy1 from ((hF185.1 19 rfl).trans ((hF137.1 19 rfl).trans ((hF51.1 19 rfl).trans ((hF28.1 19 rfl).trans ((hF7.1 19 rfl).trans (ex_sy1))))))) (na := na1) (e_na := show G180 28 = na1 from ((hF185.1 28 rfl).trans ((hF137.1 28 rfl).trans ((hF51.1 28 rfl).trans ((hF28.1 28 rfl).trans ((hF7.1 28 rfl).trans (ex_na1))))))) (vi := vi1) (e_vi := show G180 29 = vi1 from ((hF185.1 29 rfl).trans ((hF137.1 29 rfl).trans ((hF51.1 29 rfl).trans ((hF28.1 29 rfl).trans ((hF7.1 29 rfl).trans (ex_vi1))))))) (lf := A 3 (ln2_182).toNat) (e_lf := show A181 3 (ln2_182).toNat = A 3 (ln2_182).toNat from (congrFun ((hF185.2 3 rfl).trans ((hF137.2 3 rfl).trans ((hF51.2 3 rfl).trans ((hF28.2 3 rfl).trans ((hF7.2 3 rfl).trans (hFx.2 3 rfl)))))) _)) (ac := at2_133) (e_ac := show G180 10 = at2_133 from ((hF185.1 10 rfl).trans (e139))) (i_LT := (LT_ext (((hF185.1 3 rfl).trans ((hF137.1 3 rfl).trans ((hF51.1 3 rfl).trans ((hF28.1 3 rfl).trans ((hF7.1 3 rfl).trans (hFx.1 3 rfl))))))) (((hF185.2 3 rfl).trans ((hF137.2 3 rfl).trans ((hF51.2 3 rfl).trans ((hF28.2 3 rfl).trans ((hF7.2 3 rfl).trans (hFx.2 3 rfl))))))) (((hF185.2 4 rfl).trans ((hF137.2 4 rfl).trans ((hF51.2 4 rfl).trans ((hF28.2 4 rfl).trans ((hF7.2 4 rfl).trans (hFx.2 4 rfl))))))) i_LT)) (h_lv := ⟨(by decide), (by decide)⟩)  (p_0 := by omega) (p_1 := by omega) (p_2 := by omega) (p_3 := by omega) (p_4 := by omega) (p_5 := by omega) (p_6 := by omega) (p_7 := by omega) (p_8 := by omega) (p_9 := by omega)) (fun o V' hq => ?_)
                            obtain ⟨G205, A206, r207, ln2_208, at2_209, fk2_210, nd2_211, sy2_212, na2_213, vi2_214, lf2_215, rfl, rfl, hW216, hF217, hQ218, b219, e220, e221, e222, e223, e224, e225, e226, e227, p228, p229, p230, p231, p232, p233, p234, p235, p236, q237⟩ := hq
                            have hF238 := Fr_tr hF189 hF217 (Fr_sub (by decide)) (Fr_sub (by decide))
                            have bln2_208 : (0 : Int) ≤ ln2_208 ∧ ln2_208 ≤ 3000 := e220 ▸ hW216.1 9
                            have bat2_209 : (0 : Int) ≤ at2_209 ∧ at2_209 ≤ 3002 := e221 ▸ hW216.1 10
                            have bfk2_210 : (0 : Int) ≤ fk2_210 ∧ fk2_210 ≤ 6 := e222 ▸ hW216.1 16
                            have bnd2_211 : (0 : Int) ≤ nd2_211 ∧ nd2_211 ≤ 6999 := e223 ▸ hW216.1 31
                            have bsy2_212 : (0 : Int) ≤ sy2_212 ∧ sy2_212 ≤ 202 := e224 ▸ hW216.1 19
                            have bna2_213 : (0 : Int) ≤ na2_213 ∧ na2_213 ≤ 200 := e225 ▸ hW216.1 28
                            have bvi2_214 : (0 : Int) ≤ vi2_214 ∧ vi2_214 ≤ 202 := e226 ▸ hW216.1 29
                            have blf2_215 : (0 : Int) ≤ lf2_215 ∧ lf2_215 ≤ 3000 := e227 ▸ hW216.2 3 _
                            refine .inr ⟨_, rfl, ?_⟩
                            rcases q237 with ⟨a239, a240⟩ | ⟨a241, a242, a243, a244, a245, a246⟩
                            · have _q : True := trivial
                              refine jr_st (pc' := 119) (i := 36) (m := 6) (z := r132) (y := r207) rfl (by decide) rfl (by decide) (by omega) (by omega) rfl ?_
                              have hW248 : Wk G205 (uA A206 36 (r132).toNat (r207)) := Wk_a hW216 (show (-2147483648 : Int) ≤ r207 by omega) (show r207 ≤ (2147483647 : Int) by omega)
                              have hF249 := Fr_a (z := r207) (k := 36) (n := (r132).toNat) hF238 (by decide)
                              obtain ⟨A247, eA247⟩ : ∃ q, q = uA A206 36 (r132).toNat (r207) := ⟨_, rfl⟩
                              rw [← eA247]
                              rw [← eA247] at hW248 hF249
                              have q250 : A247 36 (r132).toNat = r207 := by rw [eA247]; exact uA_eq
                              refine jx_inc (pc' := 122) (l' := jSto1 L179 1 (.int (i32 ((many + (1)))))) (x := many) rfl gL179_1 (by decide) rfl rfl ?_
                              obtain ⟨L251, eL251⟩ : ∃ q, q = jSto1 L179 1 (.int (i32 ((many + (1))))) := ⟨_, rfl⟩
                              rw [← eL251]
                              have gL251_0 : jGet L251 0 = some (.ref 66) := eL251 ▸ jg_ne (by decide) gL179_0 rfl
                              have gL251_2 : jGet L251 2 = some (.int (i32 (r132))) := eL251 ▸ jg_ne (by decide) gL179_2 rfl
                              have gL251_1 : jGet L251 1 = some (.int (i32 ((many + (1))))) := eL251 ▸ jg_eq
                              refine jx_go (tg := 19) rfl rfl ?_
                              refine jx_ld (pc' := 20) (l' := L251) (st' := [.ref 66]) rfl (jl_aloadn gL251_0) ?_
                              refine jx_ar (pc' := 21) (st' := [.int (i32 (0)), .ref 66]) rfl rfl rfl rfl ?_
                              have b252 : (-1 : Int) ≤ A 5 (ln2_208).toNat ∧ A 5 (ln2_208).toNat ≤ 15 := hW.2 5 _
                              refine jx_vr (pc' := 24) (as := [.int (i32 (0))]) (st := []) rfl rfl rfl rfl ⟨rfl, rfl, Nat.le_of_ble_eq_true rfl⟩ rfl rfl (c_isBelow (dd := d) (hd := by omega) (hW := hW248) (lv := 0) (ln := ln2_208) (e_ln := show G205 9 = ln2_208 from (e220)) (li := li) (e_li := show G205 3 = li from ((hF217.1 3 rfl).trans ((hF185.1 3 rfl).trans ((hF137.1 3 rfl).trans ((hF51.1 3 rfl).trans ((hF28.1 3 rfl).trans ((hF7.1 3 rfl).trans ((hFx.1 3 rfl).trans (e_li))))))))) (fk := fk2_210) (e_fk := show G205 16 = fk2_210 from (e222)) (ll := A 5 (ln2_208).toNat) (e_ll := show A247 5 (ln2_208).toNat = A 5 (ln2_208).toNat from (congrFun (((congrFun eA247 5).trans (uA_ne (by decide))).trans ((hF217.2 5 rfl).trans ((hF185.2 5 rfl).trans ((hF137.2 5 rfl).trans ((hF51.2 5 rfl).trans ((hF28.2 5 rfl).trans ((hF7.2 5 rfl).trans (hFx.2 5 rfl)))))))) _))  (h_lv := ⟨(by decide), (by decide)⟩)  (p_0 := by omega)) (fun o V' hq => ?_)
                              obtain ⟨G253, A254, r255, fk2_256, rfl, rfl, hW257, hF258, b259, e260, q261⟩ := hq
                              have hF262 := Fr_tr hF249 hF258 (Fr_sub (by decide)) (Fr_sub (by decide))
                              have bfk2_256 : (0 : Int) ≤ fk2_256 ∧ fk2_256 ≤ 6 := e260 ▸ hW257.1 16
                              refine .inr ⟨_, rfl, ?_⟩
                              rcases q261 with ⟨rfl, a263, a264, a265, a266⟩ | ⟨rfl, a267⟩ | ⟨rfl, a268, a269⟩
                              · have _q : True := trivial
                                exfalso
                                omega
                              · have _q : True := trivial
                                refine jx_if_eq (pc' := 27) (tg := 125) rfl rfl rfl (by decide) (by decide) (fun h270 => ?_) (fun h270 => ?_)
                                · have _q := h270
                                  refine jx_ld (pc' := 126) (l' := L251) (st' := [.ref 66]) rfl (jl_aloadn gL251_0) ?_
                                  refine jx_vr (pc' := 129) (as := []) (st := []) rfl rfl rfl rfl ⟨rfl, rfl, Nat.le_of_ble_eq_true rfl⟩ rfl rfl (c_bad (dd := d) (hd := by omega) (hW := hW257)  (fk := fk2_256) (e_fk := show G253 16 = fk2_256 from (e260))    ) (fun o V' hq => ?_)
                                  obtain ⟨r271, rfl, rfl, b272, q273⟩ := hq
                                  refine .inr ⟨_, rfl, ?_⟩
                                  rcases q273 with ⟨rfl, a274⟩ | ⟨rfl, a275⟩
                                  · have _q : True := trivial
                                    refine jx_if_ne (pc' := 132) (tg := 142) rfl rfl rfl (by decide) (by decide) (fun h276 => ?_) (fun h276 => ?_)
                                    · have _q := h276
                                      refine jx_rt (v := none) rfl rfl rfl rfl rfl rfl ?_
                                      exact ⟨_, _, ln2_208, at2_209, fk2_256, nd2_211, sy2_212, na2_213, vi2_214, lf2_215, rfl, rfl, hW257, hF262, ((hF258.1 9 rfl).trans (e220)), ((hF258.1 10 rfl).trans (e221)), (e260), ((hF258.1 31 rfl).trans (e223)), ((hF258.1 19 rfl).trans (e224)), ((hF258.1 28 rfl).trans (e225)), ((hF258.1 29 rfl).trans (e226)), (congrFun ((hF258.2 3 rfl).trans ((congrFun eA247 3).trans (uA_ne (by decide)))) _).trans (e227), by omega, by omega, by omega, by omega, by first | exact Or.inl (by omega) | exact Or.inr ((by omega))⟩
                                    · have _q := h276
                                      exact absurd h276 (by omega)
                                  · have _q : True := trivial
                                    exfalso
                                    omega
                                · have _q := h270
                                  exact absurd h270 (by omega)
                              · have _q : True := trivial
                                exfalso
                                omega
                            · have _q : True := trivial
                              refine jr_st (pc' := 119) (i := 36) (m := 6) (z := r132) (y := r207) rfl (by decide) rfl (by decide) (by omega) (by omega) rfl ?_
                              have hW278 : Wk G205 (uA A206 36 (r132).toNat (r207)) := Wk_a hW216 (show (-2147483648 : Int) ≤ r207 by omega) (show r207 ≤ (2147483647 : Int) by omega)
                              have hF279 := Fr_a (z := r207) (k := 36) (n := (r132).toNat) hF238 (by decide)
                              obtain ⟨A277, eA277⟩ : ∃ q, q = uA A206 36 (r132).toNat (r207) := ⟨_, rfl⟩
                              rw [← eA277]
                              rw [← eA277] at hW278 hF279
                              have q280 : A277 36 (r132).toNat = r207 := by rw [eA277]; exact uA_eq
                              refine jx_inc (pc' := 122) (l' := jSto1 L179 1 (.int (i32 ((many + (1)))))) (x := many) rfl gL179_1 (by decide) rfl rfl ?_
                              obtain ⟨L281, eL281⟩ : ∃ q, q = jSto1 L179 1 (.int (i32 ((many + (1))))) := ⟨_, rfl⟩
                              rw [← eL281]
                              have gL281_0 : jGet L281 0 = some (.ref 66) := eL281 ▸ jg_ne (by decide) gL179_0 rfl
                              have gL281_2 : jGet L281 2 = some (.int (i32 (r132))) := eL281 ▸ jg_ne (by decide) gL179_2 rfl
                              have gL281_1 : jGet L281 1 = some (.int (i32 ((many + (1))))) := eL281 ▸ jg_eq
                              refine jx_go (tg := 19) rfl rfl ?_
                              exact ih19 _ (by omega) L281 G205 A277 ((many + (1))) (ln2_208) (at2_209) (fk2_210) (nd2_211) (sy2_212) (na2_213) (vi2_214) (lf2_215) rfl gL281_0 gL281_1 hW278 hF279 ((e220)) ((e221)) ((e222)) ((e223)) ((e224)) ((e225)) ((e226)) ((congrFun ((congrFun eA277 3).trans (uA_ne (by decide))) _).trans (e227)) (by omega) (by omega) (by omega) (by omega) (by omega) (by omega) (by omega) (by omega) (by omega) (by omega)
                          · have _q := h204
                            exact absurd h204 (by omega)
                      · have _q : True := trivial
                        refine jx_ld (pc' := 101) (l' := L179) (st' := [.ref 66]) rfl (jl_aloadn gL179_0) ?_
                        refine jx_vr (pc' := 104) (as := []) (st := []) rfl rfl rfl rfl ⟨rfl, rfl, Nat.le_of_ble_eq_true rfl⟩ rfl rfl (c_bad (dd := d) (hd := by omega) (hW := hW184)  (fk := fk2_183) (e_fk := show G180 16 = fk2_183 from (e187))    ) (fun o V' hq => ?_)
                        obtain ⟨r282, rfl, rfl, b283, q284⟩ := hq
                        refine .inr ⟨_, rfl, ?_⟩
                        rcases q284 with ⟨rfl, a285⟩ | ⟨rfl, a286⟩
                        · have _q : True := trivial
                          refine jx_if_eq (pc' := 107) (tg := 108) rfl rfl rfl (by decide) (by decide) (fun h287 => ?_) (fun h287 => ?_)
                          · have _q := h287
                            exact absurd h287 (by omega)
                          · have _q := h287
                            refine jx_rt (v := none) rfl rfl rfl rfl rfl rfl ?_
                            exact ⟨_, _, ln2_182, at2_133, fk2_183, nd1, sy1, na1, vi1, A 3 (ln2_182).toNat, rfl, rfl, hW184, hF189, (e186), ((hF185.1 10 rfl).trans (e139)), (e187), ((hF185.1 31 rfl).trans ((hF137.1 31 rfl).trans ((hF51.1 31 rfl).trans ((hF28.1 31 rfl).trans ((hF7.1 31 rfl).trans (ex_nd1)))))), ((hF185.1 19 rfl).trans ((hF137.1 19 rfl).trans ((hF51.1 19 rfl).trans ((hF28.1 19 rfl).trans ((hF7.1 19 rfl).trans (ex_sy1)))))), ((hF185.1 28 rfl).trans ((hF137.1 28 rfl).trans ((hF51.1 28 rfl).trans ((hF28.1 28 rfl).trans ((hF7.1 28 rfl).trans (ex_na1)))))), ((hF185.1 29 rfl).trans ((hF137.1 29 rfl).trans ((hF51.1 29 rfl).trans ((hF28.1 29 rfl).trans ((hF7.1 29 rfl).trans (ex_vi1)))))), (congrFun ((hF185.2 3 rfl).trans ((hF137.2 3 rfl).trans ((hF51.2 3 rfl).trans ((hF28.2 3 rfl).trans ((hF7.2 3 rfl).trans (hFx.2 3 rfl)))))) _), by omega, by omega, by omega, by omega, by first | exact Or.inl (by omega) | exact Or.inr ((by omega))⟩
                        · have _q : True := trivial
                          exfalso
                          omega
                  · have _q := h129
                    refine jx_ld (pc' := 57) (l' := L) (st' := [.ref 66]) rfl (jl_aloadn gL_0) ?_
                    have b288 : (-2147483648 : Int) ≤ G45 13 ∧ G45 13 ≤ 2147483647 := hW50.1 13
                    refine jr_get (pc' := 60) (i := 13) (v := .int (i32 (G45 13))) rfl rfl (by decide) rfl rfl ?_
                    refine jx_ar (pc' := 61) (st' := [.int (i32 (0)), .int (i32 (G45 13))]) rfl rfl rfl rfl ?_
                    refine jx_ar (pc' := 62) (st' := [.int (i32 (5)), .int (i32 (0)), .int (i32 (G45 13))]) rfl rfl rfl rfl ?_
                    refine jx_st (pc' := 65) (as := [.int (i32 (G45 13)), .int (i32 (0)), .int (i32 (5))]) (st := []) rfl rfl ⟨rfl, Nat.le_of_ble_eq_true rfl⟩ rfl rfl rfl (c_in (dd := d) (hd := by omega) (v := G45 13) (a := 0) (b := 5)   (h_v := ⟨(Int.le_trans (by decide : (-2147483648 : Int) ≤ -2147483648) b288.1), (Int.le_trans b288.2 (by decide : (2147483647 : Int) ≤ 2147483647))⟩) (h_a := ⟨(by decide), (by decide)⟩) (h_b := ⟨(by decide), (by decide)⟩)  ) (fun o V' hq => ?_)
                    obtain ⟨r289, rfl, rfl, b290, q291⟩ := hq
                    refine .inr ⟨_, rfl, ?_⟩
                    rcases q291 with ⟨rfl, a292, a293⟩ | ⟨rfl, a294⟩
                    · have _q : True := trivial
                      refine jx_if_eq (pc' := 68) (tg := 89) rfl rfl rfl (by decide) (by decide) (fun h295 => ?_) (fun h295 => ?_)
                      · have _q := h295
                        exact absurd h295 (by omega)
                      · have _q := h295
                        refine jx_ld (pc' := 69) (l' := L) (st' := [.ref 66]) rfl (jl_aloadn gL_0) ?_
                        refine jr_get (pc' := 72) (i := 55) (v := .ref 103) rfl rfl (by decide) rfl rfl ?_
                        refine jx_ld (pc' := 73) (l' := L) (st' := [.ref 66, .ref 103]) rfl (jl_aloadn gL_0) ?_
                        refine jr_get (pc' := 76) (i := 13) (v := .int (i32 (G45 13))) rfl rfl (by decide) rfl rfl ?_
                        have b296 : (-2147483648 : Int) ≤ Ax 36 (G45 13).toNat ∧ Ax 36 (G45 13).toNat ≤ 2147483647 := hWx.2 36 _
                        refine jr_ldv (pc' := 77) (i := 36) (m := 6) (z := G45 13) (y := Ax 36 (G45 13).toNat) rfl (by decide) rfl (by decide) (by omega) (by omega) rfl (show A46 36 (G45 13).toNat = Ax 36 (G45 13).toNat from (congrFun ((hF51.2 36 rfl).trans ((hF28.2 36 rfl).trans (hF7.2 36 rfl))) _)) ?_
                        refine jx_if_le (pc' := 80) (tg := 89) rfl rfl rfl (Int.le_trans (by decide : (-2147483648 : Int) ≤ -2147483648) b296.1) (Int.le_trans b296.2 (by decide : (2147483647 : Int) ≤ 2147483647)) (fun h297 => ?_) (fun h297 => ?_)
                        · have _q := h297
                          refine jx_ld (pc' := 90) (l' := L) (st' := [.ref 66]) rfl (jl_aloadn gL_0) ?_
                          refine jx_ar (pc' := 91) (st' := [.int (i32 (0)), .ref 66]) rfl rfl rfl rfl ?_
                          refine jx_ar (pc' := 92) (st' := [.int (i32 (5)), .int (i32 (0)), .ref 66]) rfl rfl rfl rfl ?_
                          refine jx_vr (pc' := 95) (as := [.int (i32 (0)), .int (i32 (5))]) (st := []) rfl rfl rfl rfl ⟨rfl, rfl, Nat.le_of_ble_eq_true rfl⟩ rfl rfl (c_needNumber (dd := d) (hd := by omega) (hW := hW50) (lo := 0) (hi := 5) (ln := ln1) (e_ln := show G45 9 = ln1 from ((hF51.1 9 rfl).trans ((hF28.1 9 rfl).trans ((hF7.1 9 rfl).trans (ex_ln1))))) (le := A 4 (ln1).toNat) (e_le := show A46 4 (ln1).toNat = A 4 (ln1).toNat from (congrFun ((hF51.2 4 rfl).trans ((hF28.2 4 rfl).trans ((hF7.2 4 rfl).trans (hFx.2 4 rfl)))) _)) (at0 := at2_47) (e_at0 := show G45 10 = at2_47 from (e52)) (fk := fk2_49) (e_fk := show G45 16 = fk2_49 from (e54)) (tk0 := tk2_48) (e_tk0 := show G45 11 = tk2_48 from (e53))  (h_lo := ⟨(by decide), (by decide)⟩) (h_hi := ⟨(by decide), (by decide)⟩)  (p_0 := by omega)) (fun o V' hq => ?_)
                          obtain ⟨G298, A299, r300, at2_301, tk2_302, fk2_303, rfl, rfl, hW304, hF305, b306, e307, e308, e309, p310, p311, q312⟩ := hq
                          have hF313 := Fr_tr hF58 hF305 (Fr_sub (by decide)) (Fr_sub (by decide))
                          have bat2_301 : (0 : Int) ≤ at2_301 ∧ at2_301 ≤ 3002 := e307 ▸ hW304.1 10
                          have ztk2_302 := tz_b tk2_302
                          have btk2_302 : (0 : Int) ≤ tk2_302 ∧ tk2_302 ≤ 5 := e308 ▸ hW304.1 11
                          have bfk2_303 : (0 : Int) ≤ fk2_303 ∧ fk2_303 ≤ 6 := e309 ▸ hW304.1 16
                          refine .inr ⟨_, rfl, ?_⟩
                          rcases q312 with ⟨a314, a315, a316, a317⟩ | ⟨a318, a319, a320, a321, a322⟩
                          · have _q : True := trivial
                            refine jx_ld (pc' := 96) (l' := jSto1 L 2 (.int (i32 (r300)))) (st' := []) rfl rfl ?_
                            obtain ⟨L323, eL323⟩ : ∃ q, q = jSto1 L 2 (.int (i32 (r300))) := ⟨_, rfl⟩
                            rw [← eL323]
                            have gL323_0 : jGet L323 0 = some (.ref 66) := eL323 ▸ jg_ne (by decide) gL_0 rfl
                            have gL323_1 : jGet L323 1 = some (.int (i32 (many))) := eL323 ▸ jg_ne (by decide) gL_1 rfl
                            have gL323_2 : jGet L323 2 = some (.int (i32 (r300))) := eL323 ▸ jg_eq
                            refine jx_ld (pc' := 97) (l' := L323) (st' := [.ref 66]) rfl (jl_aloadn gL323_0) ?_
                            refine jx_vr (pc' := 100) (as := []) (st := []) rfl rfl rfl rfl ⟨rfl, rfl, Nat.le_of_ble_eq_true rfl⟩ rfl rfl (c_endLine (dd := d) (hd := by omega) (hW := hW304)  (ln := ln1) (e_ln := show G298 9 = ln1 from ((hF305.1 9 rfl).trans ((hF51.1 9 rfl).trans ((hF28.1 9 rfl).trans ((hF7.1 9 rfl).trans (ex_ln1)))))) (li := li) (e_li := show G298 3 = li from ((hF305.1 3 rfl).trans ((hF51.1 3 rfl).trans ((hF28.1 3 rfl).trans ((hF7.1 3 rfl).trans ((hFx.1 3 rfl).trans (e_li))))))) (fk := fk2_303) (e_fk := show G298 16 = fk2_303 from (e309)) (tk0 := tk2_302) (e_tk0 := show G298 11 = tk2_302 from (e308))    (p_0 := by omega)) (fun o V' hq => ?_)
                            obtain ⟨G324, A325, ln2_326, fk2_327, rfl, rfl, hW328, hF329, e330, e331, q332⟩ := hq
                            have hF333 := Fr_tr hF313 hF329 (Fr_sub (by decide)) (Fr_sub (by decide))
                            have bln2_326 : (0 : Int) ≤ ln2_326 ∧ ln2_326 ≤ 3000 := e330 ▸ hW328.1 9
                            have bfk2_327 : (0 : Int) ≤ fk2_327 ∧ fk2_327 ≤ 6 := e331 ▸ hW328.1 16
                            refine .inl ⟨rfl, ?_⟩
                            rcases q332 with ⟨a334, a335, a336, a337, a338⟩ | ⟨a339, a340⟩
                            · have _q : True := trivial
                              exfalso
                              omega
                            · have _q : True := trivial
                              refine jx_ld (pc' := 101) (l' := L323) (st' := [.ref 66]) rfl (jl_aloadn gL323_0) ?_
                              refine jx_vr (pc' := 104) (as := []) (st := []) rfl rfl rfl rfl ⟨rfl, rfl, Nat.le_of_ble_eq_true rfl⟩ rfl rfl (c_bad (dd := d) (hd := by omega) (hW := hW328)  (fk := fk2_327) (e_fk := show G324 16 = fk2_327 from (e331))    ) (fun o V' hq => ?_)
                              obtain ⟨r341, rfl, rfl, b342, q343⟩ := hq
                              refine .inr ⟨_, rfl, ?_⟩
                              rcases q343 with ⟨rfl, a344⟩ | ⟨rfl, a345⟩
                              · have _q : True := trivial
                                refine jx_if_eq (pc' := 107) (tg := 108) rfl rfl rfl (by decide) (by decide) (fun h346 => ?_) (fun h346 => ?_)
                                · have _q := h346
                                  exact absurd h346 (by omega)
                                · have _q := h346
                                  refine jx_rt (v := none) rfl rfl rfl rfl rfl rfl ?_
                                  exact ⟨_, _, ln2_326, at2_301, fk2_327, nd1, sy1, na1, vi1, A 3 (ln2_326).toNat, rfl, rfl, hW328, hF333, (e330), ((hF329.1 10 rfl).trans (e307)), (e331), ((hF329.1 31 rfl).trans ((hF305.1 31 rfl).trans ((hF51.1 31 rfl).trans ((hF28.1 31 rfl).trans ((hF7.1 31 rfl).trans (ex_nd1)))))), ((hF329.1 19 rfl).trans ((hF305.1 19 rfl).trans ((hF51.1 19 rfl).trans ((hF28.1 19 rfl).trans ((hF7.1 19 rfl).trans (ex_sy1)))))), ((hF329.1 28 rfl).trans ((hF305.1 28 rfl).trans ((hF51.1 28 rfl).trans ((hF28.1 28 rfl).trans ((hF7.1 28 rfl).trans (ex_na1)))))), ((hF329.1 29 rfl).trans ((hF305.1 29 rfl).trans ((hF51.1 29 rfl).trans ((hF28.1 29 rfl).trans ((hF7.1 29 rfl).trans (ex_vi1)))))), (congrFun ((hF329.2 3 rfl).trans ((hF305.2 3 rfl).trans ((hF51.2 3 rfl).trans ((hF28.2 3 rfl).trans ((hF7.2 3 rfl).trans (hFx.2 3 rfl)))))) _), by omega, by omega, by omega, by omega, by first | exact Or.inl (by omega) | exact Or.inr ((by omega))⟩
                              · have _q : True := trivial
                                exfalso
                                omega
                          · have _q : True := trivial
                            refine jx_ld (pc' := 96) (l' := jSto1 L 2 (.int (i32 (r300)))) (st' := []) rfl rfl ?_
                            obtain ⟨L347, eL347⟩ : ∃ q, q = jSto1 L 2 (.int (i32 (r300))) := ⟨_, rfl⟩
                            rw [← eL347]
                            have gL347_0 : jGet L347 0 = some (.ref 66) := eL347 ▸ jg_ne (by decide) gL_0 rfl
                            have gL347_1 : jGet L347 1 = some (.int (i32 (many))) := eL347 ▸ jg_ne (by decide) gL_1 rfl
                            have gL347_2 : jGet L347 2 = some (.int (i32 (r300))) := eL347 ▸ jg_eq
                            refine jx_ld (pc' := 97) (l' := L347) (st' := [.ref 66]) rfl (jl_aloadn gL347_0) ?_
                            refine jx_vr (pc' := 100) (as := []) (st := []) rfl rfl rfl rfl ⟨rfl, rfl, Nat.le_of_ble_eq_true rfl⟩ rfl rfl (c_endLine (dd := d) (hd := by omega) (hW := hW304)  (ln := ln1) (e_ln := show G298 9 = ln1 from ((hF305.1 9 rfl).trans ((hF51.1 9 rfl).trans ((hF28.1 9 rfl).trans ((hF7.1 9 rfl).trans (ex_ln1)))))) (li := li) (e_li := show G298 3 = li from ((hF305.1 3 rfl).trans ((hF51.1 3 rfl).trans ((hF28.1 3 rfl).trans ((hF7.1 3 rfl).trans ((hFx.1 3 rfl).trans (e_li))))))) (fk := fk2_303) (e_fk := show G298 16 = fk2_303 from (e309)) (tk0 := tk2_302) (e_tk0 := show G298 11 = tk2_302 from (e308))    (p_0 := by omega)) (fun o V' hq => ?_)
                            obtain ⟨G348, A349, ln2_350, fk2_351, rfl, rfl, hW352, hF353, e354, e355, q356⟩ := hq
                            have hF357 := Fr_tr hF313 hF353 (Fr_sub (by decide)) (Fr_sub (by decide))
                            have bln2_350 : (0 : Int) ≤ ln2_350 ∧ ln2_350 ≤ 3000 := e354 ▸ hW352.1 9
                            have bfk2_351 : (0 : Int) ≤ fk2_351 ∧ fk2_351 ≤ 6 := e355 ▸ hW352.1 16
                            refine .inl ⟨rfl, ?_⟩
                            rcases q356 with ⟨a358, a359, a360, a361, a362⟩ | ⟨a363, a364⟩
                            · have _q : True := trivial
                              have b365 : (0 : Int) ≤ A 3 (ln2_350).toNat ∧ A 3 (ln2_350).toNat ≤ 3000 := hW.2 3 _
                              have lt366 : ln2_350 < li → A 4 (ln1).toNat < A 3 (ln2_350).toNat := fun hh => LT_nx (LT_ext (((hF353.1 3 rfl).trans ((hF305.1 3 rfl).trans ((hF51.1 3 rfl).trans ((hF28.1 3 rfl).trans ((hF7.1 3 rfl).trans (hFx.1 3 rfl))))))) (((hF353.2 3 rfl).trans ((hF305.2 3 rfl).trans ((hF51.2 3 rfl).trans ((hF28.2 3 rfl).trans ((hF7.2 3 rfl).trans (hFx.2 3 rfl))))))) (((hF353.2 4 rfl).trans ((hF305.2 4 rfl).trans ((hF51.2 4 rfl).trans ((hF28.2 4 rfl).trans ((hF7.2 4 rfl).trans (hFx.2 4 rfl))))))) i_LT) (show G348 3 = li from ((hF353.1 3 rfl).trans ((hF305.1 3 rfl).trans ((hF51.1 3 rfl).trans ((hF28.1 3 rfl).trans ((hF7.1 3 rfl).trans ((hFx.1 3 rfl).trans (e_li)))))))) (show A349 4 (ln1).toNat = A 4 (ln1).toNat from (congrFun ((hF353.2 4 rfl).trans ((hF305.2 4 rfl).trans ((hF51.2 4 rfl).trans ((hF28.2 4 rfl).trans ((hF7.2 4 rfl).trans (hFx.2 4 rfl)))))) _)) (show A349 3 (ln2_350).toNat = A 3 (ln2_350).toNat from (congrFun ((hF353.2 3 rfl).trans ((hF305.2 3 rfl).trans ((hF51.2 3 rfl).trans ((hF28.2 3 rfl).trans ((hF7.2 3 rfl).trans (hFx.2 3 rfl)))))) _)) (show ln2_350 = ln1 + 1 by omega) (by omega) hh
                              refine jx_ld (pc' := 101) (l' := L347) (st' := [.ref 66]) rfl (jl_aloadn gL347_0) ?_
                              refine jx_vr (pc' := 104) (as := []) (st := []) rfl rfl rfl rfl ⟨rfl, rfl, Nat.le_of_ble_eq_true rfl⟩ rfl rfl (c_bad (dd := d) (hd := by omega) (hW := hW352)  (fk := fk2_351) (e_fk := show G348 16 = fk2_351 from (e355))    ) (fun o V' hq => ?_)
                              obtain ⟨r367, rfl, rfl, b368, q369⟩ := hq
                              refine .inr ⟨_, rfl, ?_⟩
                              rcases q369 with ⟨rfl, a370⟩ | ⟨rfl, a371⟩
                              · have _q : True := trivial
                                exfalso
                                omega
                              · have _q : True := trivial
                                refine jx_if_eq (pc' := 107) (tg := 108) rfl rfl rfl (by decide) (by decide) (fun h372 => ?_) (fun h372 => ?_)
                                · have _q := h372
                                  refine jx_ld (pc' := 109) (l' := L347) (st' := [.ref 66]) rfl (jl_aloadn gL347_0) ?_
                                  refine jr_get (pc' := 112) (i := 55) (v := .ref 103) rfl rfl (by decide) rfl rfl ?_
                                  refine jx_ld (pc' := 113) (l' := L347) (st' := [.int (i32 (r300)), .ref 103]) rfl (jl_iloadn gL347_2) ?_
                                  refine jx_ld (pc' := 114) (l' := L347) (st' := [.ref 66, .int (i32 (r300)), .ref 103]) rfl (jl_aloadn gL347_0) ?_
                                  refine jx_ar (pc' := 115) (st' := [.int (i32 (2)), .ref 66, .int (i32 (r300)), .ref 103]) rfl rfl rfl rfl ?_
                                  refine jx_vr (pc' := 118) (as := [.int (i32 (2))]) (st := [.int (i32 (r300)), .ref 103]) rfl rfl rfl rfl ⟨rfl, rfl, Nat.le_of_ble_eq_true rfl⟩ rfl rfl (RP_all X 18 (dd := d) (hd := by omega) (hW := hW352) (lv := 2) (at0 := at2_301) (ln := ln2_350) (e_ln := show G348 9 = ln2_350 from (e354)) (li := li) (e_li := show G348 3 = li from ((hF353.1 3 rfl).trans ((hF305.1 3 rfl).trans ((hF51.1 3 rfl).trans ((hF28.1 3 rfl).trans ((hF7.1 3 rfl).trans ((hFx.1 3 rfl).trans (e_li)))))))) (fk := fk2_351) (e_fk := show G348 16 = fk2_351 from (e355)) (nd := nd1) (e_nd := show G348 31 = nd1 from ((hF353.1 31 rfl).trans ((hF305.1 31 rfl).trans ((hF51.1 31 rfl).trans ((hF28.1 31 rfl).trans ((hF7.1 31 rfl).trans (ex_nd1))))))) (sy := sy1) (e_sy := show G348 19 = sy1 from ((hF353.1 19 rfl).trans ((hF305.1 19 rfl).trans ((hF51.1 19 rfl).trans ((hF28.1 19 rfl).trans ((hF7.1 19 rfl).trans (ex_sy1))))))) (na := na1) (e_na := show G348 28 = na1 from ((hF353.1 28 rfl).trans ((hF305.1 28 rfl).trans ((hF51.1 28 rfl).trans ((hF28.1 28 rfl).trans ((hF7.1 28 rfl).trans (ex_na1))))))) (vi := vi1) (e_vi := show G348 29 = vi1 from ((hF353.1 29 rfl).trans ((hF305.1 29 rfl).trans ((hF51.1 29 rfl).trans ((hF28.1 29 rfl).trans ((hF7.1 29 rfl).trans (ex_vi1))))))) (lf := A 3 (ln2_350).toNat) (e_lf := show A349 3 (ln2_350).toNat = A 3 (ln2_350).toNat from (congrFun ((hF353.2 3 rfl).trans ((hF305.2 3 rfl).trans ((hF51.2 3 rfl).trans ((hF28.2 3 rfl).trans ((hF7.2 3 rfl).trans (hFx.2 3 rfl)))))) _)) (ac := at2_301) (e_ac := show G348 10 = at2_301 from ((hF353.1 10 rfl).trans (e307))) (i_LT := (LT_ext (((hF353.1 3 rfl).trans ((hF305.1 3 rfl).trans ((hF51.1 3 rfl).trans ((hF28.1 3 rfl).trans ((hF7.1 3 rfl).trans (hFx.1 3 rfl))))))) (((hF353.2 3 rfl).trans ((hF305.2 3 rfl).trans ((hF51.2 3 rfl).trans ((hF28.2 3 rfl).trans ((hF7.2 3 rfl).trans (hFx.2 3 rfl))))))) (((hF353.2 4 rfl).trans ((hF305.2 4 rfl).trans ((hF51.2 4 rfl).trans ((hF28.2 4 rfl).trans ((hF7.2 4 rfl).trans (hFx.2 4 rfl))))))) i_LT)) (h_lv := ⟨(by decide), (by decide)⟩)  (p_0 := by omega) (p_1 := by omega) (p_2 := by omega) (p_3 := by omega) (p_4 := by omega) (p_5 := by omega) (p_6 := by omega) (p_7 := by omega) (p_8 := by omega) (p_9 := by omega)) (fun o V' hq => ?_)
                                  obtain ⟨G373, A374, r375, ln2_376, at2_377, fk2_378, nd2_379, sy2_380, na2_381, vi2_382, lf2_383, rfl, rfl, hW384, hF385, hQ386, b387, e388, e389, e390, e391, e392, e393, e394, e395, p396, p397, p398, p399, p400, p401, p402, p403, p404, q405⟩ := hq
                                  have hF406 := Fr_tr hF357 hF385 (Fr_sub (by decide)) (Fr_sub (by decide))
                                  have bln2_376 : (0 : Int) ≤ ln2_376 ∧ ln2_376 ≤ 3000 := e388 ▸ hW384.1 9
                                  have bat2_377 : (0 : Int) ≤ at2_377 ∧ at2_377 ≤ 3002 := e389 ▸ hW384.1 10
                                  have bfk2_378 : (0 : Int) ≤ fk2_378 ∧ fk2_378 ≤ 6 := e390 ▸ hW384.1 16
                                  have bnd2_379 : (0 : Int) ≤ nd2_379 ∧ nd2_379 ≤ 6999 := e391 ▸ hW384.1 31
                                  have bsy2_380 : (0 : Int) ≤ sy2_380 ∧ sy2_380 ≤ 202 := e392 ▸ hW384.1 19
                                  have bna2_381 : (0 : Int) ≤ na2_381 ∧ na2_381 ≤ 200 := e393 ▸ hW384.1 28
                                  have bvi2_382 : (0 : Int) ≤ vi2_382 ∧ vi2_382 ≤ 202 := e394 ▸ hW384.1 29
                                  have blf2_383 : (0 : Int) ≤ lf2_383 ∧ lf2_383 ≤ 3000 := e395 ▸ hW384.2 3 _
                                  refine .inr ⟨_, rfl, ?_⟩
                                  rcases q405 with ⟨a407, a408⟩ | ⟨a409, a410, a411, a412, a413, a414⟩
                                  · have _q : True := trivial
                                    refine jr_st (pc' := 119) (i := 36) (m := 6) (z := r300) (y := r375) rfl (by decide) rfl (by decide) (by omega) (by omega) rfl ?_
                                    have hW416 : Wk G373 (uA A374 36 (r300).toNat (r375)) := Wk_a hW384 (show (-2147483648 : Int) ≤ r375 by omega) (show r375 ≤ (2147483647 : Int) by omega)
                                    have hF417 := Fr_a (z := r375) (k := 36) (n := (r300).toNat) hF406 (by decide)
                                    obtain ⟨A415, eA415⟩ : ∃ q, q = uA A374 36 (r300).toNat (r375) := ⟨_, rfl⟩
                                    rw [← eA415]
                                    rw [← eA415] at hW416 hF417
                                    have q418 : A415 36 (r300).toNat = r375 := by rw [eA415]; exact uA_eq
                                    refine jx_inc (pc' := 122) (l' := jSto1 L347 1 (.int (i32 ((many + (1)))))) (x := many) rfl gL347_1 (by decide) rfl rfl ?_
                                    obtain ⟨L419, eL419⟩ : ∃ q, q = jSto1 L347 1 (.int (i32 ((many + (1))))) := ⟨_, rfl⟩
                                    rw [← eL419]
                                    have gL419_0 : jGet L419 0 = some (.ref 66) := eL419 ▸ jg_ne (by decide) gL347_0 rfl
                                    have gL419_2 : jGet L419 2 = some (.int (i32 (r300))) := eL419 ▸ jg_ne (by decide) gL347_2 rfl
                                    have gL419_1 : jGet L419 1 = some (.int (i32 ((many + (1))))) := eL419 ▸ jg_eq
                                    refine jx_go (tg := 19) rfl rfl ?_
                                    refine jx_ld (pc' := 20) (l' := L419) (st' := [.ref 66]) rfl (jl_aloadn gL419_0) ?_
                                    refine jx_ar (pc' := 21) (st' := [.int (i32 (0)), .ref 66]) rfl rfl rfl rfl ?_
                                    have b420 : (-1 : Int) ≤ A 5 (ln2_376).toNat ∧ A 5 (ln2_376).toNat ≤ 15 := hW.2 5 _
                                    refine jx_vr (pc' := 24) (as := [.int (i32 (0))]) (st := []) rfl rfl rfl rfl ⟨rfl, rfl, Nat.le_of_ble_eq_true rfl⟩ rfl rfl (c_isBelow (dd := d) (hd := by omega) (hW := hW416) (lv := 0) (ln := ln2_376) (e_ln := show G373 9 = ln2_376 from (e388)) (li := li) (e_li := show G373 3 = li from ((hF385.1 3 rfl).trans ((hF353.1 3 rfl).trans ((hF305.1 3 rfl).trans ((hF51.1 3 rfl).trans ((hF28.1 3 rfl).trans ((hF7.1 3 rfl).trans ((hFx.1 3 rfl).trans (e_li))))))))) (fk := fk2_378) (e_fk := show G373 16 = fk2_378 from (e390)) (ll := A 5 (ln2_376).toNat) (e_ll := show A415 5 (ln2_376).toNat = A 5 (ln2_376).toNat from (congrFun (((congrFun eA415 5).trans (uA_ne (by decide))).trans ((hF385.2 5 rfl).trans ((hF353.2 5 rfl).trans ((hF305.2 5 rfl).trans ((hF51.2 5 rfl).trans ((hF28.2 5 rfl).trans ((hF7.2 5 rfl).trans (hFx.2 5 rfl)))))))) _))  (h_lv := ⟨(by decide), (by decide)⟩)  (p_0 := by omega)) (fun o V' hq => ?_)
                                    obtain ⟨G421, A422, r423, fk2_424, rfl, rfl, hW425, hF426, b427, e428, q429⟩ := hq
                                    have hF430 := Fr_tr hF417 hF426 (Fr_sub (by decide)) (Fr_sub (by decide))
                                    have bfk2_424 : (0 : Int) ≤ fk2_424 ∧ fk2_424 ≤ 6 := e428 ▸ hW425.1 16
                                    refine .inr ⟨_, rfl, ?_⟩
                                    rcases q429 with ⟨rfl, a431, a432, a433, a434⟩ | ⟨rfl, a435⟩ | ⟨rfl, a436, a437⟩
                                    · have _q : True := trivial
                                      exfalso
                                      omega
                                    · have _q : True := trivial
                                      refine jx_if_eq (pc' := 27) (tg := 125) rfl rfl rfl (by decide) (by decide) (fun h438 => ?_) (fun h438 => ?_)
                                      · have _q := h438
                                        refine jx_ld (pc' := 126) (l' := L419) (st' := [.ref 66]) rfl (jl_aloadn gL419_0) ?_
                                        refine jx_vr (pc' := 129) (as := []) (st := []) rfl rfl rfl rfl ⟨rfl, rfl, Nat.le_of_ble_eq_true rfl⟩ rfl rfl (c_bad (dd := d) (hd := by omega) (hW := hW425)  (fk := fk2_424) (e_fk := show G421 16 = fk2_424 from (e428))    ) (fun o V' hq => ?_)
                                        obtain ⟨r439, rfl, rfl, b440, q441⟩ := hq
                                        refine .inr ⟨_, rfl, ?_⟩
                                        rcases q441 with ⟨rfl, a442⟩ | ⟨rfl, a443⟩
                                        · have _q : True := trivial
                                          refine jx_if_ne (pc' := 132) (tg := 142) rfl rfl rfl (by decide) (by decide) (fun h444 => ?_) (fun h444 => ?_)
                                          · have _q := h444
                                            refine jx_rt (v := none) rfl rfl rfl rfl rfl rfl ?_
                                            exact ⟨_, _, ln2_376, at2_377, fk2_424, nd2_379, sy2_380, na2_381, vi2_382, lf2_383, rfl, rfl, hW425, hF430, ((hF426.1 9 rfl).trans (e388)), ((hF426.1 10 rfl).trans (e389)), (e428), ((hF426.1 31 rfl).trans (e391)), ((hF426.1 19 rfl).trans (e392)), ((hF426.1 28 rfl).trans (e393)), ((hF426.1 29 rfl).trans (e394)), (congrFun ((hF426.2 3 rfl).trans ((congrFun eA415 3).trans (uA_ne (by decide)))) _).trans (e395), by omega, by omega, by omega, by omega, by first | exact Or.inl (by omega) | exact Or.inr ((by omega))⟩
                                          · have _q := h444
                                            exact absurd h444 (by omega)
                                        · have _q : True := trivial
                                          exfalso
                                          omega
                                      · have _q := h438
                                        exact absurd h438 (by omega)
                                    · have _q : True := trivial
                                      exfalso
                                      omega
                                  · have _q : True := trivial
                                    refine jr_st (pc' := 119) (i := 36) (m := 6) (z := r300) (y := r375) rfl (by decide) rfl (by decide) (by omega) (by omega) rfl ?_
                                    have hW446 : Wk G373 (uA A374 36 (r300).toNat (r375)) := Wk_a hW384 (show (-2147483648 : Int) ≤ r375 by omega) (show r375 ≤ (2147483647 : Int) by omega)
                                    have hF447 := Fr_a (z := r375) (k := 36) (n := (r300).toNat) hF406 (by decide)
                                    obtain ⟨A445, eA445⟩ : ∃ q, q = uA A374 36 (r300).toNat (r375) := ⟨_, rfl⟩
                                    rw [← eA445]
                                    rw [← eA445] at hW446 hF447
                                    have q448 : A445 36 (r300).toNat = r375 := by rw [eA445]; exact uA_eq
                                    refine jx_inc (pc' := 122) (l' := jSto1 L347 1 (.int (i32 ((many + (1)))))) (x := many) rfl gL347_1 (by decide) rfl rfl ?_
                                    obtain ⟨L449, eL449⟩ : ∃ q, q = jSto1 L347 1 (.int (i32 ((many + (1))))) := ⟨_, rfl⟩
                                    rw [← eL449]
                                    have gL449_0 : jGet L449 0 = some (.ref 66) := eL449 ▸ jg_ne (by decide) gL347_0 rfl
                                    have gL449_2 : jGet L449 2 = some (.int (i32 (r300))) := eL449 ▸ jg_ne (by decide) gL347_2 rfl
                                    have gL449_1 : jGet L449 1 = some (.int (i32 ((many + (1))))) := eL449 ▸ jg_eq
                                    refine jx_go (tg := 19) rfl rfl ?_
                                    exact ih19 _ (by omega) L449 G373 A445 ((many + (1))) (ln2_376) (at2_377) (fk2_378) (nd2_379) (sy2_380) (na2_381) (vi2_382) (lf2_383) rfl gL449_0 gL449_1 hW446 hF447 ((e388)) ((e389)) ((e390)) ((e391)) ((e392)) ((e393)) ((e394)) ((congrFun ((congrFun eA445 3).trans (uA_ne (by decide))) _).trans (e395)) (by omega) (by omega) (by omega) (by omega) (by omega) (by omega) (by omega) (by omega) (by omega) (by omega)
                                · have _q := h372
                                  exact absurd h372 (by omega)
                            · have _q : True := trivial
                              refine jx_ld (pc' := 101) (l' := L347) (st' := [.ref 66]) rfl (jl_aloadn gL347_0) ?_
                              refine jx_vr (pc' := 104) (as := []) (st := []) rfl rfl rfl rfl ⟨rfl, rfl, Nat.le_of_ble_eq_true rfl⟩ rfl rfl (c_bad (dd := d) (hd := by omega) (hW := hW352)  (fk := fk2_351) (e_fk := show G348 16 = fk2_351 from (e355))    ) (fun o V' hq => ?_)
                              obtain ⟨r450, rfl, rfl, b451, q452⟩ := hq
                              refine .inr ⟨_, rfl, ?_⟩
                              rcases q452 with ⟨rfl, a453⟩ | ⟨rfl, a454⟩
                              · have _q : True := trivial
                                refine jx_if_eq (pc' := 107) (tg := 108) rfl rfl rfl (by decide) (by decide) (fun h455 => ?_) (fun h455 => ?_)
                                · have _q := h455
                                  exact absurd h455 (by omega)
                                · have _q := h455
                                  refine jx_rt (v := none) rfl rfl rfl rfl rfl rfl ?_
                                  exact ⟨_, _, ln2_350, at2_301, fk2_351, nd1, sy1, na1, vi1, A 3 (ln2_350).toNat, rfl, rfl, hW352, hF357, (e354), ((hF353.1 10 rfl).trans (e307)), (e355), ((hF353.1 31 rfl).trans ((hF305.1 31 rfl).trans ((hF51.1 31 rfl).trans ((hF28.1 31 rfl).trans ((hF7.1 31 rfl).trans (ex_nd1)))))), ((hF353.1 19 rfl).trans ((hF305.1 19 rfl).trans ((hF51.1 19 rfl).trans ((hF28.1 19 rfl).trans ((hF7.1 19 rfl).trans (ex_sy1)))))), ((hF353.1 28 rfl).trans ((hF305.1 28 rfl).trans ((hF51.1 28 rfl).trans ((hF28.1 28 rfl).trans ((hF7.1 28 rfl).trans (ex_na1)))))), ((hF353.1 29 rfl).trans ((hF305.1 29 rfl).trans ((hF51.1 29 rfl).trans ((hF28.1 29 rfl).trans ((hF7.1 29 rfl).trans (ex_vi1)))))), (congrFun ((hF353.2 3 rfl).trans ((hF305.2 3 rfl).trans ((hF51.2 3 rfl).trans ((hF28.2 3 rfl).trans ((hF7.2 3 rfl).trans (hFx.2 3 rfl)))))) _), by omega, by omega, by omega, by omega, by first | exact Or.inl (by omega) | exact Or.inr ((by omega))⟩
                              · have _q : True := trivial
                                exfalso
                                omega
                        · have _q := h297
                          refine jx_ld (pc' := 81) (l' := L) (st' := [.ref 66]) rfl (jl_aloadn gL_0) ?_
                          refine jx_ar (pc' := 82) (st' := [.int (i32 (1)), .ref 66]) rfl rfl rfl rfl ?_
                          refine jx_ld (pc' := 83) (l' := L) (st' := [.ref 66, .int (i32 (1)), .ref 66]) rfl (jl_aloadn gL_0) ?_
                          have b456 : (-3000 : Int) ≤ G45 12 ∧ G45 12 ≤ 3002 := hW50.1 12
                          refine jr_get (pc' := 86) (i := 12) (v := .int (i32 (G45 12))) rfl rfl (by decide) rfl rfl ?_
                          refine jx_vr (pc' := 89) (as := [.int (i32 (1)), .int (i32 (G45 12))]) (st := []) rfl rfl rfl rfl ⟨rfl, rfl, Nat.le_of_ble_eq_true rfl⟩ rfl rfl (c_fail (dd := d) (hd := by omega) (hW := hW50) (kind := 1) (place := G45 12) (fk := fk2_49) (e_fk := show G45 16 = fk2_49 from (e54))  (h_kind := ⟨(by decide), (by decide)⟩) (h_place := ⟨(Int.le_trans (by decide : (-2147483648 : Int) ≤ -3000) b456.1), (Int.le_trans b456.2 (by decide : (3002 : Int) ≤ 2147483647))⟩)  (p_0 := by omega) (p_1 := by omega)) (fun o V' hq => ?_)
                          obtain ⟨G457, A458, fk2_459, rfl, rfl, hW460, hF461, e462, p463, -⟩ := hq
                          have hF465 := Fr_tr hF58 hF461 (Fr_sub (by decide)) (Fr_sub (by decide))
                          have bfk2_459 : (0 : Int) ≤ fk2_459 ∧ fk2_459 ≤ 6 := e462 ▸ hW460.1 16
                          refine .inl ⟨rfl, ?_⟩
                          refine jx_ld (pc' := 90) (l' := L) (st' := [.ref 66]) rfl (jl_aloadn gL_0) ?_
                          refine jx_ar (pc' := 91) (st' := [.int (i32 (0)), .ref 66]) rfl rfl rfl rfl ?_
                          refine jx_ar (pc' := 92) (st' := [.int (i32 (5)), .int (i32 (0)), .ref 66]) rfl rfl rfl rfl ?_
                          refine jx_vr (pc' := 95) (as := [.int (i32 (0)), .int (i32 (5))]) (st := []) rfl rfl rfl rfl ⟨rfl, rfl, Nat.le_of_ble_eq_true rfl⟩ rfl rfl (c_needNumber (dd := d) (hd := by omega) (hW := hW460) (lo := 0) (hi := 5) (ln := ln1) (e_ln := show G457 9 = ln1 from ((hF461.1 9 rfl).trans ((hF51.1 9 rfl).trans ((hF28.1 9 rfl).trans ((hF7.1 9 rfl).trans (ex_ln1)))))) (le := A 4 (ln1).toNat) (e_le := show A458 4 (ln1).toNat = A 4 (ln1).toNat from (congrFun ((hF461.2 4 rfl).trans ((hF51.2 4 rfl).trans ((hF28.2 4 rfl).trans ((hF7.2 4 rfl).trans (hFx.2 4 rfl))))) _)) (at0 := at2_47) (e_at0 := show G457 10 = at2_47 from ((hF461.1 10 rfl).trans (e52))) (fk := fk2_459) (e_fk := show G457 16 = fk2_459 from (e462)) (tk0 := tk2_48) (e_tk0 := show G457 11 = tk2_48 from ((hF461.1 11 rfl).trans (e53)))  (h_lo := ⟨(by decide), (by decide)⟩) (h_hi := ⟨(by decide), (by decide)⟩)  (p_0 := by omega)) (fun o V' hq => ?_)
                          obtain ⟨G466, A467, r468, at2_469, tk2_470, fk2_471, rfl, rfl, hW472, hF473, b474, e475, e476, e477, p478, p479, q480⟩ := hq
                          have hF481 := Fr_tr hF465 hF473 (Fr_sub (by decide)) (Fr_sub (by decide))
                          have bat2_469 : (0 : Int) ≤ at2_469 ∧ at2_469 ≤ 3002 := e475 ▸ hW472.1 10
                          have ztk2_470 := tz_b tk2_470
                          have btk2_470 : (0 : Int) ≤ tk2_470 ∧ tk2_470 ≤ 5 := e476 ▸ hW472.1 11
                          have bfk2_471 : (0 : Int) ≤ fk2_471 ∧ fk2_471 ≤ 6 := e477 ▸ hW472.1 16
                          refine .inr ⟨_, rfl, ?_⟩
                          rcases q480 with ⟨a482, a483, a484, a485⟩ | ⟨a486, a487, a488, a489, a490⟩
                          · have _q : True := trivial
                            refine jx_ld (pc' := 96) (l' := jSto1 L 2 (.int (i32 (r468)))) (st' := []) rfl rfl ?_
                            obtain ⟨L491, eL491⟩ : ∃ q, q = jSto1 L 2 (.int (i32 (r468))) := ⟨_, rfl⟩
                            rw [← eL491]
                            have gL491_0 : jGet L491 0 = some (.ref 66) := eL491 ▸ jg_ne (by decide) gL_0 rfl
                            have gL491_1 : jGet L491 1 = some (.int (i32 (many))) := eL491 ▸ jg_ne (by decide) gL_1 rfl
                            have gL491_2 : jGet L491 2 = some (.int (i32 (r468))) := eL491 ▸ jg_eq
                            refine jx_ld (pc' := 97) (l' := L491) (st' := [.ref 66]) rfl (jl_aloadn gL491_0) ?_
                            refine jx_vr (pc' := 100) (as := []) (st := []) rfl rfl rfl rfl ⟨rfl, rfl, Nat.le_of_ble_eq_true rfl⟩ rfl rfl (c_endLine (dd := d) (hd := by omega) (hW := hW472)  (ln := ln1) (e_ln := show G466 9 = ln1 from ((hF473.1 9 rfl).trans ((hF461.1 9 rfl).trans ((hF51.1 9 rfl).trans ((hF28.1 9 rfl).trans ((hF7.1 9 rfl).trans (ex_ln1))))))) (li := li) (e_li := show G466 3 = li from ((hF473.1 3 rfl).trans ((hF461.1 3 rfl).trans ((hF51.1 3 rfl).trans ((hF28.1 3 rfl).trans ((hF7.1 3 rfl).trans ((hFx.1 3 rfl).trans (e_li)))))))) (fk := fk2_471) (e_fk := show G466 16 = fk2_471 from (e477)) (tk0 := tk2_470) (e_tk0 := show G466 11 = tk2_470 from (e476))    (p_0 := by omega)) (fun o V' hq => ?_)
                            obtain ⟨G492, A493, ln2_494, fk2_495, rfl, rfl, hW496, hF497, e498, e499, q500⟩ := hq
                            have hF501 := Fr_tr hF481 hF497 (Fr_sub (by decide)) (Fr_sub (by decide))
                            have bln2_494 : (0 : Int) ≤ ln2_494 ∧ ln2_494 ≤ 3000 := e498 ▸ hW496.1 9
                            have bfk2_495 : (0 : Int) ≤ fk2_495 ∧ fk2_495 ≤ 6 := e499 ▸ hW496.1 16
                            refine .inl ⟨rfl, ?_⟩
                            rcases q500 with ⟨a502, a503, a504, a505, a506⟩ | ⟨a507, a508⟩
                            · have _q : True := trivial
                              exfalso
                              omega
                            · have _q : True := trivial
                              refine jx_ld (pc' := 101) (l' := L491) (st' := [.ref 66]) rfl (jl_aloadn gL491_0) ?_
                              refine jx_vr (pc' := 104) (as := []) (st := []) rfl rfl rfl rfl ⟨rfl, rfl, Nat.le_of_ble_eq_true rfl⟩ rfl rfl (c_bad (dd := d) (hd := by omega) (hW := hW496)  (fk := fk2_495) (e_fk := show G492 16 = fk2_495 from (e499))    ) (fun o V' hq => ?_)
                              obtain ⟨r509, rfl, rfl, b510, q511⟩ := hq
                              refine .inr ⟨_, rfl, ?_⟩
                              rcases q511 with ⟨rfl, a512⟩ | ⟨rfl, a513⟩
                              · have _q : True := trivial
                                refine jx_if_eq (pc' := 107) (tg := 108) rfl rfl rfl (by decide) (by decide) (fun h514 => ?_) (fun h514 => ?_)
                                · have _q := h514
                                  exact absurd h514 (by omega)
                                · have _q := h514
                                  refine jx_rt (v := none) rfl rfl rfl rfl rfl rfl ?_
                                  exact ⟨_, _, ln2_494, at2_469, fk2_495, nd1, sy1, na1, vi1, A 3 (ln2_494).toNat, rfl, rfl, hW496, hF501, (e498), ((hF497.1 10 rfl).trans (e475)), (e499), ((hF497.1 31 rfl).trans ((hF473.1 31 rfl).trans ((hF461.1 31 rfl).trans ((hF51.1 31 rfl).trans ((hF28.1 31 rfl).trans ((hF7.1 31 rfl).trans (ex_nd1))))))), ((hF497.1 19 rfl).trans ((hF473.1 19 rfl).trans ((hF461.1 19 rfl).trans ((hF51.1 19 rfl).trans ((hF28.1 19 rfl).trans ((hF7.1 19 rfl).trans (ex_sy1))))))), ((hF497.1 28 rfl).trans ((hF473.1 28 rfl).trans ((hF461.1 28 rfl).trans ((hF51.1 28 rfl).trans ((hF28.1 28 rfl).trans ((hF7.1 28 rfl).trans (ex_na1))))))), ((hF497.1 29 rfl).trans ((hF473.1 29 rfl).trans ((hF461.1 29 rfl).trans ((hF51.1 29 rfl).trans ((hF28.1 29 rfl).trans ((hF7.1 29 rfl).trans (ex_vi1))))))), (congrFun ((hF497.2 3 rfl).trans ((hF473.2 3 rfl).trans ((hF461.2 3 rfl).trans ((hF51.2 3 rfl).trans ((hF28.2 3 rfl).trans ((hF7.2 3 rfl).trans (hFx.2 3 rfl))))))) _), by omega, by omega, by omega, by omega, by first | exact Or.inl (by omega) | exact Or.inr ((by omega))⟩
                              · have _q : True := trivial
                                exfalso
                                omega
                          · have _q : True := trivial
                            exfalso
                            omega
                    · have _q : True := trivial
                      refine jx_if_eq (pc' := 68) (tg := 89) rfl rfl rfl (by decide) (by decide) (fun h515 => ?_) (fun h515 => ?_)
                      · have _q := h515
                        refine jx_ld (pc' := 90) (l' := L) (st' := [.ref 66]) rfl (jl_aloadn gL_0) ?_
                        refine jx_ar (pc' := 91) (st' := [.int (i32 (0)), .ref 66]) rfl rfl rfl rfl ?_
                        refine jx_ar (pc' := 92) (st' := [.int (i32 (5)), .int (i32 (0)), .ref 66]) rfl rfl rfl rfl ?_
                        refine jx_vr (pc' := 95) (as := [.int (i32 (0)), .int (i32 (5))]) (st := []) rfl rfl rfl rfl ⟨rfl, rfl, Nat.le_of_ble_eq_true rfl⟩ rfl rfl (c_needNumber (dd := d) (hd := by omega) (hW := hW50) (lo := 0) (hi := 5) (ln := ln1) (e_ln := show G45 9 = ln1 from ((hF51.1 9 rfl).trans ((hF28.1 9 rfl).trans ((hF7.1 9 rfl).trans (ex_ln1))))) (le := A 4 (ln1).toNat) (e_le := show A46 4 (ln1).toNat = A 4 (ln1).toNat from (congrFun ((hF51.2 4 rfl).trans ((hF28.2 4 rfl).trans ((hF7.2 4 rfl).trans (hFx.2 4 rfl)))) _)) (at0 := at2_47) (e_at0 := show G45 10 = at2_47 from (e52)) (fk := fk2_49) (e_fk := show G45 16 = fk2_49 from (e54)) (tk0 := tk2_48) (e_tk0 := show G45 11 = tk2_48 from (e53))  (h_lo := ⟨(by decide), (by decide)⟩) (h_hi := ⟨(by decide), (by decide)⟩)  (p_0 := by omega)) (fun o V' hq => ?_)
                        obtain ⟨G516, A517, r518, at2_519, tk2_520, fk2_521, rfl, rfl, hW522, hF523, b524, e525, e526, e527, p528, p529, q530⟩ := hq
                        have hF531 := Fr_tr hF58 hF523 (Fr_sub (by decide)) (Fr_sub (by decide))
                        have bat2_519 : (0 : Int) ≤ at2_519 ∧ at2_519 ≤ 3002 := e525 ▸ hW522.1 10
                        have ztk2_520 := tz_b tk2_520
                        have btk2_520 : (0 : Int) ≤ tk2_520 ∧ tk2_520 ≤ 5 := e526 ▸ hW522.1 11
                        have bfk2_521 : (0 : Int) ≤ fk2_521 ∧ fk2_521 ≤ 6 := e527 ▸ hW522.1 16
                        refine .inr ⟨_, rfl, ?_⟩
                        rcases q530 with ⟨a532, a533, a534, a535⟩ | ⟨a536, a537, a538, a539, a540⟩
                        · have _q : True := trivial
                          refine jx_ld (pc' := 96) (l' := jSto1 L 2 (.int (i32 (r518)))) (st' := []) rfl rfl ?_
                          obtain ⟨L541, eL541⟩ : ∃ q, q = jSto1 L 2 (.int (i32 (r518))) := ⟨_, rfl⟩
                          rw [← eL541]
                          have gL541_0 : jGet L541 0 = some (.ref 66) := eL541 ▸ jg_ne (by decide) gL_0 rfl
                          have gL541_1 : jGet L541 1 = some (.int (i32 (many))) := eL541 ▸ jg_ne (by decide) gL_1 rfl
                          have gL541_2 : jGet L541 2 = some (.int (i32 (r518))) := eL541 ▸ jg_eq
                          refine jx_ld (pc' := 97) (l' := L541) (st' := [.ref 66]) rfl (jl_aloadn gL541_0) ?_
                          refine jx_vr (pc' := 100) (as := []) (st := []) rfl rfl rfl rfl ⟨rfl, rfl, Nat.le_of_ble_eq_true rfl⟩ rfl rfl (c_endLine (dd := d) (hd := by omega) (hW := hW522)  (ln := ln1) (e_ln := show G516 9 = ln1 from ((hF523.1 9 rfl).trans ((hF51.1 9 rfl).trans ((hF28.1 9 rfl).trans ((hF7.1 9 rfl).trans (ex_ln1)))))) (li := li) (e_li := show G516 3 = li from ((hF523.1 3 rfl).trans ((hF51.1 3 rfl).trans ((hF28.1 3 rfl).trans ((hF7.1 3 rfl).trans ((hFx.1 3 rfl).trans (e_li))))))) (fk := fk2_521) (e_fk := show G516 16 = fk2_521 from (e527)) (tk0 := tk2_520) (e_tk0 := show G516 11 = tk2_520 from (e526))    (p_0 := by omega)) (fun o V' hq => ?_)
                          obtain ⟨G542, A543, ln2_544, fk2_545, rfl, rfl, hW546, hF547, e548, e549, q550⟩ := hq
                          have hF551 := Fr_tr hF531 hF547 (Fr_sub (by decide)) (Fr_sub (by decide))
                          have bln2_544 : (0 : Int) ≤ ln2_544 ∧ ln2_544 ≤ 3000 := e548 ▸ hW546.1 9
                          have bfk2_545 : (0 : Int) ≤ fk2_545 ∧ fk2_545 ≤ 6 := e549 ▸ hW546.1 16
                          refine .inl ⟨rfl, ?_⟩
                          rcases q550 with ⟨a552, a553, a554, a555, a556⟩ | ⟨a557, a558⟩
                          · have _q : True := trivial
                            exfalso
                            omega
                          · have _q : True := trivial
                            refine jx_ld (pc' := 101) (l' := L541) (st' := [.ref 66]) rfl (jl_aloadn gL541_0) ?_
                            refine jx_vr (pc' := 104) (as := []) (st := []) rfl rfl rfl rfl ⟨rfl, rfl, Nat.le_of_ble_eq_true rfl⟩ rfl rfl (c_bad (dd := d) (hd := by omega) (hW := hW546)  (fk := fk2_545) (e_fk := show G542 16 = fk2_545 from (e549))    ) (fun o V' hq => ?_)
                            obtain ⟨r559, rfl, rfl, b560, q561⟩ := hq
                            refine .inr ⟨_, rfl, ?_⟩
                            rcases q561 with ⟨rfl, a562⟩ | ⟨rfl, a563⟩
                            · have _q : True := trivial
                              refine jx_if_eq (pc' := 107) (tg := 108) rfl rfl rfl (by decide) (by decide) (fun h564 => ?_) (fun h564 => ?_)
                              · have _q := h564
                                exact absurd h564 (by omega)
                              · have _q := h564
                                refine jx_rt (v := none) rfl rfl rfl rfl rfl rfl ?_
                                exact ⟨_, _, ln2_544, at2_519, fk2_545, nd1, sy1, na1, vi1, A 3 (ln2_544).toNat, rfl, rfl, hW546, hF551, (e548), ((hF547.1 10 rfl).trans (e525)), (e549), ((hF547.1 31 rfl).trans ((hF523.1 31 rfl).trans ((hF51.1 31 rfl).trans ((hF28.1 31 rfl).trans ((hF7.1 31 rfl).trans (ex_nd1)))))), ((hF547.1 19 rfl).trans ((hF523.1 19 rfl).trans ((hF51.1 19 rfl).trans ((hF28.1 19 rfl).trans ((hF7.1 19 rfl).trans (ex_sy1)))))), ((hF547.1 28 rfl).trans ((hF523.1 28 rfl).trans ((hF51.1 28 rfl).trans ((hF28.1 28 rfl).trans ((hF7.1 28 rfl).trans (ex_na1)))))), ((hF547.1 29 rfl).trans ((hF523.1 29 rfl).trans ((hF51.1 29 rfl).trans ((hF28.1 29 rfl).trans ((hF7.1 29 rfl).trans (ex_vi1)))))), (congrFun ((hF547.2 3 rfl).trans ((hF523.2 3 rfl).trans ((hF51.2 3 rfl).trans ((hF28.2 3 rfl).trans ((hF7.2 3 rfl).trans (hFx.2 3 rfl)))))) _), by omega, by omega, by omega, by omega, by first | exact Or.inl (by omega) | exact Or.inr ((by omega))⟩
                            · have _q : True := trivial
                              exfalso
                              omega
                        · have _q : True := trivial
                          refine jx_ld (pc' := 96) (l' := jSto1 L 2 (.int (i32 (r518)))) (st' := []) rfl rfl ?_
                          obtain ⟨L565, eL565⟩ : ∃ q, q = jSto1 L 2 (.int (i32 (r518))) := ⟨_, rfl⟩
                          rw [← eL565]
                          have gL565_0 : jGet L565 0 = some (.ref 66) := eL565 ▸ jg_ne (by decide) gL_0 rfl
                          have gL565_1 : jGet L565 1 = some (.int (i32 (many))) := eL565 ▸ jg_ne (by decide) gL_1 rfl
                          have gL565_2 : jGet L565 2 = some (.int (i32 (r518))) := eL565 ▸ jg_eq
                          refine jx_ld (pc' := 97) (l' := L565) (st' := [.ref 66]) rfl (jl_aloadn gL565_0) ?_
                          refine jx_vr (pc' := 100) (as := []) (st := []) rfl rfl rfl rfl ⟨rfl, rfl, Nat.le_of_ble_eq_true rfl⟩ rfl rfl (c_endLine (dd := d) (hd := by omega) (hW := hW522)  (ln := ln1) (e_ln := show G516 9 = ln1 from ((hF523.1 9 rfl).trans ((hF51.1 9 rfl).trans ((hF28.1 9 rfl).trans ((hF7.1 9 rfl).trans (ex_ln1)))))) (li := li) (e_li := show G516 3 = li from ((hF523.1 3 rfl).trans ((hF51.1 3 rfl).trans ((hF28.1 3 rfl).trans ((hF7.1 3 rfl).trans ((hFx.1 3 rfl).trans (e_li))))))) (fk := fk2_521) (e_fk := show G516 16 = fk2_521 from (e527)) (tk0 := tk2_520) (e_tk0 := show G516 11 = tk2_520 from (e526))    (p_0 := by omega)) (fun o V' hq => ?_)
                          obtain ⟨G566, A567, ln2_568, fk2_569, rfl, rfl, hW570, hF571, e572, e573, q574⟩ := hq
                          have hF575 := Fr_tr hF531 hF571 (Fr_sub (by decide)) (Fr_sub (by decide))
                          have bln2_568 : (0 : Int) ≤ ln2_568 ∧ ln2_568 ≤ 3000 := e572 ▸ hW570.1 9
                          have bfk2_569 : (0 : Int) ≤ fk2_569 ∧ fk2_569 ≤ 6 := e573 ▸ hW570.1 16
                          refine .inl ⟨rfl, ?_⟩
                          rcases q574 with ⟨a576, a577, a578, a579, a580⟩ | ⟨a581, a582⟩
                          · have _q : True := trivial
                            have b583 : (0 : Int) ≤ A 3 (ln2_568).toNat ∧ A 3 (ln2_568).toNat ≤ 3000 := hW.2 3 _
                            have lt584 : ln2_568 < li → A 4 (ln1).toNat < A 3 (ln2_568).toNat := fun hh => LT_nx (LT_ext (((hF571.1 3 rfl).trans ((hF523.1 3 rfl).trans ((hF51.1 3 rfl).trans ((hF28.1 3 rfl).trans ((hF7.1 3 rfl).trans (hFx.1 3 rfl))))))) (((hF571.2 3 rfl).trans ((hF523.2 3 rfl).trans ((hF51.2 3 rfl).trans ((hF28.2 3 rfl).trans ((hF7.2 3 rfl).trans (hFx.2 3 rfl))))))) (((hF571.2 4 rfl).trans ((hF523.2 4 rfl).trans ((hF51.2 4 rfl).trans ((hF28.2 4 rfl).trans ((hF7.2 4 rfl).trans (hFx.2 4 rfl))))))) i_LT) (show G566 3 = li from ((hF571.1 3 rfl).trans ((hF523.1 3 rfl).trans ((hF51.1 3 rfl).trans ((hF28.1 3 rfl).trans ((hF7.1 3 rfl).trans ((hFx.1 3 rfl).trans (e_li)))))))) (show A567 4 (ln1).toNat = A 4 (ln1).toNat from (congrFun ((hF571.2 4 rfl).trans ((hF523.2 4 rfl).trans ((hF51.2 4 rfl).trans ((hF28.2 4 rfl).trans ((hF7.2 4 rfl).trans (hFx.2 4 rfl)))))) _)) (show A567 3 (ln2_568).toNat = A 3 (ln2_568).toNat from (congrFun ((hF571.2 3 rfl).trans ((hF523.2 3 rfl).trans ((hF51.2 3 rfl).trans ((hF28.2 3 rfl).trans ((hF7.2 3 rfl).trans (hFx.2 3 rfl)))))) _)) (show ln2_568 = ln1 + 1 by omega) (by omega) hh
                            refine jx_ld (pc' := 101) (l' := L565) (st' := [.ref 66]) rfl (jl_aloadn gL565_0) ?_
                            refine jx_vr (pc' := 104) (as := []) (st := []) rfl rfl rfl rfl ⟨rfl, rfl, Nat.le_of_ble_eq_true rfl⟩ rfl rfl (c_bad (dd := d) (hd := by omega) (hW := hW570)  (fk := fk2_569) (e_fk := show G566 16 = fk2_569 from (e573))    ) (fun o V' hq => ?_)
                            obtain ⟨r585, rfl, rfl, b586, q587⟩ := hq
                            refine .inr ⟨_, rfl, ?_⟩
                            rcases q587 with ⟨rfl, a588⟩ | ⟨rfl, a589⟩
                            · have _q : True := trivial
                              exfalso
                              omega
                            · have _q : True := trivial
                              refine jx_if_eq (pc' := 107) (tg := 108) rfl rfl rfl (by decide) (by decide) (fun h590 => ?_) (fun h590 => ?_)
                              · have _q := h590
                                refine jx_ld (pc' := 109) (l' := L565) (st' := [.ref 66]) rfl (jl_aloadn gL565_0) ?_
                                refine jr_get (pc' := 112) (i := 55) (v := .ref 103) rfl rfl (by decide) rfl rfl ?_
                                refine jx_ld (pc' := 113) (l' := L565) (st' := [.int (i32 (r518)), .ref 103]) rfl (jl_iloadn gL565_2) ?_
                                refine jx_ld (pc' := 114) (l' := L565) (st' := [.ref 66, .int (i32 (r518)), .ref 103]) rfl (jl_aloadn gL565_0) ?_
                                refine jx_ar (pc' := 115) (st' := [.int (i32 (2)), .ref 66, .int (i32 (r518)), .ref 103]) rfl rfl rfl rfl ?_
                                refine jx_vr (pc' := 118) (as := [.int (i32 (2))]) (st := [.int (i32 (r518)), .ref 103]) rfl rfl rfl rfl ⟨rfl, rfl, Nat.le_of_ble_eq_true rfl⟩ rfl rfl (RP_all X 18 (dd := d) (hd := by omega) (hW := hW570) (lv := 2) (at0 := at2_519) (ln := ln2_568) (e_ln := show G566 9 = ln2_568 from (e572)) (li := li) (e_li := show G566 3 = li from ((hF571.1 3 rfl).trans ((hF523.1 3 rfl).trans ((hF51.1 3 rfl).trans ((hF28.1 3 rfl).trans ((hF7.1 3 rfl).trans ((hFx.1 3 rfl).trans (e_li)))))))) (fk := fk2_569) (e_fk := show G566 16 = fk2_569 from (e573)) (nd := nd1) (e_nd := show G566 31 = nd1 from ((hF571.1 31 rfl).trans ((hF523.1 31 rfl).trans ((hF51.1 31 rfl).trans ((hF28.1 31 rfl).trans ((hF7.1 31 rfl).trans (ex_nd1))))))) (sy := sy1) (e_sy := show G566 19 = sy1 from ((hF571.1 19 rfl).trans ((hF523.1 19 rfl).trans ((hF51.1 19 rfl).trans ((hF28.1 19 rfl).trans ((hF7.1 19 rfl).trans (ex_sy1))))))) (na := na1) (e_na := show G566 28 = na1 from ((hF571.1 28 rfl).trans ((hF523.1 28 rfl).trans ((hF51.1 28 rfl).trans ((hF28.1 28 rfl).trans ((hF7.1 28 rfl).trans (ex_na1))))))) (vi := vi1) (e_vi := show G566 29 = vi1 from ((hF571.1 29 rfl).trans ((hF523.1 29 rfl).trans ((hF51.1 29 rfl).trans ((hF28.1 29 rfl).trans ((hF7.1 29 rfl).trans (ex_vi1))))))) (lf := A 3 (ln2_568).toNat) (e_lf := show A567 3 (ln2_568).toNat = A 3 (ln2_568).toNat from (congrFun ((hF571.2 3 rfl).trans ((hF523.2 3 rfl).trans ((hF51.2 3 rfl).trans ((hF28.2 3 rfl).trans ((hF7.2 3 rfl).trans (hFx.2 3 rfl)))))) _)) (ac := at2_519) (e_ac := show G566 10 = at2_519 from ((hF571.1 10 rfl).trans (e525))) (i_LT := (LT_ext (((hF571.1 3 rfl).trans ((hF523.1 3 rfl).trans ((hF51.1 3 rfl).trans ((hF28.1 3 rfl).trans ((hF7.1 3 rfl).trans (hFx.1 3 rfl))))))) (((hF571.2 3 rfl).trans ((hF523.2 3 rfl).trans ((hF51.2 3 rfl).trans ((hF28.2 3 rfl).trans ((hF7.2 3 rfl).trans (hFx.2 3 rfl))))))) (((hF571.2 4 rfl).trans ((hF523.2 4 rfl).trans ((hF51.2 4 rfl).trans ((hF28.2 4 rfl).trans ((hF7.2 4 rfl).trans (hFx.2 4 rfl))))))) i_LT)) (h_lv := ⟨(by decide), (by decide)⟩)  (p_0 := by omega) (p_1 := by omega) (p_2 := by omega) (p_3 := by omega) (p_4 := by omega) (p_5 := by omega) (p_6 := by omega) (p_7 := by omega) (p_8 := by omega) (p_9 := by omega)) (fun o V' hq => ?_)
                                obtain ⟨G591, A592, r593, ln2_594, at2_595, fk2_596, nd2_597, sy2_598, na2_599, vi2_600, lf2_601, rfl, rfl, hW602, hF603, hQ604, b605, e606, e607, e608, e609, e610, e611, e612, e613, p614, p615, p616, p617, p618, p619, p620, p621, p622, q623⟩ := hq
                                have hF624 := Fr_tr hF575 hF603 (Fr_sub (by decide)) (Fr_sub (by decide))
                                have bln2_594 : (0 : Int) ≤ ln2_594 ∧ ln2_594 ≤ 3000 := e606 ▸ hW602.1 9
                                have bat2_595 : (0 : Int) ≤ at2_595 ∧ at2_595 ≤ 3002 := e607 ▸ hW602.1 10
                                have bfk2_596 : (0 : Int) ≤ fk2_596 ∧ fk2_596 ≤ 6 := e608 ▸ hW602.1 16
                                have bnd2_597 : (0 : Int) ≤ nd2_597 ∧ nd2_597 ≤ 6999 := e609 ▸ hW602.1 31
                                have bsy2_598 : (0 : Int) ≤ sy2_598 ∧ sy2_598 ≤ 202 := e610 ▸ hW602.1 19
                                have bna2_599 : (0 : Int) ≤ na2_599 ∧ na2_599 ≤ 200 := e611 ▸ hW602.1 28
                                have bvi2_600 : (0 : Int) ≤ vi2_600 ∧ vi2_600 ≤ 202 := e612 ▸ hW602.1 29
                                have blf2_601 : (0 : Int) ≤ lf2_601 ∧ lf2_601 ≤ 3000 := e613 ▸ hW602.2 3 _
                                refine .inr ⟨_, rfl, ?_⟩
                                rcases q623 with ⟨a625, a626⟩ | ⟨a627, a628, a629, a630, a631, a632⟩
                                · have _q : True := trivial
                                  refine jr_st (pc' := 119) (i := 36) (m := 6) (z := r518) (y := r593) rfl (by decide) rfl (by decide) (by omega) (by omega) rfl ?_
                                  have hW634 : Wk G591 (uA A592 36 (r518).toNat (r593)) := Wk_a hW602 (show (-2147483648 : Int) ≤ r593 by omega) (show r593 ≤ (2147483647 : Int) by omega)
                                  have hF635 := Fr_a (z := r593) (k := 36) (n := (r518).toNat) hF624 (by decide)
                                  obtain ⟨A633, eA633⟩ : ∃ q, q = uA A592 36 (r518).toNat (r593) := ⟨_, rfl⟩
                                  rw [← eA633]
                                  rw [← eA633] at hW634 hF635
                                  have q636 : A633 36 (r518).toNat = r593 := by rw [eA633]; exact uA_eq
                                  refine jx_inc (pc' := 122) (l' := jSto1 L565 1 (.int (i32 ((many + (1)))))) (x := many) rfl gL565_1 (by decide) rfl rfl ?_
                                  obtain ⟨L637, eL637⟩ : ∃ q, q = jSto1 L565 1 (.int (i32 ((many + (1))))) := ⟨_, rfl⟩
                                  rw [← eL637]
                                  have gL637_0 : jGet L637 0 = some (.ref 66) := eL637 ▸ jg_ne (by decide) gL565_0 rfl
                                  have gL637_2 : jGet L637 2 = some (.int (i32 (r518))) := eL637 ▸ jg_ne (by decide) gL565_2 rfl
                                  have gL637_1 : jGet L637 1 = some (.int (i32 ((many + (1))))) := eL637 ▸ jg_eq
                                  refine jx_go (tg := 19) rfl rfl ?_
                                  refine jx_ld (pc' := 20) (l' := L637) (st' := [.ref 66]) rfl (jl_aloadn gL637_0) ?_
                                  refine jx_ar (pc' := 21) (st' := [.int (i32 (0)), .ref 66]) rfl rfl rfl rfl ?_
                                  have b638 : (-1 : Int) ≤ A 5 (ln2_594).toNat ∧ A 5 (ln2_594).toNat ≤ 15 := hW.2 5 _
                                  refine jx_vr (pc' := 24) (as := [.int (i32 (0))]) (st := []) rfl rfl rfl rfl ⟨rfl, rfl, Nat.le_of_ble_eq_true rfl⟩ rfl rfl (c_isBelow (dd := d) (hd := by omega) (hW := hW634) (lv := 0) (ln := ln2_594) (e_ln := show G591 9 = ln2_594 from (e606)) (li := li) (e_li := show G591 3 = li from ((hF603.1 3 rfl).trans ((hF571.1 3 rfl).trans ((hF523.1 3 rfl).trans ((hF51.1 3 rfl).trans ((hF28.1 3 rfl).trans ((hF7.1 3 rfl).trans ((hFx.1 3 rfl).trans (e_li))))))))) (fk := fk2_596) (e_fk := show G591 16 = fk2_596 from (e608)) (ll := A 5 (ln2_594).toNat) (e_ll := show A633 5 (ln2_594).toNat = A 5 (ln2_594).toNat from (congrFun (((congrFun eA633 5).trans (uA_ne (by decide))).trans ((hF603.2 5 rfl).trans ((hF571.2 5 rfl).trans ((hF523.2 5 rfl).trans ((hF51.2 5 rfl).trans ((hF28.2 5 rfl).trans ((hF7.2 5 rfl).trans (hFx.2 5 rfl)))))))) _))  (h_lv := ⟨(by decide), (by decide)⟩)  (p_0 := by omega)) (fun o V' hq => ?_)
                                  obtain ⟨G639, A640, r641, fk2_642, rfl, rfl, hW643, hF644, b645, e646, q647⟩ := hq
                                  have hF648 := Fr_tr hF635 hF644 (Fr_sub (by decide)) (Fr_sub (by decide))
                                  have bfk2_642 : (0 : Int) ≤ fk2_642 ∧ fk2_642 ≤ 6 := e646 ▸ hW643.1 16
                                  refine .inr ⟨_, rfl, ?_⟩
                                  rcases q647 with ⟨rfl, a649, a650, a651, a652⟩ | ⟨rfl, a653⟩ | ⟨rfl, a654, a655⟩
                                  · have _q : True := trivial
                                    exfalso
                                    omega
                                  · have _q : True := trivial
                                    refine jx_if_eq (pc' := 27) (tg := 125) rfl rfl rfl (by decide) (by decide) (fun h656 => ?_) (fun h656 => ?_)
                                    · have _q := h656
                                      refine jx_ld (pc' := 126) (l' := L637) (st' := [.ref 66]) rfl (jl_aloadn gL637_0) ?_
                                      refine jx_vr (pc' := 129) (as := []) (st := []) rfl rfl rfl rfl ⟨rfl, rfl, Nat.le_of_ble_eq_true rfl⟩ rfl rfl (c_bad (dd := d) (hd := by omega) (hW := hW643)  (fk := fk2_642) (e_fk := show G639 16 = fk2_642 from (e646))    ) (fun o V' hq => ?_)
                                      obtain ⟨r657, rfl, rfl, b658, q659⟩ := hq
                                      refine .inr ⟨_, rfl, ?_⟩
                                      rcases q659 with ⟨rfl, a660⟩ | ⟨rfl, a661⟩
                                      · have _q : True := trivial
                                        refine jx_if_ne (pc' := 132) (tg := 142) rfl rfl rfl (by decide) (by decide) (fun h662 => ?_) (fun h662 => ?_)
                                        · have _q := h662
                                          refine jx_rt (v := none) rfl rfl rfl rfl rfl rfl ?_
                                          exact ⟨_, _, ln2_594, at2_595, fk2_642, nd2_597, sy2_598, na2_599, vi2_600, lf2_601, rfl, rfl, hW643, hF648, ((hF644.1 9 rfl).trans (e606)), ((hF644.1 10 rfl).trans (e607)), (e646), ((hF644.1 31 rfl).trans (e609)), ((hF644.1 19 rfl).trans (e610)), ((hF644.1 28 rfl).trans (e611)), ((hF644.1 29 rfl).trans (e612)), (congrFun ((hF644.2 3 rfl).trans ((congrFun eA633 3).trans (uA_ne (by decide)))) _).trans (e613), by omega, by omega, by omega, by omega, by first | exact Or.inl (by omega) | exact Or.inr ((by omega))⟩
                                        · have _q := h662
                                          exact absurd h662 (by omega)
                                      · have _q : True := trivial
                                        exfalso
                                        omega
                                    · have _q := h656
                                      exact absurd h656 (by omega)
                                  · have _q : True := trivial
                                    exfalso
                                    omega
                                · have _q : True := trivial
                                  refine jr_st (pc' := 119) (i := 36) (m := 6) (z := r518) (y := r593) rfl (by decide) rfl (by decide) (by omega) (by omega) rfl ?_
                                  have hW664 : Wk G591 (uA A592 36 (r518).toNat (r593)) := Wk_a hW602 (show (-2147483648 : Int) ≤ r593 by omega) (show r593 ≤ (2147483647 : Int) by omega)
                                  have hF665 := Fr_a (z := r593) (k := 36) (n := (r518).toNat) hF624 (by decide)
                                  obtain ⟨A663, eA663⟩ : ∃ q, q = uA A592 36 (r518).toNat (r593) := ⟨_, rfl⟩
                                  rw [← eA663]
                                  rw [← eA663] at hW664 hF665
                                  have q666 : A663 36 (r518).toNat = r593 := by rw [eA663]; exact uA_eq
                                  refine jx_inc (pc' := 122) (l' := jSto1 L565 1 (.int (i32 ((many + (1)))))) (x := many) rfl gL565_1 (by decide) rfl rfl ?_
                                  obtain ⟨L667, eL667⟩ : ∃ q, q = jSto1 L565 1 (.int (i32 ((many + (1))))) := ⟨_, rfl⟩
                                  rw [← eL667]
                                  have gL667_0 : jGet L667 0 = some (.ref 66) := eL667 ▸ jg_ne (by decide) gL565_0 rfl
                                  have gL667_2 : jGet L667 2 = some (.int (i32 (r518))) := eL667 ▸ jg_ne (by decide) gL565_2 rfl
                                  have gL667_1 : jGet L667 1 = some (.int (i32 ((many + (1))))) := eL667 ▸ jg_eq
                                  refine jx_go (tg := 19) rfl rfl ?_
                                  exact ih19 _ (by omega) L667 G591 A663 ((many + (1))) (ln2_594) (at2_595) (fk2_596) (nd2_597) (sy2_598) (na2_599) (vi2_600) (lf2_601) rfl gL667_0 gL667_1 hW664 hF665 ((e606)) ((e607)) ((e608)) ((e609)) ((e610)) ((e611)) ((e612)) ((congrFun ((congrFun eA663 3).trans (uA_ne (by decide))) _).trans (e613)) (by omega) (by omega) (by omega) (by omega) (by omega) (by omega) (by omega) (by omega) (by omega) (by omega)
                              · have _q := h590
                                exact absurd h590 (by omega)
                          · have _q : True := trivial
                            refine jx_ld (pc' := 101) (l' := L565) (st' := [.ref 66]) rfl (jl_aloadn gL565_0) ?_
                            refine jx_vr (pc' := 104) (as := []) (st := []) rfl rfl rfl rfl ⟨rfl, rfl, Nat.le_of_ble_eq_true rfl⟩ rfl rfl (c_bad (dd := d) (hd := by omega) (hW := hW570)  (fk := fk2_569) (e_fk := show G566 16 = fk2_569 from (e573))    ) (fun o V' hq => ?_)
                            obtain ⟨r668, rfl, rfl, b669, q670⟩ := hq
                            refine .inr ⟨_, rfl, ?_⟩
                            rcases q670 with ⟨rfl, a671⟩ | ⟨rfl, a672⟩
                            · have _q : True := trivial
                              refine jx_if_eq (pc' := 107) (tg := 108) rfl rfl rfl (by decide) (by decide) (fun h673 => ?_) (fun h673 => ?_)
                              · have _q := h673
                                exact absurd h673 (by omega)
                              · have _q := h673
                                refine jx_rt (v := none) rfl rfl rfl rfl rfl rfl ?_
                                exact ⟨_, _, ln2_568, at2_519, fk2_569, nd1, sy1, na1, vi1, A 3 (ln2_568).toNat, rfl, rfl, hW570, hF575, (e572), ((hF571.1 10 rfl).trans (e525)), (e573), ((hF571.1 31 rfl).trans ((hF523.1 31 rfl).trans ((hF51.1 31 rfl).trans ((hF28.1 31 rfl).trans ((hF7.1 31 rfl).trans (ex_nd1)))))), ((hF571.1 19 rfl).trans ((hF523.1 19 rfl).trans ((hF51.1 19 rfl).trans ((hF28.1 19 rfl).trans ((hF7.1 19 rfl).trans (ex_sy1)))))), ((hF571.1 28 rfl).trans ((hF523.1 28 rfl).trans ((hF51.1 28 rfl).trans ((hF28.1 28 rfl).trans ((hF7.1 28 rfl).trans (ex_na1)))))), ((hF571.1 29 rfl).trans ((hF523.1 29 rfl).trans ((hF51.1 29 rfl).trans ((hF28.1 29 rfl).trans ((hF7.1 29 rfl).trans (ex_vi1)))))), (congrFun ((hF571.2 3 rfl).trans ((hF523.2 3 rfl).trans ((hF51.2 3 rfl).trans ((hF28.2 3 rfl).trans ((hF7.2 3 rfl).trans (hFx.2 3 rfl)))))) _), by omega, by omega, by omega, by omega, by first | exact Or.inl (by omega) | exact Or.inr ((by omega))⟩
                            · have _q : True := trivial
                              exfalso
                              omega
                      · have _q := h515
                        exact absurd h515 (by omega)
          · have _q : True := trivial
            refine jx_vr (pc' := 41) (as := [.int (i32 (0))]) (st := []) rfl rfl rfl rfl ⟨rfl, rfl, Nat.le_of_ble_eq_true rfl⟩ rfl rfl (c_need (dd := d) (hd := by omega) (hW := hW27) (g := 0) (ln := ln1) (e_ln := show G22 9 = ln1 from ((hF28.1 9 rfl).trans ((hF7.1 9 rfl).trans (ex_ln1)))) (le := A 4 (ln1).toNat) (e_le := show A23 4 (ln1).toNat = A 4 (ln1).toNat from (congrFun ((hF28.2 4 rfl).trans ((hF7.2 4 rfl).trans (hFx.2 4 rfl))) _)) (at0 := at2_24) (e_at0 := show G22 10 = at2_24 from (e29)) (fk := fk2_5) (e_fk := show G22 16 = fk2_5 from ((hF28.1 16 rfl).trans (e9))) (tk0 := tk2_25) (e_tk0 := show G22 11 = tk2_25 from (e30))  (h_g := ⟨(by decide), (by decide)⟩)  (p_0 := by omega)) (fun o V' hq => ?_)
            obtain ⟨G674, A675, at2_676, tk2_677, fk2_678, rfl, rfl, hW679, hF680, e681, e682, e683, p684, p685, q686⟩ := hq
            have hF687 := Fr_tr hF37 hF680 (Fr_sub (by decide)) (Fr_sub (by decide))
            have bat2_676 : (0 : Int) ≤ at2_676 ∧ at2_676 ≤ 3002 := e681 ▸ hW679.1 10
            have ztk2_677 := tz_b tk2_677
            have btk2_677 : (0 : Int) ≤ tk2_677 ∧ tk2_677 ≤ 5 := e682 ▸ hW679.1 11
            have bfk2_678 : (0 : Int) ≤ fk2_678 ∧ fk2_678 ≤ 6 := e683 ▸ hW679.1 16
            refine .inl ⟨rfl, ?_⟩
            rcases q686 with ⟨a688, a689, a690, a691⟩ | ⟨a692, a693, a694, a695⟩
            · have _q : True := trivial
              refine jx_ld (pc' := 42) (l' := L) (st' := [.ref 66]) rfl (jl_aloadn gL_0) ?_
              refine jx_vr (pc' := 45) (as := []) (st := []) rfl rfl rfl rfl ⟨rfl, rfl, Nat.le_of_ble_eq_true rfl⟩ rfl rfl (c_bad (dd := d) (hd := by omega) (hW := hW679)  (fk := fk2_678) (e_fk := show G674 16 = fk2_678 from (e683))    ) (fun o V' hq => ?_)
              obtain ⟨r696, rfl, rfl, b697, q698⟩ := hq
              refine .inr ⟨_, rfl, ?_⟩
              rcases q698 with ⟨rfl, a699⟩ | ⟨rfl, a700⟩
              · have _q : True := trivial
                refine jx_if_ne (pc' := 48) (tg := 89) rfl rfl rfl (by decide) (by decide) (fun h701 => ?_) (fun h701 => ?_)
                · have _q := h701
                  refine jx_ld (pc' := 90) (l' := L) (st' := [.ref 66]) rfl (jl_aloadn gL_0) ?_
                  refine jx_ar (pc' := 91) (st' := [.int (i32 (0)), .ref 66]) rfl rfl rfl rfl ?_
                  refine jx_ar (pc' := 92) (st' := [.int (i32 (5)), .int (i32 (0)), .ref 66]) rfl rfl rfl rfl ?_
                  refine jx_vr (pc' := 95) (as := [.int (i32 (0)), .int (i32 (5))]) (st := []) rfl rfl rfl rfl ⟨rfl, rfl, Nat.le_of_ble_eq_true rfl⟩ rfl rfl (c_needNumber (dd := d) (hd := by omega) (hW := hW679) (lo := 0) (hi := 5) (ln := ln1) (e_ln := show G674 9 = ln1 from ((hF680.1 9 rfl).trans ((hF28.1 9 rfl).trans ((hF7.1 9 rfl).trans (ex_ln1))))) (le := A 4 (ln1).toNat) (e_le := show A675 4 (ln1).toNat = A 4 (ln1).toNat from (congrFun ((hF680.2 4 rfl).trans ((hF28.2 4 rfl).trans ((hF7.2 4 rfl).trans (hFx.2 4 rfl)))) _)) (at0 := at2_676) (e_at0 := show G674 10 = at2_676 from (e681)) (fk := fk2_678) (e_fk := show G674 16 = fk2_678 from (e683)) (tk0 := tk2_677) (e_tk0 := show G674 11 = tk2_677 from (e682))  (h_lo := ⟨(by decide), (by decide)⟩) (h_hi := ⟨(by decide), (by decide)⟩)  (p_0 := by omega)) (fun o V' hq => ?_)
                  obtain ⟨G702, A703, r704, at2_705, tk2_706, fk2_707, rfl, rfl, hW708, hF709, b710, e711, e712, e713, p714, p715, q716⟩ := hq
                  have hF717 := Fr_tr hF687 hF709 (Fr_sub (by decide)) (Fr_sub (by decide))
                  have bat2_705 : (0 : Int) ≤ at2_705 ∧ at2_705 ≤ 3002 := e711 ▸ hW708.1 10
                  have ztk2_706 := tz_b tk2_706
                  have btk2_706 : (0 : Int) ≤ tk2_706 ∧ tk2_706 ≤ 5 := e712 ▸ hW708.1 11
                  have bfk2_707 : (0 : Int) ≤ fk2_707 ∧ fk2_707 ≤ 6 := e713 ▸ hW708.1 16
                  refine .inr ⟨_, rfl, ?_⟩
                  rcases q716 with ⟨a718, a719, a720, a721⟩ | ⟨a722, a723, a724, a725, a726⟩
                  · have _q : True := trivial
                    refine jx_ld (pc' := 96) (l' := jSto1 L 2 (.int (i32 (r704)))) (st' := []) rfl rfl ?_
                    obtain ⟨L727, eL727⟩ : ∃ q, q = jSto1 L 2 (.int (i32 (r704))) := ⟨_, rfl⟩
                    rw [← eL727]
                    have gL727_0 : jGet L727 0 = some (.ref 66) := eL727 ▸ jg_ne (by decide) gL_0 rfl
                    have gL727_1 : jGet L727 1 = some (.int (i32 (many))) := eL727 ▸ jg_ne (by decide) gL_1 rfl
                    have gL727_2 : jGet L727 2 = some (.int (i32 (r704))) := eL727 ▸ jg_eq
                    refine jx_ld (pc' := 97) (l' := L727) (st' := [.ref 66]) rfl (jl_aloadn gL727_0) ?_
                    refine jx_vr (pc' := 100) (as := []) (st := []) rfl rfl rfl rfl ⟨rfl, rfl, Nat.le_of_ble_eq_true rfl⟩ rfl rfl (c_endLine (dd := d) (hd := by omega) (hW := hW708)  (ln := ln1) (e_ln := show G702 9 = ln1 from ((hF709.1 9 rfl).trans ((hF680.1 9 rfl).trans ((hF28.1 9 rfl).trans ((hF7.1 9 rfl).trans (ex_ln1)))))) (li := li) (e_li := show G702 3 = li from ((hF709.1 3 rfl).trans ((hF680.1 3 rfl).trans ((hF28.1 3 rfl).trans ((hF7.1 3 rfl).trans ((hFx.1 3 rfl).trans (e_li))))))) (fk := fk2_707) (e_fk := show G702 16 = fk2_707 from (e713)) (tk0 := tk2_706) (e_tk0 := show G702 11 = tk2_706 from (e712))    (p_0 := by omega)) (fun o V' hq => ?_)
                    obtain ⟨G728, A729, ln2_730, fk2_731, rfl, rfl, hW732, hF733, e734, e735, q736⟩ := hq
                    have hF737 := Fr_tr hF717 hF733 (Fr_sub (by decide)) (Fr_sub (by decide))
                    have bln2_730 : (0 : Int) ≤ ln2_730 ∧ ln2_730 ≤ 3000 := e734 ▸ hW732.1 9
                    have bfk2_731 : (0 : Int) ≤ fk2_731 ∧ fk2_731 ≤ 6 := e735 ▸ hW732.1 16
                    refine .inl ⟨rfl, ?_⟩
                    rcases q736 with ⟨a738, a739, a740, a741, a742⟩ | ⟨a743, a744⟩
                    · have _q : True := trivial
                      exfalso
                      omega
                    · have _q : True := trivial
                      refine jx_ld (pc' := 101) (l' := L727) (st' := [.ref 66]) rfl (jl_aloadn gL727_0) ?_
                      refine jx_vr (pc' := 104) (as := []) (st := []) rfl rfl rfl rfl ⟨rfl, rfl, Nat.le_of_ble_eq_true rfl⟩ rfl rfl (c_bad (dd := d) (hd := by omega) (hW := hW732)  (fk := fk2_731) (e_fk := show G728 16 = fk2_731 from (e735))    ) (fun o V' hq => ?_)
                      obtain ⟨r745, rfl, rfl, b746, q747⟩ := hq
                      refine .inr ⟨_, rfl, ?_⟩
                      rcases q747 with ⟨rfl, a748⟩ | ⟨rfl, a749⟩
                      · have _q : True := trivial
                        refine jx_if_eq (pc' := 107) (tg := 108) rfl rfl rfl (by decide) (by decide) (fun h750 => ?_) (fun h750 => ?_)
                        · have _q := h750
                          exact absurd h750 (by omega)
                        · have _q := h750
                          refine jx_rt (v := none) rfl rfl rfl rfl rfl rfl ?_
                          exact ⟨_, _, ln2_730, at2_705, fk2_731, nd1, sy1, na1, vi1, A 3 (ln2_730).toNat, rfl, rfl, hW732, hF737, (e734), ((hF733.1 10 rfl).trans (e711)), (e735), ((hF733.1 31 rfl).trans ((hF709.1 31 rfl).trans ((hF680.1 31 rfl).trans ((hF28.1 31 rfl).trans ((hF7.1 31 rfl).trans (ex_nd1)))))), ((hF733.1 19 rfl).trans ((hF709.1 19 rfl).trans ((hF680.1 19 rfl).trans ((hF28.1 19 rfl).trans ((hF7.1 19 rfl).trans (ex_sy1)))))), ((hF733.1 28 rfl).trans ((hF709.1 28 rfl).trans ((hF680.1 28 rfl).trans ((hF28.1 28 rfl).trans ((hF7.1 28 rfl).trans (ex_na1)))))), ((hF733.1 29 rfl).trans ((hF709.1 29 rfl).trans ((hF680.1 29 rfl).trans ((hF28.1 29 rfl).trans ((hF7.1 29 rfl).trans (ex_vi1)))))), (congrFun ((hF733.2 3 rfl).trans ((hF709.2 3 rfl).trans ((hF680.2 3 rfl).trans ((hF28.2 3 rfl).trans ((hF7.2 3 rfl).trans (hFx.2 3 rfl)))))) _), by omega, by omega, by omega, by omega, by first | exact Or.inl (by omega) | exact Or.inr ((by omega))⟩
                      · have _q : True := trivial
                        exfalso
                        omega
                  · have _q : True := trivial
                    exfalso
                    omega
                · have _q := h701
                  exact absurd h701 (by omega)
              · have _q : True := trivial
                exfalso
                omega
            · have _q : True := trivial
              exfalso
              omega
      · have _q : True := trivial
        refine jx_if_eq (pc' := 27) (tg := 125) rfl rfl rfl (by decide) (by decide) (fun h751 => ?_) (fun h751 => ?_)
        · have _q := h751
          refine jx_ld (pc' := 126) (l' := L) (st' := [.ref 66]) rfl (jl_aloadn gL_0) ?_
          refine jx_vr (pc' := 129) (as := []) (st := []) rfl rfl rfl rfl ⟨rfl, rfl, Nat.le_of_ble_eq_true rfl⟩ rfl rfl (c_bad (dd := d) (hd := by omega) (hW := hW6)  (fk := fk2_5) (e_fk := show G2 16 = fk2_5 from (e9))    ) (fun o V' hq => ?_)
          obtain ⟨r752, rfl, rfl, b753, q754⟩ := hq
          refine .inr ⟨_, rfl, ?_⟩
          rcases q754 with ⟨rfl, a755⟩ | ⟨rfl, a756⟩
          · have _q : True := trivial
            refine jx_if_ne (pc' := 132) (tg := 142) rfl rfl rfl (by decide) (by decide) (fun h757 => ?_) (fun h757 => ?_)
            · have _q := h757
              refine jx_rt (v := none) rfl rfl rfl rfl rfl rfl ?_
              exact ⟨_, _, ln1, at1, fk2_5, nd1, sy1, na1, vi1, lf1, rfl, rfl, hW6, hF11, ((hF7.1 9 rfl).trans (ex_ln1)), ((hF7.1 10 rfl).trans (ex_at1)), (e9), ((hF7.1 31 rfl).trans (ex_nd1)), ((hF7.1 19 rfl).trans (ex_sy1)), ((hF7.1 28 rfl).trans (ex_na1)), ((hF7.1 29 rfl).trans (ex_vi1)), (congrFun (hF7.2 3 rfl) _).trans (ex_lf1), by omega, by omega, by omega, by omega, by first | exact Or.inl (by omega) | exact Or.inr ((by omega))⟩
            · have _q := h757
              exact absurd h757 (by omega)
          · have _q : True := trivial
            exfalso
            omega
        · have _q := h751
          exact absurd h751 (by omega)
      · have _q : True := trivial
        refine jx_if_eq (pc' := 27) (tg := 125) rfl rfl rfl (by decide) (by decide) (fun h758 => ?_) (fun h758 => ?_)
        · have _q := h758
          refine jx_ld (pc' := 126) (l' := L) (st' := [.ref 66]) rfl (jl_aloadn gL_0) ?_
          refine jx_vr (pc' := 129) (as := []) (st := []) rfl rfl rfl rfl ⟨rfl, rfl, Nat.le_of_ble_eq_true rfl⟩ rfl rfl (c_bad (dd := d) (hd := by omega) (hW := hW6)  (fk := fk2_5) (e_fk := show G2 16 = fk2_5 from (e9))    ) (fun o V' hq => ?_)
          obtain ⟨r759, rfl, rfl, b760, q761⟩ := hq
          refine .inr ⟨_, rfl, ?_⟩
          rcases q761 with ⟨rfl, a762⟩ | ⟨rfl, a763⟩
          · have _q : True := trivial
            exfalso
            omega
          · have _q : True := trivial
            refine jx_if_ne (pc' := 132) (tg := 142) rfl rfl rfl (by decide) (by decide) (fun h764 => ?_) (fun h764 => ?_)
            · have _q := h764
              exact absurd h764 (by omega)
            · have _q := h764
              refine jx_ld (pc' := 133) (l' := L) (st' := [.int (i32 (many))]) rfl (jl_iloadn gL_1) ?_
              refine jx_if_ne (pc' := 136) (tg := 142) rfl rfl rfl (Int.le_trans (by decide : (-2147483648 : Int) ≤ -2147483648) rx_many.1) (Int.le_trans rx_many.2 (by decide : (2147483647 : Int) ≤ 2147483647)) (fun h765 => ?_) (fun h765 => ?_)
              · have _q := h765
                refine jx_rt (v := none) rfl rfl rfl rfl rfl rfl ?_
                exact ⟨_, _, ln1, at1, fk2_5, nd1, sy1, na1, vi1, lf1, rfl, rfl, hW6, hF11, ((hF7.1 9 rfl).trans (ex_ln1)), ((hF7.1 10 rfl).trans (ex_at1)), (e9), ((hF7.1 31 rfl).trans (ex_nd1)), ((hF7.1 19 rfl).trans (ex_sy1)), ((hF7.1 28 rfl).trans (ex_na1)), ((hF7.1 29 rfl).trans (ex_vi1)), (congrFun (hF7.2 3 rfl) _).trans (ex_lf1), by omega, by omega, by omega, by omega, by first | exact Or.inl (by omega) | exact Or.inr ((by omega))⟩
              · have _q := h765
                refine jx_ld (pc' := 137) (l' := L) (st' := [.ref 66]) rfl (jl_aloadn gL_0) ?_
                refine jx_ar (pc' := 138) (st' := [.int (i32 (1)), .ref 66]) rfl rfl rfl rfl ?_
                refine jx_vr (pc' := 141) (as := [.int (i32 (1))]) (st := []) rfl rfl rfl rfl ⟨rfl, rfl, Nat.le_of_ble_eq_true rfl⟩ rfl rfl (c_needLevel (dd := d) (hd := by omega) (hW := hW6) (lv := 1) (ln := ln1) (e_ln := show G2 9 = ln1 from ((hF7.1 9 rfl).trans (ex_ln1))) (li := li) (e_li := show G2 3 = li from ((hF7.1 3 rfl).trans ((hFx.1 3 rfl).trans (e_li)))) (fk := fk2_5) (e_fk := show G2 16 = fk2_5 from (e9)) (ll := A 5 (ln1).toNat) (e_ll := show A3 5 (ln1).toNat = A 5 (ln1).toNat from (congrFun ((hF7.2 5 rfl).trans (hFx.2 5 rfl)) _))  (h_lv := ⟨(by decide), (by decide)⟩)  ) (fun o V' hq => ?_)
                obtain ⟨G766, A767, r768, fk2_769, rfl, rfl, hW770, hF771, b772, e773, q774⟩ := hq
                have hF775 := Fr_tr hF11 hF771 (Fr_sub (by decide)) (Fr_sub (by decide))
                have bfk2_769 : (0 : Int) ≤ fk2_769 ∧ fk2_769 ≤ 6 := e773 ▸ hW770.1 16
                refine .inr ⟨_, rfl, ?_⟩
                rcases q774 with ⟨rfl, a776, a777, a778, a779⟩ | ⟨rfl, a780⟩
                · have _q : True := trivial
                  have b781 : (0 : Int) ≤ A 4 (ln1).toNat ∧ A 4 (ln1).toNat ≤ 3000 := hW.2 4 _
                  have lt782 : lf1 < A 4 (ln1).toNat := LT_at (LT_ext (((hF771.1 3 rfl).trans ((hF7.1 3 rfl).trans (hFx.1 3 rfl)))) (((hF771.2 3 rfl).trans ((hF7.2 3 rfl).trans (hFx.2 3 rfl)))) (((hF771.2 4 rfl).trans ((hF7.2 4 rfl).trans (hFx.2 4 rfl)))) i_LT) (show G766 3 = li from ((hF771.1 3 rfl).trans ((hF7.1 3 rfl).trans ((hFx.1 3 rfl).trans (e_li))))) (show A767 3 (ln1).toNat = lf1 from (congrFun ((hF771.2 3 rfl).trans (hF7.2 3 rfl)) _).trans (ex_lf1)) (show A767 4 (ln1).toNat = A 4 (ln1).toNat from (congrFun ((hF771.2 4 rfl).trans ((hF7.2 4 rfl).trans (hFx.2 4 rfl))) _)) (by omega) (by omega)
                  refine jx_ar (pc' := 142) (st' := []) rfl rfl rfl rfl ?_
                  refine jx_rt (v := none) rfl rfl rfl rfl rfl rfl ?_
                  exact ⟨_, _, ln1, at1, fk2_769, nd1, sy1, na1, vi1, lf1, rfl, rfl, hW770, hF775, ((hF771.1 9 rfl).trans ((hF7.1 9 rfl).trans (ex_ln1))), ((hF771.1 10 rfl).trans ((hF7.1 10 rfl).trans (ex_at1))), (e773), ((hF771.1 31 rfl).trans ((hF7.1 31 rfl).trans (ex_nd1))), ((hF771.1 19 rfl).trans ((hF7.1 19 rfl).trans (ex_sy1))), ((hF771.1 28 rfl).trans ((hF7.1 28 rfl).trans (ex_na1))), ((hF771.1 29 rfl).trans ((hF7.1 29 rfl).trans (ex_vi1))), (congrFun ((hF771.2 3 rfl).trans (hF7.2 3 rfl)) _).trans (ex_lf1), by omega, by omega, by omega, by omega, by first | exact Or.inl (by omega) | exact Or.inr ((by omega))⟩
                · have _q : True := trivial
                  refine jx_ar (pc' := 142) (st' := []) rfl rfl rfl rfl ?_
                  refine jx_rt (v := none) rfl rfl rfl rfl rfl rfl ?_
                  exact ⟨_, _, ln1, at1, fk2_769, nd1, sy1, na1, vi1, lf1, rfl, rfl, hW770, hF775, ((hF771.1 9 rfl).trans ((hF7.1 9 rfl).trans (ex_ln1))), ((hF771.1 10 rfl).trans ((hF7.1 10 rfl).trans (ex_at1))), (e773), ((hF771.1 31 rfl).trans ((hF7.1 31 rfl).trans (ex_nd1))), ((hF771.1 19 rfl).trans ((hF7.1 19 rfl).trans (ex_sy1))), ((hF771.1 28 rfl).trans ((hF7.1 28 rfl).trans (ex_na1))), ((hF771.1 29 rfl).trans ((hF7.1 29 rfl).trans (ex_vi1))), (congrFun ((hF771.2 3 rfl).trans (hF7.2 3 rfl)) _).trans (ex_lf1), by omega, by omega, by omega, by omega, by first | exact Or.inl (by omega) | exact Or.inr ((by omega))⟩
        · have _q := h758
          exact absurd h758 (by omega)
  refine jx_ld (pc' := 1) (l' := [(0, .ref 66)]) (st' := [.ref 66]) rfl (jl_aloadn rfl) ?_
  refine jx_vr (pc' := 4) (as := []) (st := []) rfl rfl rfl rfl ⟨rfl, rfl, Nat.le_of_ble_eq_true rfl⟩ rfl rfl (c_next (dd := d) (hd := by omega) (hW := hW)  (ln := ln) (e_ln := show G 9 = ln from (e_ln)) (le := le) (e_le := show A 4 (ln).toNat = le from (e_le)) (at0 := at0) (e_at0 := show G 10 = at0 from (e_at0))    (p_0 := by omega)) (fun o V' hq => ?_)
  obtain ⟨G783, A784, at2_785, tk2_786, rfl, rfl, hW787, hF788, e789, e790, p791, p792, p793, -⟩ := hq
  have hF795 := Fr_tr hF0 hF788 (Fr_sub (by decide)) (Fr_sub (by decide))
  have bat2_785 : (0 : Int) ≤ at2_785 ∧ at2_785 ≤ 3002 := e789 ▸ hW787.1 10
  have ztk2_786 := tz_b tk2_786
  have btk2_786 : (0 : Int) ≤ tk2_786 ∧ tk2_786 ≤ 5 := e790 ▸ hW787.1 11
  refine .inl ⟨rfl, ?_⟩
  refine jx_ld (pc' := 5) (l' := [(0, .ref 66)]) (st' := [.ref 66]) rfl (jl_aloadn rfl) ?_
  refine jx_ld (pc' := 6) (l' := [(0, .ref 66)]) (st' := [.ref 66, .ref 66]) rfl (jl_aloadn rfl) ?_
  refine jx_ar (pc' := 7) (st' := [.int (i32 (2)), .ref 66, .ref 66]) rfl rfl rfl rfl ?_
  have b796 : (-2147483648 : Int) ≤ G783 13 ∧ G783 13 ≤ 2147483647 := hW787.1 13
  refine jx_vr (pc' := 10) (as := [.int (i32 (2))]) (st := [.ref 66]) rfl rfl rfl rfl ⟨rfl, rfl, Nat.le_of_ble_eq_true rfl⟩ rfl rfl (c_isKey (dd := d) (hd := by omega) (hW := hW787) (k := 2) (tk := tk2_786) (e_tk := show G783 11 = tk2_786 from (e790)) (tn := G783 13) (e_tn := show G783 13 = G783 13 from rfl)  (h_k := ⟨(by decide), (by decide)⟩)  ) (fun o V' hq => ?_)
  obtain ⟨r797, rfl, rfl, b798, q799⟩ := hq
  refine .inr ⟨_, rfl, ?_⟩
  rcases q799 with ⟨rfl, a800, a801, a802⟩ | rfl
  · have _q : True := trivial
    refine jx_vr (pc' := 13) (as := [.int (i32 (1))]) (st := []) rfl rfl rfl rfl ⟨rfl, rfl, Nat.le_of_ble_eq_true rfl⟩ rfl rfl (c_need (dd := d) (hd := by omega) (hW := hW787) (g := 1) (ln := ln) (e_ln := show G783 9 = ln from ((hF788.1 9 rfl).trans (e_ln))) (le := le) (e_le := show A784 4 (ln).toNat = le from (congrFun (hF788.2 4 rfl) _).trans (e_le)) (at0 := at2_785) (e_at0 := show G783 10 = at2_785 from (e789)) (fk := fk) (e_fk := show G783 16 = fk from ((hF788.1 16 rfl).trans (e_fk))) (tk0 := tk2_786) (e_tk0 := show G783 11 = tk2_786 from (e790))  (h_g := ⟨(by decide), (by decide)⟩)  (p_0 := by omega)) (fun o V' hq => ?_)
    obtain ⟨G803, A804, at2_805, tk2_806, fk2_807, rfl, rfl, hW808, hF809, e810, e811, e812, p813, p814, q815⟩ := hq
    have hF816 := Fr_tr hF795 hF809 (Fr_sub (by decide)) (Fr_sub (by decide))
    have bat2_805 : (0 : Int) ≤ at2_805 ∧ at2_805 ≤ 3002 := e810 ▸ hW808.1 10
    have ztk2_806 := tz_b tk2_806
    have btk2_806 : (0 : Int) ≤ tk2_806 ∧ tk2_806 ≤ 5 := e811 ▸ hW808.1 11
    have bfk2_807 : (0 : Int) ≤ fk2_807 ∧ fk2_807 ≤ 6 := e812 ▸ hW808.1 16
    refine .inl ⟨rfl, ?_⟩
    rcases q815 with ⟨a817, a818, a819, a820⟩ | ⟨a821, a822, a823, a824⟩
    · have _q : True := trivial
      refine jx_ld (pc' := 14) (l' := [(0, .ref 66)]) (st' := [.ref 66]) rfl (jl_aloadn rfl) ?_
      refine jx_vr (pc' := 17) (as := []) (st := []) rfl rfl rfl rfl ⟨rfl, rfl, Nat.le_of_ble_eq_true rfl⟩ rfl rfl (c_endLine (dd := d) (hd := by omega) (hW := hW808)  (ln := ln) (e_ln := show G803 9 = ln from ((hF809.1 9 rfl).trans ((hF788.1 9 rfl).trans (e_ln)))) (li := li) (e_li := show G803 3 = li from ((hF809.1 3 rfl).trans ((hF788.1 3 rfl).trans (e_li)))) (fk := fk2_807) (e_fk := show G803 16 = fk2_807 from (e812)) (tk0 := tk2_806) (e_tk0 := show G803 11 = tk2_806 from (e811))    (p_0 := by omega)) (fun o V' hq => ?_)
      obtain ⟨G825, A826, ln2_827, fk2_828, rfl, rfl, hW829, hF830, e831, e832, q833⟩ := hq
      have hF834 := Fr_tr hF816 hF830 (Fr_sub (by decide)) (Fr_sub (by decide))
      have bln2_827 : (0 : Int) ≤ ln2_827 ∧ ln2_827 ≤ 3000 := e831 ▸ hW829.1 9
      have bfk2_828 : (0 : Int) ≤ fk2_828 ∧ fk2_828 ≤ 6 := e832 ▸ hW829.1 16
      refine .inl ⟨rfl, ?_⟩
      rcases q833 with ⟨a835, a836, a837, a838, a839⟩ | ⟨a840, a841⟩
      · have _q : True := trivial
        exfalso
        omega
      · have _q : True := trivial
        refine jx_ar (pc' := 18) (st' := [.int (i32 (0))]) rfl rfl rfl rfl ?_
        refine jx_ld (pc' := 19) (l' := jSto1 [(0, .ref 66)] 1 (.int (i32 (0)))) (st' := []) rfl rfl ?_
        obtain ⟨L842, eL842⟩ : ∃ q, q = jSto1 [(0, .ref 66)] 1 (.int (i32 (0))) := ⟨_, rfl⟩
        rw [← eL842]
        have gL842_0 : jGet L842 0 = some (.ref 66) := eL842 ▸ jg_ne (by decide) (rfl : jGet [(0, .ref 66)] 0 = some (.ref 66)) rfl
        have gL842_1 : jGet L842 1 = some (.int (i32 (0))) := eL842 ▸ jg_eq
        refine jx_ld (pc' := 20) (l' := L842) (st' := [.ref 66]) rfl (jl_aloadn gL842_0) ?_
        refine jx_ar (pc' := 21) (st' := [.int (i32 (0)), .ref 66]) rfl rfl rfl rfl ?_
        have b843 : (-1 : Int) ≤ A 5 (ln2_827).toNat ∧ A 5 (ln2_827).toNat ≤ 15 := hW.2 5 _
        refine jx_vr (pc' := 24) (as := [.int (i32 (0))]) (st := []) rfl rfl rfl rfl ⟨rfl, rfl, Nat.le_of_ble_eq_true rfl⟩ rfl rfl (c_isBelow (dd := d) (hd := by omega) (hW := hW829) (lv := 0) (ln := ln2_827) (e_ln := show G825 9 = ln2_827 from (e831)) (li := li) (e_li := show G825 3 = li from ((hF830.1 3 rfl).trans ((hF809.1 3 rfl).trans ((hF788.1 3 rfl).trans (e_li))))) (fk := fk2_828) (e_fk := show G825 16 = fk2_828 from (e832)) (ll := A 5 (ln2_827).toNat) (e_ll := show A826 5 (ln2_827).toNat = A 5 (ln2_827).toNat from (congrFun ((hF830.2 5 rfl).trans ((hF809.2 5 rfl).trans (hF788.2 5 rfl))) _))  (h_lv := ⟨(by decide), (by decide)⟩)  (p_0 := by omega)) (fun o V' hq => ?_)
        obtain ⟨G844, A845, r846, fk2_847, rfl, rfl, hW848, hF849, b850, e851, q852⟩ := hq
        have hF853 := Fr_tr hF834 hF849 (Fr_sub (by decide)) (Fr_sub (by decide))
        have bfk2_847 : (0 : Int) ≤ fk2_847 ∧ fk2_847 ≤ 6 := e851 ▸ hW848.1 16
        refine .inr ⟨_, rfl, ?_⟩
        rcases q852 with ⟨rfl, a854, a855, a856, a857⟩ | ⟨rfl, a858⟩ | ⟨rfl, a859, a860⟩
        · have _q : True := trivial
          exfalso
          omega
        · have _q : True := trivial
          refine jx_if_eq (pc' := 27) (tg := 125) rfl rfl rfl (by decide) (by decide) (fun h861 => ?_) (fun h861 => ?_)
          · have _q := h861
            refine jx_ld (pc' := 126) (l' := L842) (st' := [.ref 66]) rfl (jl_aloadn gL842_0) ?_
            refine jx_vr (pc' := 129) (as := []) (st := []) rfl rfl rfl rfl ⟨rfl, rfl, Nat.le_of_ble_eq_true rfl⟩ rfl rfl (c_bad (dd := d) (hd := by omega) (hW := hW848)  (fk := fk2_847) (e_fk := show G844 16 = fk2_847 from (e851))    ) (fun o V' hq => ?_)
            obtain ⟨r862, rfl, rfl, b863, q864⟩ := hq
            refine .inr ⟨_, rfl, ?_⟩
            rcases q864 with ⟨rfl, a865⟩ | ⟨rfl, a866⟩
            · have _q : True := trivial
              refine jx_if_ne (pc' := 132) (tg := 142) rfl rfl rfl (by decide) (by decide) (fun h867 => ?_) (fun h867 => ?_)
              · have _q := h867
                refine jx_rt (v := none) rfl rfl rfl rfl rfl rfl ?_
                exact ⟨_, _, ln2_827, at2_805, fk2_847, nd, sy, na, vi, A 3 (ln2_827).toNat, rfl, rfl, hW848, hF853, ((hF849.1 9 rfl).trans (e831)), ((hF849.1 10 rfl).trans ((hF830.1 10 rfl).trans (e810))), (e851), ((hF849.1 31 rfl).trans ((hF830.1 31 rfl).trans ((hF809.1 31 rfl).trans ((hF788.1 31 rfl).trans (e_nd))))), ((hF849.1 19 rfl).trans ((hF830.1 19 rfl).trans ((hF809.1 19 rfl).trans ((hF788.1 19 rfl).trans (e_sy))))), ((hF849.1 28 rfl).trans ((hF830.1 28 rfl).trans ((hF809.1 28 rfl).trans ((hF788.1 28 rfl).trans (e_na))))), ((hF849.1 29 rfl).trans ((hF830.1 29 rfl).trans ((hF809.1 29 rfl).trans ((hF788.1 29 rfl).trans (e_vi))))), (congrFun ((hF849.2 3 rfl).trans ((hF830.2 3 rfl).trans ((hF809.2 3 rfl).trans (hF788.2 3 rfl)))) _), by omega, by omega, by omega, by omega, by first | exact Or.inl (by omega) | exact Or.inr ((by omega))⟩
              · have _q := h867
                exact absurd h867 (by omega)
            · have _q : True := trivial
              exfalso
              omega
          · have _q := h861
            exact absurd h861 (by omega)
        · have _q : True := trivial
          exfalso
          omega
    · have _q : True := trivial
      refine jx_ld (pc' := 14) (l' := [(0, .ref 66)]) (st' := [.ref 66]) rfl (jl_aloadn rfl) ?_
      refine jx_vr (pc' := 17) (as := []) (st := []) rfl rfl rfl rfl ⟨rfl, rfl, Nat.le_of_ble_eq_true rfl⟩ rfl rfl (c_endLine (dd := d) (hd := by omega) (hW := hW808)  (ln := ln) (e_ln := show G803 9 = ln from ((hF809.1 9 rfl).trans ((hF788.1 9 rfl).trans (e_ln)))) (li := li) (e_li := show G803 3 = li from ((hF809.1 3 rfl).trans ((hF788.1 3 rfl).trans (e_li)))) (fk := fk2_807) (e_fk := show G803 16 = fk2_807 from (e812)) (tk0 := tk2_806) (e_tk0 := show G803 11 = tk2_806 from (e811))    (p_0 := by omega)) (fun o V' hq => ?_)
      obtain ⟨G868, A869, ln2_870, fk2_871, rfl, rfl, hW872, hF873, e874, e875, q876⟩ := hq
      have hF877 := Fr_tr hF816 hF873 (Fr_sub (by decide)) (Fr_sub (by decide))
      have bln2_870 : (0 : Int) ≤ ln2_870 ∧ ln2_870 ≤ 3000 := e874 ▸ hW872.1 9
      have bfk2_871 : (0 : Int) ≤ fk2_871 ∧ fk2_871 ≤ 6 := e875 ▸ hW872.1 16
      refine .inl ⟨rfl, ?_⟩
      rcases q876 with ⟨a878, a879, a880, a881, a882⟩ | ⟨a883, a884⟩
      · have _q : True := trivial
        have b885 : (0 : Int) ≤ A 3 (ln2_870).toNat ∧ A 3 (ln2_870).toNat ≤ 3000 := hW.2 3 _
        have lt886 : ln2_870 < li → le < A 3 (ln2_870).toNat := fun hh => LT_nx (LT_ext (((hF873.1 3 rfl).trans ((hF809.1 3 rfl).trans (hF788.1 3 rfl)))) (((hF873.2 3 rfl).trans ((hF809.2 3 rfl).trans (hF788.2 3 rfl)))) (((hF873.2 4 rfl).trans ((hF809.2 4 rfl).trans (hF788.2 4 rfl)))) i_LT) (show G868 3 = li from ((hF873.1 3 rfl).trans ((hF809.1 3 rfl).trans ((hF788.1 3 rfl).trans (e_li))))) (show A869 4 (ln).toNat = le from (congrFun ((hF873.2 4 rfl).trans ((hF809.2 4 rfl).trans (hF788.2 4 rfl))) _).trans (e_le)) (show A869 3 (ln2_870).toNat = A 3 (ln2_870).toNat from (congrFun ((hF873.2 3 rfl).trans ((hF809.2 3 rfl).trans (hF788.2 3 rfl))) _)) (show ln2_870 = ln + 1 by omega) (by omega) hh
        refine jx_ar (pc' := 18) (st' := [.int (i32 (0))]) rfl rfl rfl rfl ?_
        refine jx_ld (pc' := 19) (l' := jSto1 [(0, .ref 66)] 1 (.int (i32 (0)))) (st' := []) rfl rfl ?_
        obtain ⟨L887, eL887⟩ : ∃ q, q = jSto1 [(0, .ref 66)] 1 (.int (i32 (0))) := ⟨_, rfl⟩
        rw [← eL887]
        have gL887_0 : jGet L887 0 = some (.ref 66) := eL887 ▸ jg_ne (by decide) (rfl : jGet [(0, .ref 66)] 0 = some (.ref 66)) rfl
        have gL887_1 : jGet L887 1 = some (.int (i32 (0))) := eL887 ▸ jg_eq
        exact at_19 _ L887 G868 A869 (0) (ln2_870) (at2_805) (fk2_871) (nd) (sy) (na) (vi) (A 3 (ln2_870).toNat) rfl gL887_0 gL887_1 hW872 hF877 ((e874)) (((hF873.1 10 rfl).trans (e810))) ((e875)) (((hF873.1 31 rfl).trans ((hF809.1 31 rfl).trans ((hF788.1 31 rfl).trans (e_nd))))) (((hF873.1 19 rfl).trans ((hF809.1 19 rfl).trans ((hF788.1 19 rfl).trans (e_sy))))) (((hF873.1 28 rfl).trans ((hF809.1 28 rfl).trans ((hF788.1 28 rfl).trans (e_na))))) (((hF873.1 29 rfl).trans ((hF809.1 29 rfl).trans ((hF788.1 29 rfl).trans (e_vi))))) ((congrFun ((hF873.2 3 rfl).trans ((hF809.2 3 rfl).trans (hF788.2 3 rfl))) _)) (by omega) (by omega) (by omega) (by omega) (by omega) (by omega) (by omega) (by omega) (by omega) (by omega)
      · have _q : True := trivial
        refine jx_ar (pc' := 18) (st' := [.int (i32 (0))]) rfl rfl rfl rfl ?_
        refine jx_ld (pc' := 19) (l' := jSto1 [(0, .ref 66)] 1 (.int (i32 (0)))) (st' := []) rfl rfl ?_
        obtain ⟨L888, eL888⟩ : ∃ q, q = jSto1 [(0, .ref 66)] 1 (.int (i32 (0))) := ⟨_, rfl⟩
        rw [← eL888]
        have gL888_0 : jGet L888 0 = some (.ref 66) := eL888 ▸ jg_ne (by decide) (rfl : jGet [(0, .ref 66)] 0 = some (.ref 66)) rfl
        have gL888_1 : jGet L888 1 = some (.int (i32 (0))) := eL888 ▸ jg_eq
        refine jx_ld (pc' := 20) (l' := L888) (st' := [.ref 66]) rfl (jl_aloadn gL888_0) ?_
        refine jx_ar (pc' := 21) (st' := [.int (i32 (0)), .ref 66]) rfl rfl rfl rfl ?_
        have b889 : (-1 : Int) ≤ A 5 (ln2_870).toNat ∧ A 5 (ln2_870).toNat ≤ 15 := hW.2 5 _
        refine jx_vr (pc' := 24) (as := [.int (i32 (0))]) (st := []) rfl rfl rfl rfl ⟨rfl, rfl, Nat.le_of_ble_eq_true rfl⟩ rfl rfl (c_isBelow (dd := d) (hd := by omega) (hW := hW872) (lv := 0) (ln := ln2_870) (e_ln := show G868 9 = ln2_870 from (e874)) (li := li) (e_li := show G868 3 = li from ((hF873.1 3 rfl).trans ((hF809.1 3 rfl).trans ((hF788.1 3 rfl).trans (e_li))))) (fk := fk2_871) (e_fk := show G868 16 = fk2_871 from (e875)) (ll := A 5 (ln2_870).toNat) (e_ll := show A869 5 (ln2_870).toNat = A 5 (ln2_870).toNat from (congrFun ((hF873.2 5 rfl).trans ((hF809.2 5 rfl).trans (hF788.2 5 rfl))) _))  (h_lv := ⟨(by decide), (by decide)⟩)  (p_0 := by omega)) (fun o V' hq => ?_)
        obtain ⟨G890, A891, r892, fk2_893, rfl, rfl, hW894, hF895, b896, e897, q898⟩ := hq
        have hF899 := Fr_tr hF877 hF895 (Fr_sub (by decide)) (Fr_sub (by decide))
        have bfk2_893 : (0 : Int) ≤ fk2_893 ∧ fk2_893 ≤ 6 := e897 ▸ hW894.1 16
        refine .inr ⟨_, rfl, ?_⟩
        rcases q898 with ⟨rfl, a900, a901, a902, a903⟩ | ⟨rfl, a904⟩ | ⟨rfl, a905, a906⟩
        · have _q : True := trivial
          exfalso
          omega
        · have _q : True := trivial
          refine jx_if_eq (pc' := 27) (tg := 125) rfl rfl rfl (by decide) (by decide) (fun h907 => ?_) (fun h907 => ?_)
          · have _q := h907
            refine jx_ld (pc' := 126) (l' := L888) (st' := [.ref 66]) rfl (jl_aloadn gL888_0) ?_
            refine jx_vr (pc' := 129) (as := []) (st := []) rfl rfl rfl rfl ⟨rfl, rfl, Nat.le_of_ble_eq_true rfl⟩ rfl rfl (c_bad (dd := d) (hd := by omega) (hW := hW894)  (fk := fk2_893) (e_fk := show G890 16 = fk2_893 from (e897))    ) (fun o V' hq => ?_)
            obtain ⟨r908, rfl, rfl, b909, q910⟩ := hq
            refine .inr ⟨_, rfl, ?_⟩
            rcases q910 with ⟨rfl, a911⟩ | ⟨rfl, a912⟩
            · have _q : True := trivial
              refine jx_if_ne (pc' := 132) (tg := 142) rfl rfl rfl (by decide) (by decide) (fun h913 => ?_) (fun h913 => ?_)
              · have _q := h913
                refine jx_rt (v := none) rfl rfl rfl rfl rfl rfl ?_
                exact ⟨_, _, ln2_870, at2_805, fk2_893, nd, sy, na, vi, A 3 (ln2_870).toNat, rfl, rfl, hW894, hF899, ((hF895.1 9 rfl).trans (e874)), ((hF895.1 10 rfl).trans ((hF873.1 10 rfl).trans (e810))), (e897), ((hF895.1 31 rfl).trans ((hF873.1 31 rfl).trans ((hF809.1 31 rfl).trans ((hF788.1 31 rfl).trans (e_nd))))), ((hF895.1 19 rfl).trans ((hF873.1 19 rfl).trans ((hF809.1 19 rfl).trans ((hF788.1 19 rfl).trans (e_sy))))), ((hF895.1 28 rfl).trans ((hF873.1 28 rfl).trans ((hF809.1 28 rfl).trans ((hF788.1 28 rfl).trans (e_na))))), ((hF895.1 29 rfl).trans ((hF873.1 29 rfl).trans ((hF809.1 29 rfl).trans ((hF788.1 29 rfl).trans (e_vi))))), (congrFun ((hF895.2 3 rfl).trans ((hF873.2 3 rfl).trans ((hF809.2 3 rfl).trans (hF788.2 3 rfl)))) _), by omega, by omega, by omega, by omega, by first | exact Or.inl (by omega) | exact Or.inr ((by omega))⟩
              · have _q := h913
                exact absurd h913 (by omega)
            · have _q : True := trivial
              exfalso
              omega
          · have _q := h907
            exact absurd h907 (by omega)
        · have _q : True := trivial
          exfalso
          omega
  · have _q : True := trivial
    refine jx_vr (pc' := 13) (as := [.int (i32 (0))]) (st := []) rfl rfl rfl rfl ⟨rfl, rfl, Nat.le_of_ble_eq_true rfl⟩ rfl rfl (c_need (dd := d) (hd := by omega) (hW := hW787) (g := 0) (ln := ln) (e_ln := show G783 9 = ln from ((hF788.1 9 rfl).trans (e_ln))) (le := le) (e_le := show A784 4 (ln).toNat = le from (congrFun (hF788.2 4 rfl) _).trans (e_le)) (at0 := at2_785) (e_at0 := show G783 10 = at2_785 from (e789)) (fk := fk) (e_fk := show G783 16 = fk from ((hF788.1 16 rfl).trans (e_fk))) (tk0 := tk2_786) (e_tk0 := show G783 11 = tk2_786 from (e790))  (h_g := ⟨(by decide), (by decide)⟩)  (p_0 := by omega)) (fun o V' hq => ?_)
    obtain ⟨G914, A915, at2_916, tk2_917, fk2_918, rfl, rfl, hW919, hF920, e921, e922, e923, p924, p925, q926⟩ := hq
    have hF927 := Fr_tr hF795 hF920 (Fr_sub (by decide)) (Fr_sub (by decide))
    have bat2_916 : (0 : Int) ≤ at2_916 ∧ at2_916 ≤ 3002 := e921 ▸ hW919.1 10
    have ztk2_917 := tz_b tk2_917
    have btk2_917 : (0 : Int) ≤ tk2_917 ∧ tk2_917 ≤ 5 := e922 ▸ hW919.1 11
    have bfk2_918 : (0 : Int) ≤ fk2_918 ∧ fk2_918 ≤ 6 := e923 ▸ hW919.1 16
    refine .inl ⟨rfl, ?_⟩
    rcases q926 with ⟨a928, a929, a930, a931⟩ | ⟨a932, a933, a934, a935⟩
    · have _q : True := trivial
      refine jx_ld (pc' := 14) (l' := [(0, .ref 66)]) (st' := [.ref 66]) rfl (jl_aloadn rfl) ?_
      refine jx_vr (pc' := 17) (as := []) (st := []) rfl rfl rfl rfl ⟨rfl, rfl, Nat.le_of_ble_eq_true rfl⟩ rfl rfl (c_endLine (dd := d) (hd := by omega) (hW := hW919)  (ln := ln) (e_ln := show G914 9 = ln from ((hF920.1 9 rfl).trans ((hF788.1 9 rfl).trans (e_ln)))) (li := li) (e_li := show G914 3 = li from ((hF920.1 3 rfl).trans ((hF788.1 3 rfl).trans (e_li)))) (fk := fk2_918) (e_fk := show G914 16 = fk2_918 from (e923)) (tk0 := tk2_917) (e_tk0 := show G914 11 = tk2_917 from (e922))    (p_0 := by omega)) (fun o V' hq => ?_)
      obtain ⟨G936, A937, ln2_938, fk2_939, rfl, rfl, hW940, hF941, e942, e943, q944⟩ := hq
      have hF945 := Fr_tr hF927 hF941 (Fr_sub (by decide)) (Fr_sub (by decide))
      have bln2_938 : (0 : Int) ≤ ln2_938 ∧ ln2_938 ≤ 3000 := e942 ▸ hW940.1 9
      have bfk2_939 : (0 : Int) ≤ fk2_939 ∧ fk2_939 ≤ 6 := e943 ▸ hW940.1 16
      refine .inl ⟨rfl, ?_⟩
      rcases q944 with ⟨a946, a947, a948, a949, a950⟩ | ⟨a951, a952⟩
      · have _q : True := trivial
        exfalso
        omega
      · have _q : True := trivial
        refine jx_ar (pc' := 18) (st' := [.int (i32 (0))]) rfl rfl rfl rfl ?_
        refine jx_ld (pc' := 19) (l' := jSto1 [(0, .ref 66)] 1 (.int (i32 (0)))) (st' := []) rfl rfl ?_
        obtain ⟨L953, eL953⟩ : ∃ q, q = jSto1 [(0, .ref 66)] 1 (.int (i32 (0))) := ⟨_, rfl⟩
        rw [← eL953]
        have gL953_0 : jGet L953 0 = some (.ref 66) := eL953 ▸ jg_ne (by decide) (rfl : jGet [(0, .ref 66)] 0 = some (.ref 66)) rfl
        have gL953_1 : jGet L953 1 = some (.int (i32 (0))) := eL953 ▸ jg_eq
        refine jx_ld (pc' := 20) (l' := L953) (st' := [.ref 66]) rfl (jl_aloadn gL953_0) ?_
        refine jx_ar (pc' := 21) (st' := [.int (i32 (0)), .ref 66]) rfl rfl rfl rfl ?_
        have b954 : (-1 : Int) ≤ A 5 (ln2_938).toNat ∧ A 5 (ln2_938).toNat ≤ 15 := hW.2 5 _
        refine jx_vr (pc' := 24) (as := [.int (i32 (0))]) (st := []) rfl rfl rfl rfl ⟨rfl, rfl, Nat.le_of_ble_eq_true rfl⟩ rfl rfl (c_isBelow (dd := d) (hd := by omega) (hW := hW940) (lv := 0) (ln := ln2_938) (e_ln := show G936 9 = ln2_938 from (e942)) (li := li) (e_li := show G936 3 = li from ((hF941.1 3 rfl).trans ((hF920.1 3 rfl).trans ((hF788.1 3 rfl).trans (e_li))))) (fk := fk2_939) (e_fk := show G936 16 = fk2_939 from (e943)) (ll := A 5 (ln2_938).toNat) (e_ll := show A937 5 (ln2_938).toNat = A 5 (ln2_938).toNat from (congrFun ((hF941.2 5 rfl).trans ((hF920.2 5 rfl).trans (hF788.2 5 rfl))) _))  (h_lv := ⟨(by decide), (by decide)⟩)  (p_0 := by omega)) (fun o V' hq => ?_)
        obtain ⟨G955, A956, r957, fk2_958, rfl, rfl, hW959, hF960, b961, e962, q963⟩ := hq
        have hF964 := Fr_tr hF945 hF960 (Fr_sub (by decide)) (Fr_sub (by decide))
        have bfk2_958 : (0 : Int) ≤ fk2_958 ∧ fk2_958 ≤ 6 := e962 ▸ hW959.1 16
        refine .inr ⟨_, rfl, ?_⟩
        rcases q963 with ⟨rfl, a965, a966, a967, a968⟩ | ⟨rfl, a969⟩ | ⟨rfl, a970, a971⟩
        · have _q : True := trivial
          exfalso
          omega
        · have _q : True := trivial
          refine jx_if_eq (pc' := 27) (tg := 125) rfl rfl rfl (by decide) (by decide) (fun h972 => ?_) (fun h972 => ?_)
          · have _q := h972
            refine jx_ld (pc' := 126) (l' := L953) (st' := [.ref 66]) rfl (jl_aloadn gL953_0) ?_
            refine jx_vr (pc' := 129) (as := []) (st := []) rfl rfl rfl rfl ⟨rfl, rfl, Nat.le_of_ble_eq_true rfl⟩ rfl rfl (c_bad (dd := d) (hd := by omega) (hW := hW959)  (fk := fk2_958) (e_fk := show G955 16 = fk2_958 from (e962))    ) (fun o V' hq => ?_)
            obtain ⟨r973, rfl, rfl, b974, q975⟩ := hq
            refine .inr ⟨_, rfl, ?_⟩
            rcases q975 with ⟨rfl, a976⟩ | ⟨rfl, a977⟩
            · have _q : True := trivial
              refine jx_if_ne (pc' := 132) (tg := 142) rfl rfl rfl (by decide) (by decide) (fun h978 => ?_) (fun h978 => ?_)
              · have _q := h978
                refine jx_rt (v := none) rfl rfl rfl rfl rfl rfl ?_
                exact ⟨_, _, ln2_938, at2_916, fk2_958, nd, sy, na, vi, A 3 (ln2_938).toNat, rfl, rfl, hW959, hF964, ((hF960.1 9 rfl).trans (e942)), ((hF960.1 10 rfl).trans ((hF941.1 10 rfl).trans (e921))), (e962), ((hF960.1 31 rfl).trans ((hF941.1 31 rfl).trans ((hF920.1 31 rfl).trans ((hF788.1 31 rfl).trans (e_nd))))), ((hF960.1 19 rfl).trans ((hF941.1 19 rfl).trans ((hF920.1 19 rfl).trans ((hF788.1 19 rfl).trans (e_sy))))), ((hF960.1 28 rfl).trans ((hF941.1 28 rfl).trans ((hF920.1 28 rfl).trans ((hF788.1 28 rfl).trans (e_na))))), ((hF960.1 29 rfl).trans ((hF941.1 29 rfl).trans ((hF920.1 29 rfl).trans ((hF788.1 29 rfl).trans (e_vi))))), (congrFun ((hF960.2 3 rfl).trans ((hF941.2 3 rfl).trans ((hF920.2 3 rfl).trans (hF788.2 3 rfl)))) _), by omega, by omega, by omega, by omega, by first | exact Or.inl (by omega) | exact Or.inr ((by omega))⟩
              · have _q := h978
                exact absurd h978 (by omega)
            · have _q : True := trivial
              exfalso
              omega
          · have _q := h972
            exact absurd h972 (by omega)
        · have _q : True := trivial
          exfalso
          omega
    · have _q : True := trivial
      exfalso
      omega
set_option maxRecDepth 20000 in
set_option maxHeartbeats 4000000 in
theorem c_isKey2 {X : jX} {dd : Nat} {c0 c1 : jC} {G : Nat → Int} {A : Nat → Nat → Int} {T : jH} {k : Int} {tk tn : Int} (hd : 1 ≤ dd) (hW : Wk G A) (e_tk : G 11 = tk) (e_tn : G 13 = tn) (h_k : (-2147483648 : Int) ≤ k ∧ k ≤ 2147483647) : wk X dd 267 [.ref 66, .int (i32 k)] (rV c0 c1 G A T) (fun o V' => ∃ (r : Int), V' = rV c0 c1 G A T ∧ o = .inl (some (.int (i32 r))) ∧ ((0 : Int) ≤ r ∧ r ≤ 1) ∧ ((r = 1 ∧ (tk = 2) ∧ (tn = k) ∧ (tz tk = 1)) ∨ (r = 0 ∧ (tk ≠ 2 ∨ tn ≠ k)))) := by
  obtain ⟨d, rfl⟩ : ∃ d, dd = d + 1 := ⟨dd - 1, by omega⟩
  refine wk_of (e := jm267) rfl (Nat.le_of_ble_eq_true rfl) ?_
  show wj X d jm267 (0, [(0, .ref 66), (1, .int (i32 (k)))], [], rV c0 c1 G A T) _
  have z_tk := tz_f tk
  have b_tk : (0 : Int) ≤ tk ∧ tk ≤ 5 := e_tk ▸ hW.1 11
  have b_tn : (-2147483648 : Int) ≤ tn ∧ tn ≤ 2147483647 := e_tn ▸ hW.1 13
  refine jx_ld (pc' := 1) (l' := [(0, .ref 66), (1, .int (i32 (k)))]) (st' := [.ref 66]) rfl (jl_aloadn rfl) ?_
  have z1 := tz_f (tk)
  refine jr_get (pc' := 4) (i := 11) (v := .int (i32 (tk))) rfl rfl (by decide) (rFv_eq (by decide) (show G 11 = tk from (e_tk))) rfl ?_
  refine jx_ar (pc' := 5) (st' := [.int (i32 (2)), .int (i32 (tk))]) rfl rfl rfl rfl ?_
  refine jx_icmp_ne (pc' := 8) (tg := 20) rfl rfl rfl (Int.le_trans (by decide : (-2147483648 : Int) ≤ 0) b_tk.1) (Int.le_trans b_tk.2 (by decide : (5 : Int) ≤ 2147483647)) (by decide) (by decide) (fun h2 => ?_) (fun h2 => ?_)
  · have _q := h2
    refine jx_ar (pc' := 21) (st' := [.int (i32 (0))]) rfl rfl rfl rfl ?_
    refine jx_rt (v := some (.int (i32 (0)))) rfl rfl rfl rfl rfl (by first | rfl | exact jRet_b (by omega)) ?_
    exact ⟨_, rfl, rfl, by omega, by first | exact Or.inl (⟨by omega, by omega, by omega, by omega⟩) | exact Or.inr ((⟨by omega, by omega⟩))⟩
  · have _q := h2
    refine jx_ld (pc' := 9) (l' := [(0, .ref 66), (1, .int (i32 (k)))]) (st' := [.ref 66]) rfl (jl_aloadn rfl) ?_
    refine jr_get (pc' := 12) (i := 13) (v := .int (i32 (tn))) rfl rfl (by decide) (rFv_eq (by decide) (show G 13 = tn from (e_tn))) rfl ?_
    refine jx_ld (pc' := 13) (l' := [(0, .ref 66), (1, .int (i32 (k)))]) (st' := [.int (i32 (k)), .int (i32 (tn))]) rfl (jl_iloadn rfl) ?_
    refine jx_icmp_ne (pc' := 16) (tg := 20) rfl rfl rfl (Int.le_trans (by decide : (-2147483648 : Int) ≤ -2147483648) b_tn.1) (Int.le_trans b_tn.2 (by decide : (2147483647 : Int) ≤ 2147483647)) (Int.le_trans (by decide : (-2147483648 : Int) ≤ -2147483648) h_k.1) (Int.le_trans h_k.2 (by decide : (2147483647 : Int) ≤ 2147483647)) (fun h3 => ?_) (fun h3 => ?_)
    · have _q := h3
      refine jx_ar (pc' := 21) (st' := [.int (i32 (0))]) rfl rfl rfl rfl ?_
      refine jx_rt (v := some (.int (i32 (0)))) rfl rfl rfl rfl rfl (by first | rfl | exact jRet_b (by omega)) ?_
      exact ⟨_, rfl, rfl, by omega, by first | exact Or.inl (⟨by omega, by omega, by omega, by omega⟩) | exact Or.inr ((⟨by omega, by omega⟩))⟩
    · have _q := h3
      refine jx_ar (pc' := 17) (st' := [.int (i32 (1))]) rfl rfl rfl rfl ?_
      refine jx_go (tg := 21) rfl rfl ?_
      refine jx_rt (v := some (.int (i32 (1)))) rfl rfl rfl rfl rfl (by first | rfl | exact jRet_b (by omega)) ?_
      exact ⟨_, rfl, rfl, by omega, by first | exact Or.inl (⟨by omega, by omega, by omega, by omega⟩) | exact Or.inr ((⟨by omega, by omega⟩))⟩
set_option maxRecDepth 20000 in
set_option maxHeartbeats 4000000 in
theorem c_readProgram {X : jX} {dd : Nat} {c0 c1 : jC} {G : Nat → Int} {A : Nat → Nat → Int} {T : jH} {ln li fk nd sy na vi lf : Int} (hd : 8 * 18 + 82 ≤ dd) (hW : Wk G A) (e_ln : G 9 = ln) (e_li : G 3 = li) (e_fk : G 16 = fk) (e_nd : G 31 = nd) (e_sy : G 19 = sy) (e_na : G 28 = na) (e_vi : G 29 = vi) (e_lf : A 3 (ln).toNat = lf) (i_LT : LT G A) (p_0 : fk = 0) (p_1 : ln = 0) (p_2 : nd = 1) (p_3 : sy = 0) (p_4 : na = 0) (p_5 : vi = 0) : wk X dd 312 [.ref 66] (rV c0 c1 G A T) (fun o V' => ∃ (G' : Nat → Int) (A' : Nat → Nat → Int) (ln2 : Int) (fk2 : Int) (nd2 : Int) (sy2 : Int) (na2 : Int) (vi2 : Int), V' = rV c0 c1 G' A' T ∧ o = .inl none ∧ Wk G' A' ∧ Fr [9, 10, 11, 12, 13, 14, 15, 16, 17, 18, 19, 28, 29, 31, 46, 52] [6, 7, 8, 9, 10, 11, 12, 14, 15, 16, 17, 18, 19, 20, 21, 22, 23, 24, 28, 29, 30, 31, 34, 35, 36] G A G' A' ∧ G' 9 = ln2 ∧ G' 16 = fk2 ∧ G' 31 = nd2 ∧ G' 19 = sy2 ∧ G' 28 = na2 ∧ G' 29 = vi2 ∧ (((1 ≤ fk2)) ∨ ((fk2 = 0)))) := by
  obtain ⟨d, rfl⟩ : ∃ d, dd = d + 1 := ⟨dd - 1, by omega⟩
  refine wk_of (e := jm312) rfl (Nat.le_of_ble_eq_true rfl) ?_
  show wj X d jm312 (0, [(0, .ref 66)], [], rV c0 c1 G A T) _
  have hF0 : Fr [9, 10, 11, 12, 13, 14, 15, 16, 17, 18, 19, 28, 29, 31, 46, 52] [6, 7, 8, 9, 10, 11, 12, 14, 15, 16, 17, 18, 19, 20, 21, 22, 23, 24, 28, 29, 30, 31, 34, 35, 36] G A G A := Fr_rf
  have b_ln : (0 : Int) ≤ ln ∧ ln ≤ 3000 := e_ln ▸ hW.1 9
  have b_li : (0 : Int) ≤ li ∧ li ≤ 3000 := e_li ▸ hW.1 3
  have b_fk : (0 : Int) ≤ fk ∧ fk ≤ 6 := e_fk ▸ hW.1 16
  have b_nd : (0 : Int) ≤ nd ∧ nd ≤ 6999 := e_nd ▸ hW.1 31
  have b_sy : (0 : Int) ≤ sy ∧ sy ≤ 202 := e_sy ▸ hW.1 19
  have b_na : (0 : Int) ≤ na ∧ na ≤ 200 := e_na ▸ hW.1 28
  have b_vi : (0 : Int) ≤ vi ∧ vi ≤ 202 := e_vi ▸ hW.1 29
  have b_lf : (0 : Int) ≤ lf ∧ lf ≤ 3000 := e_lf ▸ hW.2 3 _
  have at_141_1 : ∀ (L : jL) (Gx : Nat → Int) (Ax : Nat → Nat → Int) (ln1 at1 tk1 fk1 op1 nd1 sy1 na1 vi1 lf1 le1 : Int), jGet L 0 = some (.ref 66) → jGet L 2 = some (.int (i32 (1))) → Wk Gx Ax → Fr [9, 10, 11, 12, 13, 14, 15, 16, 17, 18, 19, 28, 29, 31, 46, 52] [6, 7, 8, 9, 10, 11, 12, 14, 15, 16, 17, 18, 19, 20, 21, 22, 23, 24, 28, 29, 30, 31, 34, 35, 36] G A Gx Ax → Gx 9 = ln1 → Gx 10 = at1 → Gx 11 = tk1 → Gx 16 = fk1 → Gx 15 = op1 → Gx 31 = nd1 → Gx 19 = sy1 → Gx 28 = na1 → Gx 29 = vi1 → Ax 3 (ln1).toNat = lf1 → Ax 4 (ln1).toNat = le1 → (fk1 = 0) → (0 ≤ lf1) → (ln1 < li) → (lf1 < le1) → (2 * lf1 ≤ 2 * at1 - tz tk1) → (lf1 ≤ at1) → (at1 ≤ le1) → (nd1 ≤ 2 * lf1 + 2) → (op1 = 0) → (sy1 ≤ na1 + 2) → (vi1 ≤ sy1) → wj X d jm312 (141, L, [], rV c0 c1 Gx Ax T) (fun o V' => ∃ (G' : Nat → Int) (A' : Nat → Nat → Int) (ln2 : Int) (fk2 : Int) (nd2 : Int) (sy2 : Int) (na2 : Int) (vi2 : Int), V' = rV c0 c1 G' A' T ∧ o = .inl none ∧ Wk G' A' ∧ Fr [9, 10, 11, 12, 13, 14, 15, 16, 17, 18, 19, 28, 29, 31, 46, 52] [6, 7, 8, 9, 10, 11, 12, 14, 15, 16, 17, 18, 19, 20, 21, 22, 23, 24, 28, 29, 30, 31, 34, 35, 36] G A G' A' ∧ G' 9 = ln2 ∧ G' 16 = fk2 ∧ G' 31 = nd2 ∧ G' 19 = sy2 ∧ G' 28 = na2 ∧ G' 29 = vi2 ∧ (((1 ≤ fk2)) ∨ ((fk2 = 0)))) := by
    intro L Gx Ax ln1 at1 tk1 fk1 op1 nd1 sy1 na1 vi1 lf1 le1 gL_0 gL_2 hWx hFx ex_ln1 ex_at1 ex_tk1 ex_fk1 ex_op1 ex_nd1 ex_sy1 ex_na1 ex_vi1 ex_lf1 ex_le1 iv_0 iv_1 iv_2 iv_3 iv_4 iv_5 iv_6 iv_7 iv_8 iv_9 iv_10
    have b_ln1 : (0 : Int) ≤ ln1 ∧ ln1 ≤ 3000 := ex_ln1 ▸ hWx.1 9
    have b_at1 : (0 : Int) ≤ at1 ∧ at1 ≤ 3002 := ex_at1 ▸ hWx.1 10
    have z_tk1 := tz_f tk1
    have b_tk1 : (0 : Int) ≤ tk1 ∧ tk1 ≤ 5 := ex_tk1 ▸ hWx.1 11
    have b_fk1 : (0 : Int) ≤ fk1 ∧ fk1 ≤ 6 := ex_fk1 ▸ hWx.1 16
    have b_op1 : (-2147483648 : Int) ≤ op1 ∧ op1 ≤ 2147483647 := ex_op1 ▸ hWx.1 15
    have b_nd1 : (0 : Int) ≤ nd1 ∧ nd1 ≤ 6999 := ex_nd1 ▸ hWx.1 31
    have b_sy1 : (0 : Int) ≤ sy1 ∧ sy1 ≤ 202 := ex_sy1 ▸ hWx.1 19
    have b_na1 : (0 : Int) ≤ na1 ∧ na1 ≤ 200 := ex_na1 ▸ hWx.1 28
    have b_vi1 : (0 : Int) ≤ vi1 ∧ vi1 ≤ 202 := ex_vi1 ▸ hWx.1 29
    refine jx_ld (pc' := 142) (l' := L) (st' := [.int (i32 (1))]) rfl (jl_iloadn gL_2) ?_
    refine jx_if_eq (pc' := 145) (tg := 184) rfl rfl rfl (by decide) (by decide) (fun h1 => ?_) (fun h1 => ?_)
    · have _q := h1
      exact absurd h1 (by omega)
    · have _q := h1
      refine jx_ld (pc' := 146) (l' := L) (st' := [.ref 66]) rfl (jl_aloadn gL_0) ?_
      refine jx_vr (pc' := 149) (as := []) (st := []) rfl rfl rfl rfl ⟨rfl, rfl, Nat.le_of_ble_eq_true rfl⟩ rfl rfl (c_bad (dd := d) (hd := by omega) (hW := hWx)  (fk := fk1) (e_fk := show Gx 16 = fk1 from (ex_fk1))    ) (fun o V' hq => ?_)
      obtain ⟨r2, rfl, rfl, b3, q4⟩ := hq
      refine .inr ⟨_, rfl, ?_⟩
      rcases q4 with ⟨rfl, a5⟩ | ⟨rfl, a6⟩
      · have _q : True := trivial
        exfalso
        omega
      · have _q : True := trivial
        refine jx_if_ne (pc' := 152) (tg := 170) rfl rfl rfl (by decide) (by decide) (fun h7 => ?_) (fun h7 => ?_)
        · have _q := h7
          exact absurd h7 (by omega)
        · have _q := h7
          refine jx_ld (pc' := 153) (l' := L) (st' := [.ref 66]) rfl (jl_aloadn gL_0) ?_
          refine jx_ar (pc' := 155) (st' := [.int (i32 (19)), .ref 66]) rfl rfl rfl rfl ?_
          have b8 : (-2147483648 : Int) ≤ Gx 13 ∧ Gx 13 ≤ 2147483647 := hWx.1 13
          refine jx_vr (pc' := 158) (as := [.int (i32 (19))]) (st := []) rfl rfl rfl rfl ⟨rfl, rfl, Nat.le_of_ble_eq_true rfl⟩ rfl rfl (c_isKey (dd := d) (hd := by omega) (hW := hWx) (k := 19) (tk := tk1) (e_tk := show Gx 11 = tk1 from (ex_tk1)) (tn := Gx 13) (e_tn := show Gx 13 = Gx 13 from rfl)  (h_k := ⟨(by decide), (by decide)⟩)  ) (fun o V' hq => ?_)
          obtain ⟨r9, rfl, rfl, b10, q11⟩ := hq
          refine .inr ⟨_, rfl, ?_⟩
          rcases q11 with ⟨rfl, a12, a13, a14⟩ | rfl
          · have _q : True := trivial
            refine jx_if_ne (pc' := 161) (tg := 170) rfl rfl rfl (by decide) (by decide) (fun h15 => ?_) (fun h15 => ?_)
            · have _q := h15
              refine jx_ld (pc' := 171) (l' := L) (st' := [.ref 66]) rfl (jl_aloadn gL_0) ?_
              refine jx_vr (pc' := 174) (as := []) (st := []) rfl rfl rfl rfl ⟨rfl, rfl, Nat.le_of_ble_eq_true rfl⟩ rfl rfl (c_bad (dd := d) (hd := by omega) (hW := hWx)  (fk := fk1) (e_fk := show Gx 16 = fk1 from (ex_fk1))    ) (fun o V' hq => ?_)
              obtain ⟨r16, rfl, rfl, b17, q18⟩ := hq
              refine .inr ⟨_, rfl, ?_⟩
              rcases q18 with ⟨rfl, a19⟩ | ⟨rfl, a20⟩
              · have _q : True := trivial
                exfalso
                omega
              · have _q : True := trivial
                refine jx_if_ne (pc' := 177) (tg := 195) rfl rfl rfl (by decide) (by decide) (fun h21 => ?_) (fun h21 => ?_)
                · have _q := h21
                  exact absurd h21 (by omega)
                · have _q := h21
                  refine jx_ld (pc' := 178) (l' := L) (st' := [.ref 66]) rfl (jl_aloadn gL_0) ?_
                  refine jx_vr (pc' := 181) (as := []) (st := []) rfl rfl rfl rfl ⟨rfl, rfl, Nat.le_of_ble_eq_true rfl⟩ rfl rfl (c_readPlaced (dd := d) (hd := by omega) (hW := hWx)  (ln := ln1) (e_ln := show Gx 9 = ln1 from (ex_ln1)) (li := li) (e_li := show Gx 3 = li from ((hFx.1 3 rfl).trans (e_li))) (at0 := at1) (e_at0 := show Gx 10 = at1 from (ex_at1)) (fk := fk1) (e_fk := show Gx 16 = fk1 from (ex_fk1)) (nd := nd1) (e_nd := show Gx 31 = nd1 from (ex_nd1)) (sy := sy1) (e_sy := show Gx 19 = sy1 from (ex_sy1)) (na := na1) (e_na := show Gx 28 = na1 from (ex_na1)) (vi := vi1) (e_vi := show Gx 29 = vi1 from (ex_vi1)) (le := le1) (e_le := show Ax 4 (ln1).toNat = le1 from (ex_le1)) (op0 := op1) (e_op0 := show Gx 15 = op1 from (ex_op1)) (tk0 := tk1) (e_tk0 := show Gx 11 = tk1 from (ex_tk1)) (i_LT := (LT_ext ((hFx.1 3 rfl)) ((hFx.2 3 rfl)) ((hFx.2 4 rfl)) i_LT))   (p_0 := by omega) (p_1 := by omega) (p_2 := by omega) (p_3 := by omega) (p_4 := by omega) (p_5 := by omega)) (fun o V' hq => ?_)
                  obtain ⟨G22, A23, ln2_24, at2_25, fk2_26, nd2_27, sy2_28, na2_29, vi2_30, lf2_31, rfl, rfl, hW32, hF33, e34, e35, e36, e37, e38, e39, e40, e41, p42, p43, p44, p45, q46⟩ := hq
                  have hF47 := Fr_tr hFx hF33 (Fr_sub (by decide)) (Fr_sub (by decide))
                  have bln2_24 : (0 : Int) ≤ ln2_24 ∧ ln2_24 ≤ 3000 := e34 ▸ hW32.1 9
                  have bat2_25 : (0 : Int) ≤ at2_25 ∧ at2_25 ≤ 3002 := e35 ▸ hW32.1 10
                  have bfk2_26 : (0 : Int) ≤ fk2_26 ∧ fk2_26 ≤ 6 := e36 ▸ hW32.1 16
                  have bnd2_27 : (0 : Int) ≤ nd2_27 ∧ nd2_27 ≤ 6999 := e37 ▸ hW32.1 31
                  have bsy2_28 : (0 : Int) ≤ sy2_28 ∧ sy2_28 ≤ 202 := e38 ▸ hW32.1 19
                  have bna2_29 : (0 : Int) ≤ na2_29 ∧ na2_29 ≤ 200 := e39 ▸ hW32.1 28
                  have bvi2_30 : (0 : Int) ≤ vi2_30 ∧ vi2_30 ≤ 202 := e40 ▸ hW32.1 29
                  have blf2_31 : (0 : Int) ≤ lf2_31 ∧ lf2_31 ≤ 3000 := e41 ▸ hW32.2 3 _
                  refine .inl ⟨rfl, ?_⟩
                  rcases q46 with a48 | a49
                  · have _q : True := trivial
                    refine jx_go (tg := 195) rfl rfl ?_
                    refine jx_ld (pc' := 196) (l' := L) (st' := [.ref 66]) rfl (jl_aloadn gL_0) ?_
                    refine jx_vr (pc' := 199) (as := []) (st := []) rfl rfl rfl rfl ⟨rfl, rfl, Nat.le_of_ble_eq_true rfl⟩ rfl rfl (c_bad (dd := d) (hd := by omega) (hW := hW32)  (fk := fk2_26) (e_fk := show G22 16 = fk2_26 from (e36))    ) (fun o V' hq => ?_)
                    obtain ⟨r50, rfl, rfl, b51, q52⟩ := hq
                    refine .inr ⟨_, rfl, ?_⟩
                    rcases q52 with ⟨rfl, a53⟩ | ⟨rfl, a54⟩
                    · have _q : True := trivial
                      refine jx_if_ne (pc' := 202) (tg := 237) rfl rfl rfl (by decide) (by decide) (fun h55 => ?_) (fun h55 => ?_)
                      · have _q := h55
                        refine jx_rt (v := none) rfl rfl rfl rfl rfl rfl ?_
                        exact ⟨_, _, ln2_24, fk2_26, nd2_27, sy2_28, na2_29, vi2_30, rfl, rfl, hW32, hF47, (e34), (e36), (e37), (e38), (e39), (e40), by first | exact Or.inl (by omega) | exact Or.inr ((by omega))⟩
                      · have _q := h55
                        exact absurd h55 (by omega)
                    · have _q : True := trivial
                      exfalso
                      omega
                  · have _q : True := trivial
                    refine jx_go (tg := 195) rfl rfl ?_
                    refine jx_ld (pc' := 196) (l' := L) (st' := [.ref 66]) rfl (jl_aloadn gL_0) ?_
                    refine jx_vr (pc' := 199) (as := []) (st := []) rfl rfl rfl rfl ⟨rfl, rfl, Nat.le_of_ble_eq_true rfl⟩ rfl rfl (c_bad (dd := d) (hd := by omega) (hW := hW32)  (fk := fk2_26) (e_fk := show G22 16 = fk2_26 from (e36))    ) (fun o V' hq => ?_)
                    obtain ⟨r56, rfl, rfl, b57, q58⟩ := hq
                    refine .inr ⟨_, rfl, ?_⟩
                    rcases q58 with ⟨rfl, a59⟩ | ⟨rfl, a60⟩
                    · have _q : True := trivial
                      exfalso
                      omega
                    · have _q : True := trivial
                      refine jx_if_ne (pc' := 202) (tg := 237) rfl rfl rfl (by decide) (by decide) (fun h61 => ?_) (fun h61 => ?_)
                      · have _q := h61
                        exact absurd h61 (by omega)
                      · have _q := h61
                        refine jx_ld (pc' := 203) (l' := L) (st' := [.ref 66]) rfl (jl_aloadn gL_0) ?_
                        refine jr_get (pc' := 206) (i := 9) (v := .int (i32 (ln2_24))) rfl rfl (by decide) (rFv_eq (by decide) (show G22 9 = ln2_24 from (e34))) rfl ?_
                        refine jx_ld (pc' := 207) (l' := L) (st' := [.ref 66, .int (i32 (ln2_24))]) rfl (jl_aloadn gL_0) ?_
                        refine jr_get (pc' := 210) (i := 3) (v := .int (i32 (li))) rfl rfl (by decide) (rFv_eq (by decide) (show G22 3 = li from ((hF33.1 3 rfl).trans ((hFx.1 3 rfl).trans (e_li))))) rfl ?_
                        refine jx_icmp_ge (pc' := 213) (tg := 237) rfl rfl rfl (Int.le_trans (by decide : (-2147483648 : Int) ≤ 0) bln2_24.1) (Int.le_trans bln2_24.2 (by decide : (3000 : Int) ≤ 2147483647)) (Int.le_trans (by decide : (-2147483648 : Int) ≤ 0) b_li.1) (Int.le_trans b_li.2 (by decide : (3000 : Int) ≤ 2147483647)) (fun h62 => ?_) (fun h62 => ?_)
                        · have _q := h62
                          refine jx_rt (v := none) rfl rfl rfl rfl rfl rfl ?_
                          exact ⟨_, _, ln2_24, fk2_26, nd2_27, sy2_28, na2_29, vi2_30, rfl, rfl, hW32, hF47, (e34), (e36), (e37), (e38), (e39), (e40), by first | exact Or.inl (by omega) | exact Or.inr ((by omega))⟩
                        · have _q := h62
                          refine jx_ld (pc' := 214) (l' := L) (st' := [.ref 66]) rfl (jl_aloadn gL_0) ?_
                          refine jx_ar (pc' := 215) (st' := [.int (i32 (1)), .ref 66]) rfl rfl rfl rfl ?_
                          refine jx_ld (pc' := 216) (l' := L) (st' := [.ref 66, .int (i32 (1)), .ref 66]) rfl (jl_aloadn gL_0) ?_
                          refine jr_get (pc' := 219) (i := 6) (v := .ref 70) rfl rfl (by decide) rfl rfl ?_
                          refine jx_ld (pc' := 220) (l' := L) (st' := [.ref 66, .ref 70, .int (i32 (1)), .ref 66]) rfl (jl_aloadn gL_0) ?_
                          refine jr_get (pc' := 223) (i := 9) (v := .int (i32 (ln2_24))) rfl rfl (by decide) (rFv_eq (by decide) (show G22 9 = ln2_24 from (e34))) rfl ?_
                          refine jr_ldv (pc' := 224) (i := 3) (m := 3001) (z := ln2_24) (y := lf2_31) rfl (by decide) rfl (by decide) (Int.le_trans (by decide : (0 : Int) ≤ 0) bln2_24.1) (Int.lt_of_le_of_lt bln2_24.2 (by decide : (3000 : Int) < ((3001 : Nat) : Int))) rfl (show A23 3 (ln2_24).toNat = lf2_31 from (e41)) ?_
                          refine jx_ld (pc' := 225) (l' := L) (st' := [.ref 66, .int (i32 (lf2_31)), .int (i32 (1)), .ref 66]) rfl (jl_aloadn gL_0) ?_
                          refine jr_get (pc' := 228) (i := 5) (v := .ref 69) rfl rfl (by decide) rfl rfl ?_
                          refine jx_ld (pc' := 229) (l' := L) (st' := [.ref 66, .ref 69, .int (i32 (lf2_31)), .int (i32 (1)), .ref 66]) rfl (jl_aloadn gL_0) ?_
                          refine jr_get (pc' := 232) (i := 9) (v := .int (i32 (ln2_24))) rfl rfl (by decide) (rFv_eq (by decide) (show G22 9 = ln2_24 from (e34))) rfl ?_
                          have b63 : (0 : Int) ≤ A 2 (ln2_24).toNat ∧ A 2 (ln2_24).toNat ≤ 3000 := hW.2 2 _
                          refine jr_ldv (pc' := 233) (i := 2) (m := 3001) (z := ln2_24) (y := A 2 (ln2_24).toNat) rfl (by decide) rfl (by decide) (Int.le_trans (by decide : (0 : Int) ≤ 0) bln2_24.1) (Int.lt_of_le_of_lt bln2_24.2 (by decide : (3000 : Int) < ((3001 : Nat) : Int))) rfl (show A23 2 (ln2_24).toNat = A 2 (ln2_24).toNat from (congrFun ((hF33.2 2 rfl).trans (hFx.2 2 rfl)) _)) ?_
                          refine jx_sub (pc' := 234) rfl rfl ?_
                          refine jx_vr (pc' := 237) (as := [.int (i32 (1)), .int (i32 ((lf2_31 - A 2 (ln2_24).toNat)))]) (st := []) rfl rfl rfl rfl ⟨rfl, rfl, Nat.le_of_ble_eq_true rfl⟩ rfl rfl (c_fail (dd := d) (hd := by omega) (hW := hW32) (kind := 1) (place := (lf2_31 - A 2 (ln2_24).toNat)) (fk := fk2_26) (e_fk := show G22 16 = fk2_26 from (e36))  (h_kind := ⟨(by decide), (by decide)⟩) (h_place := ⟨(by omega), (by omega)⟩)  (p_0 := by omega) (p_1 := by omega)) (fun o V' hq => ?_)
                          obtain ⟨G64, A65, fk2_66, rfl, rfl, hW67, hF68, e69, p70, -⟩ := hq
                          have hF72 := Fr_tr hF47 hF68 (Fr_sub (by decide)) (Fr_sub (by decide))
                          have bfk2_66 : (0 : Int) ≤ fk2_66 ∧ fk2_66 ≤ 6 := e69 ▸ hW67.1 16
                          refine .inl ⟨rfl, ?_⟩
                          refine jx_rt (v := none) rfl rfl rfl rfl rfl rfl ?_
                          exact ⟨_, _, ln2_24, fk2_66, nd2_27, sy2_28, na2_29, vi2_30, rfl, rfl, hW67, hF72, ((hF68.1 9 rfl).trans (e34)), (e69), ((hF68.1 31 rfl).trans (e37)), ((hF68.1 19 rfl).trans (e38)), ((hF68.1 28 rfl).trans (e39)), ((hF68.1 29 rfl).trans (e40)), by first | exact Or.inl (by omega) | exact Or.inr ((by omega))⟩
            · have _q := h15
              exact absurd h15 (by omega)
          · have _q : True := trivial
            refine jx_if_ne (pc' := 161) (tg := 170) rfl rfl rfl (by decide) (by decide) (fun h73 => ?_) (fun h73 => ?_)
            · have _q := h73
              exact absurd h73 (by omega)
            · have _q := h73
              refine jx_ld (pc' := 162) (l' := L) (st' := [.ref 66]) rfl (jl_aloadn gL_0) ?_
              refine jx_ar (pc' := 163) (st' := [.int (i32 (1)), .ref 66]) rfl rfl rfl rfl ?_
              refine jx_ld (pc' := 164) (l' := L) (st' := [.ref 66, .int (i32 (1)), .ref 66]) rfl (jl_aloadn gL_0) ?_
              have b74 : (-3000 : Int) ≤ Gx 12 ∧ Gx 12 ≤ 3002 := hWx.1 12
              refine jr_get (pc' := 167) (i := 12) (v := .int (i32 (Gx 12))) rfl rfl (by decide) rfl rfl ?_
              refine jx_vr (pc' := 170) (as := [.int (i32 (1)), .int (i32 (Gx 12))]) (st := []) rfl rfl rfl rfl ⟨rfl, rfl, Nat.le_of_ble_eq_true rfl⟩ rfl rfl (c_fail (dd := d) (hd := by omega) (hW := hWx) (kind := 1) (place := Gx 12) (fk := fk1) (e_fk := show Gx 16 = fk1 from (ex_fk1))  (h_kind := ⟨(by decide), (by decide)⟩) (h_place := ⟨(Int.le_trans (by decide : (-2147483648 : Int) ≤ -3000) b74.1), (Int.le_trans b74.2 (by decide : (3002 : Int) ≤ 2147483647))⟩)  (p_0 := by omega) (p_1 := by omega)) (fun o V' hq => ?_)
              obtain ⟨G75, A76, fk2_77, rfl, rfl, hW78, hF79, e80, p81, -⟩ := hq
              have hF83 := Fr_tr hFx hF79 (Fr_sub (by decide)) (Fr_sub (by decide))
              have bfk2_77 : (0 : Int) ≤ fk2_77 ∧ fk2_77 ≤ 6 := e80 ▸ hW78.1 16
              refine .inl ⟨rfl, ?_⟩
              refine jx_ld (pc' := 171) (l' := L) (st' := [.ref 66]) rfl (jl_aloadn gL_0) ?_
              refine jx_vr (pc' := 174) (as := []) (st := []) rfl rfl rfl rfl ⟨rfl, rfl, Nat.le_of_ble_eq_true rfl⟩ rfl rfl (c_bad (dd := d) (hd := by omega) (hW := hW78)  (fk := fk2_77) (e_fk := show G75 16 = fk2_77 from (e80))    ) (fun o V' hq => ?_)
              obtain ⟨r84, rfl, rfl, b85, q86⟩ := hq
              refine .inr ⟨_, rfl, ?_⟩
              rcases q86 with ⟨rfl, a87⟩ | ⟨rfl, a88⟩
              · have _q : True := trivial
                refine jx_if_ne (pc' := 177) (tg := 195) rfl rfl rfl (by decide) (by decide) (fun h89 => ?_) (fun h89 => ?_)
                · have _q := h89
                  refine jx_ld (pc' := 196) (l' := L) (st' := [.ref 66]) rfl (jl_aloadn gL_0) ?_
                  refine jx_vr (pc' := 199) (as := []) (st := []) rfl rfl rfl rfl ⟨rfl, rfl, Nat.le_of_ble_eq_true rfl⟩ rfl rfl (c_bad (dd := d) (hd := by omega) (hW := hW78)  (fk := fk2_77) (e_fk := show G75 16 = fk2_77 from (e80))    ) (fun o V' hq => ?_)
                  obtain ⟨r90, rfl, rfl, b91, q92⟩ := hq
                  refine .inr ⟨_, rfl, ?_⟩
                  rcases q92 with ⟨rfl, a93⟩ | ⟨rfl, a94⟩
                  · have _q : True := trivial
                    refine jx_if_ne (pc' := 202) (tg := 237) rfl rfl rfl (by decide) (by decide) (fun h95 => ?_) (fun h95 => ?_)
                    · have _q := h95
                      refine jx_rt (v := none) rfl rfl rfl rfl rfl rfl ?_
                      exact ⟨_, _, ln1, fk2_77, nd1, sy1, na1, vi1, rfl, rfl, hW78, hF83, ((hF79.1 9 rfl).trans (ex_ln1)), (e80), ((hF79.1 31 rfl).trans (ex_nd1)), ((hF79.1 19 rfl).trans (ex_sy1)), ((hF79.1 28 rfl).trans (ex_na1)), ((hF79.1 29 rfl).trans (ex_vi1)), by first | exact Or.inl (by omega) | exact Or.inr ((by omega))⟩
                    · have _q := h95
                      exact absurd h95 (by omega)
                  · have _q : True := trivial
                    exfalso
                    omega
                · have _q := h89
                  exact absurd h89 (by omega)
              · have _q : True := trivial
                exfalso
                omega
  have at_106_1 : ∀ (m : Nat) (L : jL) (Gx : Nat → Int) (Ax : Nat → Nat → Int) (ln1 at1 tk1 fk1 op1 nd1 sy1 na1 vi1 lf1 le1 : Int), (li - ln1).toNat = m → jGet L 0 = some (.ref 66) → jGet L 2 = some (.int (i32 (1))) → Wk Gx Ax → Fr [9, 10, 11, 12, 13, 14, 15, 16, 17, 18, 19, 28, 29, 31, 46, 52] [6, 7, 8, 9, 10, 11, 12, 14, 15, 16, 17, 18, 19, 20, 21, 22, 23, 24, 28, 29, 30, 31, 34, 35, 36] G A Gx Ax → Gx 9 = ln1 → Gx 10 = at1 → Gx 11 = tk1 → Gx 16 = fk1 → Gx 15 = op1 → Gx 31 = nd1 → Gx 19 = sy1 → Gx 28 = na1 → Gx 29 = vi1 → Ax 3 (ln1).toNat = lf1 → Ax 4 (ln1).toNat = le1 → (fk1 = 0) → (0 ≤ lf1) → (ln1 < li) → (lf1 < le1) → (2 * lf1 ≤ 2 * at1 - tz tk1) → (lf1 ≤ at1) → (at1 ≤ le1) → (nd1 ≤ 2 * lf1 + 2) → (op1 = 0) → (sy1 ≤ na1 + 2) → (vi1 ≤ sy1) → wj X d jm312 (106, L, [], rV c0 c1 Gx Ax T) (fun o V' => ∃ (G' : Nat → Int) (A' : Nat → Nat → Int) (ln2 : Int) (fk2 : Int) (nd2 : Int) (sy2 : Int) (na2 : Int) (vi2 : Int), V' = rV c0 c1 G' A' T ∧ o = .inl none ∧ Wk G' A' ∧ Fr [9, 10, 11, 12, 13, 14, 15, 16, 17, 18, 19, 28, 29, 31, 46, 52] [6, 7, 8, 9, 10, 11, 12, 14, 15, 16, 17, 18, 19, 20, 21, 22, 23, 24, 28, 29, 30, 31, 34, 35, 36] G A G' A' ∧ G' 9 = ln2 ∧ G' 16 = fk2 ∧ G' 31 = nd2 ∧ G' 19 = sy2 ∧ G' 28 = na2 ∧ G' 29 = vi2 ∧ (((1 ≤ fk2)) ∨ ((fk2 = 0)))) := by
    intro m
    induction m using Nat.strongRecOn with
    | ind m ih106_1 =>
      intro L Gx Ax ln1 at1 tk1 fk1 op1 nd1 sy1 na1 vi1 lf1 le1 hm gL_0 gL_2 hWx hFx ex_ln1 ex_at1 ex_tk1 ex_fk1 ex_op1 ex_nd1 ex_sy1 ex_na1 ex_vi1 ex_lf1 ex_le1 iv_0 iv_1 iv_2 iv_3 iv_4 iv_5 iv_6 iv_7 iv_8 iv_9 iv_10
      have b_ln1 : (0 : Int) ≤ ln1 ∧ ln1 ≤ 3000 := ex_ln1 ▸ hWx.1 9
      have b_at1 : (0 : Int) ≤ at1 ∧ at1 ≤ 3002 := ex_at1 ▸ hWx.1 10
      have z_tk1 := tz_f tk1
      have b_tk1 : (0 : Int) ≤ tk1 ∧ tk1 ≤ 5 := ex_tk1 ▸ hWx.1 11
      have b_fk1 : (0 : Int) ≤ fk1 ∧ fk1 ≤ 6 := ex_fk1 ▸ hWx.1 16
      have b_op1 : (-2147483648 : Int) ≤ op1 ∧ op1 ≤ 2147483647 := ex_op1 ▸ hWx.1 15
      have b_nd1 : (0 : Int) ≤ nd1 ∧ nd1 ≤ 6999 := ex_nd1 ▸ hWx.1 31
      have b_sy1 : (0 : Int) ≤ sy1 ∧ sy1 ≤ 202 := ex_sy1 ▸ hWx.1 19
      have b_na1 : (0 : Int) ≤ na1 ∧ na1 ≤ 200 := ex_na1 ▸ hWx.1 28
      have b_vi1 : (0 : Int) ≤ vi1 ∧ vi1 ≤ 202 := ex_vi1 ▸ hWx.1 29
      refine jx_ld (pc' := 107) (l' := L) (st' := [.ref 66]) rfl (jl_aloadn gL_0) ?_
      refine jx_vr (pc' := 110) (as := []) (st := []) rfl rfl rfl rfl ⟨rfl, rfl, Nat.le_of_ble_eq_true rfl⟩ rfl rfl (c_bad (dd := d) (hd := by omega) (hW := hWx)  (fk := fk1) (e_fk := show Gx 16 = fk1 from (ex_fk1))    ) (fun o V' hq => ?_)
      obtain ⟨r96, rfl, rfl, b97, q98⟩ := hq
      refine .inr ⟨_, rfl, ?_⟩
      rcases q98 with ⟨rfl, a99⟩ | ⟨rfl, a100⟩
      · have _q : True := trivial
        exfalso
        omega
      · have _q : True := trivial
        refine jx_if_ne (pc' := 113) (tg := 141) rfl rfl rfl (by decide) (by decide) (fun h101 => ?_) (fun h101 => ?_)
        · have _q := h101
          exact absurd h101 (by omega)
        · have _q := h101
          refine jx_ld (pc' := 114) (l' := L) (st' := [.ref 66]) rfl (jl_aloadn gL_0) ?_
          refine jx_ar (pc' := 116) (st' := [.int (i32 (21)), .ref 66]) rfl rfl rfl rfl ?_
          have b102 : (-2147483648 : Int) ≤ Gx 13 ∧ Gx 13 ≤ 2147483647 := hWx.1 13
          refine jx_vr (pc' := 119) (as := [.int (i32 (21))]) (st := []) rfl rfl rfl rfl ⟨rfl, rfl, Nat.le_of_ble_eq_true rfl⟩ rfl rfl (c_isKey2 (dd := d) (hd := by omega) (hW := hWx) (k := 21) (tk := tk1) (e_tk := show Gx 11 = tk1 from (ex_tk1)) (tn := Gx 13) (e_tn := show Gx 13 = Gx 13 from rfl)  (h_k := ⟨(by decide), (by decide)⟩)  ) (fun o V' hq => ?_)
          obtain ⟨r103, rfl, rfl, b104, q105⟩ := hq
          refine .inr ⟨_, rfl, ?_⟩
          rcases q105 with ⟨rfl, a106, a107, a108⟩ | ⟨rfl, a109⟩
          · have _q : True := trivial
            refine jx_if_eq (pc' := 122) (tg := 141) rfl rfl rfl (by decide) (by decide) (fun h110 => ?_) (fun h110 => ?_)
            · have _q := h110
              exact absurd h110 (by omega)
            · have _q := h110
              refine jx_ld (pc' := 123) (l' := L) (st' := [.ref 66]) rfl (jl_aloadn gL_0) ?_
              have b111 : (0 : Int) ≤ Gx 52 ∧ Gx 52 ≤ 12 := hWx.1 52
              refine jx_vr (pc' := 126) (as := []) (st := []) rfl rfl rfl rfl ⟨rfl, rfl, Nat.le_of_ble_eq_true rfl⟩ rfl rfl (c_readLink (dd := d) (hd := by omega) (hW := hWx)  (ln := ln1) (e_ln := show Gx 9 = ln1 from (ex_ln1)) (le := le1) (e_le := show Ax 4 (ln1).toNat = le1 from (ex_le1)) (at0 := at1) (e_at0 := show Gx 10 = at1 from (ex_at1)) (fk := fk1) (e_fk := show Gx 16 = fk1 from (ex_fk1)) (tk0 := tk1) (e_tk0 := show Gx 11 = tk1 from (ex_tk1)) (sy := sy1) (e_sy := show Gx 19 = sy1 from (ex_sy1)) (na := na1) (e_na := show Gx 28 = na1 from (ex_na1)) (li := li) (e_li := show Gx 3 = li from ((hFx.1 3 rfl).trans (e_li))) (vi := vi1) (e_vi := show Gx 29 = vi1 from (ex_vi1)) (lk0 := Gx 52) (e_lk0 := show Gx 52 = Gx 52 from rfl)    (p_0 := by omega) (p_1 := by omega) (p_2 := by omega) (p_3 := by omega) (p_4 := by omega)) (fun o V' hq => ?_)
              obtain ⟨G112, A113, ln2_114, at2_115, fk2_116, sy2_117, na2_118, vi2_119, rfl, rfl, hW120, hF121, e122, e123, e124, e125, e126, e127, p128, p129, p130, p131, p132, p133, p134, q135⟩ := hq
              have hF136 := Fr_tr hFx hF121 (Fr_sub (by decide)) (Fr_sub (by decide))
              have bln2_114 : (0 : Int) ≤ ln2_114 ∧ ln2_114 ≤ 3000 := e122 ▸ hW120.1 9
              have bat2_115 : (0 : Int) ≤ at2_115 ∧ at2_115 ≤ 3002 := e123 ▸ hW120.1 10
              have bfk2_116 : (0 : Int) ≤ fk2_116 ∧ fk2_116 ≤ 6 := e124 ▸ hW120.1 16
              have bsy2_117 : (0 : Int) ≤ sy2_117 ∧ sy2_117 ≤ 202 := e125 ▸ hW120.1 19
              have bna2_118 : (0 : Int) ≤ na2_118 ∧ na2_118 ≤ 200 := e126 ▸ hW120.1 28
              have bvi2_119 : (0 : Int) ≤ vi2_119 ∧ vi2_119 ≤ 202 := e127 ▸ hW120.1 29
              refine .inl ⟨rfl, ?_⟩
              rcases q135 with a137 | ⟨a138, a139⟩
              · have _q : True := trivial
                refine jx_ld (pc' := 127) (l' := L) (st' := [.ref 66]) rfl (jl_aloadn gL_0) ?_
                refine jx_ar (pc' := 128) (st' := [.int (i32 (0)), .ref 66]) rfl rfl rfl rfl ?_
                have b140 : (-1 : Int) ≤ A 5 (ln2_114).toNat ∧ A 5 (ln2_114).toNat ≤ 15 := hW.2 5 _
                refine jx_vr (pc' := 131) (as := [.int (i32 (0))]) (st := []) rfl rfl rfl rfl ⟨rfl, rfl, Nat.le_of_ble_eq_true rfl⟩ rfl rfl (c_needLevel (dd := d) (hd := by omega) (hW := hW120) (lv := 0) (ln := ln2_114) (e_ln := show G112 9 = ln2_114 from (e122)) (li := li) (e_li := show G112 3 = li from ((hF121.1 3 rfl).trans ((hFx.1 3 rfl).trans (e_li)))) (fk := fk2_116) (e_fk := show G112 16 = fk2_116 from (e124)) (ll := A 5 (ln2_114).toNat) (e_ll := show A113 5 (ln2_114).toNat = A 5 (ln2_114).toNat from (congrFun ((hF121.2 5 rfl).trans (hFx.2 5 rfl)) _))  (h_lv := ⟨(by decide), (by decide)⟩)  ) (fun o V' hq => ?_)
                obtain ⟨G141, A142, r143, fk2_144, rfl, rfl, hW145, hF146, b147, e148, q149⟩ := hq
                have hF150 := Fr_tr hF136 hF146 (Fr_sub (by decide)) (Fr_sub (by decide))
                have bfk2_144 : (0 : Int) ≤ fk2_144 ∧ fk2_144 ≤ 6 := e148 ▸ hW145.1 16
                refine .inr ⟨_, rfl, ?_⟩
                rcases q149 with ⟨rfl, a151, a152, a153, a154⟩ | ⟨rfl, a155⟩
                · have _q : True := trivial
                  exfalso
                  omega
                · have _q : True := trivial
                  refine jx_if_eq (pc' := 134) (tg := 106) rfl rfl rfl (by decide) (by decide) (fun h156 => ?_) (fun h156 => ?_)
                  · have _q := h156
                    refine jx_ld (pc' := 107) (l' := L) (st' := [.ref 66]) rfl (jl_aloadn gL_0) ?_
                    refine jx_vr (pc' := 110) (as := []) (st := []) rfl rfl rfl rfl ⟨rfl, rfl, Nat.le_of_ble_eq_true rfl⟩ rfl rfl (c_bad (dd := d) (hd := by omega) (hW := hW145)  (fk := fk2_144) (e_fk := show G141 16 = fk2_144 from (e148))    ) (fun o V' hq => ?_)
                    obtain ⟨r157, rfl, rfl, b158, q159⟩ := hq
                    refine .inr ⟨_, rfl, ?_⟩
                    rcases q159 with ⟨rfl, a160⟩ | ⟨rfl, a161⟩
                    · have _q : True := trivial
                      refine jx_if_ne (pc' := 113) (tg := 141) rfl rfl rfl (by decide) (by decide) (fun h162 => ?_) (fun h162 => ?_)
                      · have _q := h162
                        refine jx_ld (pc' := 142) (l' := L) (st' := [.int (i32 (1))]) rfl (jl_iloadn gL_2) ?_
                        refine jx_if_eq (pc' := 145) (tg := 184) rfl rfl rfl (by decide) (by decide) (fun h163 => ?_) (fun h163 => ?_)
                        · have _q := h163
                          exact absurd h163 (by omega)
                        · have _q := h163
                          refine jx_ld (pc' := 146) (l' := L) (st' := [.ref 66]) rfl (jl_aloadn gL_0) ?_
                          refine jx_vr (pc' := 149) (as := []) (st := []) rfl rfl rfl rfl ⟨rfl, rfl, Nat.le_of_ble_eq_true rfl⟩ rfl rfl (c_bad (dd := d) (hd := by omega) (hW := hW145)  (fk := fk2_144) (e_fk := show G141 16 = fk2_144 from (e148))    ) (fun o V' hq => ?_)
                          obtain ⟨r164, rfl, rfl, b165, q166⟩ := hq
                          refine .inr ⟨_, rfl, ?_⟩
                          rcases q166 with ⟨rfl, a167⟩ | ⟨rfl, a168⟩
                          · have _q : True := trivial
                            refine jx_if_ne (pc' := 152) (tg := 170) rfl rfl rfl (by decide) (by decide) (fun h169 => ?_) (fun h169 => ?_)
                            · have _q := h169
                              refine jx_ld (pc' := 171) (l' := L) (st' := [.ref 66]) rfl (jl_aloadn gL_0) ?_
                              refine jx_vr (pc' := 174) (as := []) (st := []) rfl rfl rfl rfl ⟨rfl, rfl, Nat.le_of_ble_eq_true rfl⟩ rfl rfl (c_bad (dd := d) (hd := by omega) (hW := hW145)  (fk := fk2_144) (e_fk := show G141 16 = fk2_144 from (e148))    ) (fun o V' hq => ?_)
                              obtain ⟨r170, rfl, rfl, b171, q172⟩ := hq
                              refine .inr ⟨_, rfl, ?_⟩
                              rcases q172 with ⟨rfl, a173⟩ | ⟨rfl, a174⟩
                              · have _q : True := trivial
                                refine jx_if_ne (pc' := 177) (tg := 195) rfl rfl rfl (by decide) (by decide) (fun h175 => ?_) (fun h175 => ?_)
                                · have _q := h175
                                  refine jx_ld (pc' := 196) (l' := L) (st' := [.ref 66]) rfl (jl_aloadn gL_0) ?_
                                  refine jx_vr (pc' := 199) (as := []) (st := []) rfl rfl rfl rfl ⟨rfl, rfl, Nat.le_of_ble_eq_true rfl⟩ rfl rfl (c_bad (dd := d) (hd := by omega) (hW := hW145)  (fk := fk2_144) (e_fk := show G141 16 = fk2_144 from (e148))    ) (fun o V' hq => ?_)
                                  obtain ⟨r176, rfl, rfl, b177, q178⟩ := hq
                                  refine .inr ⟨_, rfl, ?_⟩
                                  rcases q178 with ⟨rfl, a179⟩ | ⟨rfl, a180⟩
                                  · have _q : True := trivial
                                    refine jx_if_ne (pc' := 202) (tg := 237) rfl rfl rfl (by decide) (by decide) (fun h181 => ?_) (fun h181 => ?_)
                                    · have _q := h181
                                      refine jx_rt (v := none) rfl rfl rfl rfl rfl rfl ?_
                                      exact ⟨_, _, ln2_114, fk2_144, nd1, sy2_117, na2_118, vi2_119, rfl, rfl, hW145, hF150, ((hF146.1 9 rfl).trans (e122)), (e148), ((hF146.1 31 rfl).trans ((hF121.1 31 rfl).trans (ex_nd1))), ((hF146.1 19 rfl).trans (e125)), ((hF146.1 28 rfl).trans (e126)), ((hF146.1 29 rfl).trans (e127)), by first | exact Or.inl (by omega) | exact Or.inr ((by omega))⟩
                                    · have _q := h181
                                      exact absurd h181 (by omega)
                                  · have _q : True := trivial
                                    exfalso
                                    omega
                                · have _q := h175
                                  exact absurd h175 (by omega)
                              · have _q : True := trivial
                                exfalso
                                omega
                            · have _q := h169
                              exact absurd h169 (by omega)
                          · have _q : True := trivial
                            exfalso
                            omega
                      · have _q := h162
                        exact absurd h162 (by omega)
                    · have _q : True := trivial
                      exfalso
                      omega
                  · have _q := h156
                    exact absurd h156 (by omega)
              · have _q : True := trivial
                have b182 : (0 : Int) ≤ A 3 (ln2_114).toNat ∧ A 3 (ln2_114).toNat ≤ 3000 := hW.2 3 _
                have lt183 : ln2_114 < li → le1 < A 3 (ln2_114).toNat := fun hh => LT_nx (LT_ext (((hF121.1 3 rfl).trans (hFx.1 3 rfl))) (((hF121.2 3 rfl).trans (hFx.2 3 rfl))) (((hF121.2 4 rfl).trans (hFx.2 4 rfl))) i_LT) (show G112 3 = li from ((hF121.1 3 rfl).trans ((hFx.1 3 rfl).trans (e_li)))) (show A113 4 (ln1).toNat = le1 from (congrFun (hF121.2 4 rfl) _).trans (ex_le1)) (show A113 3 (ln2_114).toNat = A 3 (ln2_114).toNat from (congrFun ((hF121.2 3 rfl).trans (hFx.2 3 rfl)) _)) (show ln2_114 = ln1 + 1 by omega) (by omega) hh
                refine jx_ld (pc' := 127) (l' := L) (st' := [.ref 66]) rfl (jl_aloadn gL_0) ?_
                refine jx_ar (pc' := 128) (st' := [.int (i32 (0)), .ref 66]) rfl rfl rfl rfl ?_
                have b184 : (-1 : Int) ≤ A 5 (ln2_114).toNat ∧ A 5 (ln2_114).toNat ≤ 15 := hW.2 5 _
                refine jx_vr (pc' := 131) (as := [.int (i32 (0))]) (st := []) rfl rfl rfl rfl ⟨rfl, rfl, Nat.le_of_ble_eq_true rfl⟩ rfl rfl (c_needLevel (dd := d) (hd := by omega) (hW := hW120) (lv := 0) (ln := ln2_114) (e_ln := show G112 9 = ln2_114 from (e122)) (li := li) (e_li := show G112 3 = li from ((hF121.1 3 rfl).trans ((hFx.1 3 rfl).trans (e_li)))) (fk := fk2_116) (e_fk := show G112 16 = fk2_116 from (e124)) (ll := A 5 (ln2_114).toNat) (e_ll := show A113 5 (ln2_114).toNat = A 5 (ln2_114).toNat from (congrFun ((hF121.2 5 rfl).trans (hFx.2 5 rfl)) _))  (h_lv := ⟨(by decide), (by decide)⟩)  ) (fun o V' hq => ?_)
                obtain ⟨G185, A186, r187, fk2_188, rfl, rfl, hW189, hF190, b191, e192, q193⟩ := hq
                have hF194 := Fr_tr hF136 hF190 (Fr_sub (by decide)) (Fr_sub (by decide))
                have bfk2_188 : (0 : Int) ≤ fk2_188 ∧ fk2_188 ≤ 6 := e192 ▸ hW189.1 16
                refine .inr ⟨_, rfl, ?_⟩
                rcases q193 with ⟨rfl, a195, a196, a197, a198⟩ | ⟨rfl, a199⟩
                · have _q : True := trivial
                  have b200 : (0 : Int) ≤ A 4 (ln2_114).toNat ∧ A 4 (ln2_114).toNat ≤ 3000 := hW.2 4 _
                  have lt201 : A 3 (ln2_114).toNat < A 4 (ln2_114).toNat := LT_at (LT_ext (((hF190.1 3 rfl).trans ((hF121.1 3 rfl).trans (hFx.1 3 rfl)))) (((hF190.2 3 rfl).trans ((hF121.2 3 rfl).trans (hFx.2 3 rfl)))) (((hF190.2 4 rfl).trans ((hF121.2 4 rfl).trans (hFx.2 4 rfl)))) i_LT) (show G185 3 = li from ((hF190.1 3 rfl).trans ((hF121.1 3 rfl).trans ((hFx.1 3 rfl).trans (e_li))))) (show A186 3 (ln2_114).toNat = A 3 (ln2_114).toNat from (congrFun ((hF190.2 3 rfl).trans ((hF121.2 3 rfl).trans (hFx.2 3 rfl))) _)) (show A186 4 (ln2_114).toNat = A 4 (ln2_114).toNat from (congrFun ((hF190.2 4 rfl).trans ((hF121.2 4 rfl).trans (hFx.2 4 rfl))) _)) (by omega) (by omega)
                  refine jx_if_eq (pc' := 134) (tg := 106) rfl rfl rfl (by decide) (by decide) (fun h202 => ?_) (fun h202 => ?_)
                  · have _q := h202
                    exact absurd h202 (by omega)
                  · have _q := h202
                    refine jx_ld (pc' := 135) (l' := L) (st' := [.ref 66]) rfl (jl_aloadn gL_0) ?_
                    refine jx_vr (pc' := 138) (as := []) (st := []) rfl rfl rfl rfl ⟨rfl, rfl, Nat.le_of_ble_eq_true rfl⟩ rfl rfl (c_openLine (dd := d) (hd := by omega) (hW := hW189)  (ln := ln2_114) (e_ln := show G185 9 = ln2_114 from ((hF190.1 9 rfl).trans (e122))) (le := A 4 (ln2_114).toNat) (e_le := show A186 4 (ln2_114).toNat = A 4 (ln2_114).toNat from (congrFun ((hF190.2 4 rfl).trans ((hF121.2 4 rfl).trans (hFx.2 4 rfl))) _)) (lf := A 3 (ln2_114).toNat) (e_lf := show A186 3 (ln2_114).toNat = A 3 (ln2_114).toNat from (congrFun ((hF190.2 3 rfl).trans ((hF121.2 3 rfl).trans (hFx.2 3 rfl))) _))    (p_0 := by omega)) (fun o V' hq => ?_)
                    obtain ⟨G203, A204, at2_205, tk2_206, op2_207, rfl, rfl, hW208, hF209, e210, e211, e212, p213, p214, p215, p216, -⟩ := hq
                    have hF218 := Fr_tr hF194 hF209 (Fr_sub (by decide)) (Fr_sub (by decide))
                    have bat2_205 : (0 : Int) ≤ at2_205 ∧ at2_205 ≤ 3002 := e210 ▸ hW208.1 10
                    have ztk2_206 := tz_b tk2_206
                    have btk2_206 : (0 : Int) ≤ tk2_206 ∧ tk2_206 ≤ 5 := e211 ▸ hW208.1 11
                    have bop2_207 : (-2147483648 : Int) ≤ op2_207 ∧ op2_207 ≤ 2147483647 := e212 ▸ hW208.1 15
                    refine .inl ⟨rfl, ?_⟩
                    refine jx_go (tg := 106) rfl rfl ?_
                    have z219 := tz_f (tk2_206)
                    exact ih106_1 _ (by omega) L G203 A204 (ln2_114) (at2_205) (tk2_206) (fk2_188) (op2_207) (nd1) (sy2_117) (na2_118) (vi2_119) (A 3 (ln2_114).toNat) (A 4 (ln2_114).toNat) rfl gL_0 gL_2 hW208 hF218 (((hF209.1 9 rfl).trans ((hF190.1 9 rfl).trans (e122)))) ((e210)) ((e211)) (((hF209.1 16 rfl).trans (e192))) ((e212)) (((hF209.1 31 rfl).trans ((hF190.1 31 rfl).trans ((hF121.1 31 rfl).trans (ex_nd1))))) (((hF209.1 19 rfl).trans ((hF190.1 19 rfl).trans (e125)))) (((hF209.1 28 rfl).trans ((hF190.1 28 rfl).trans (e126)))) (((hF209.1 29 rfl).trans ((hF190.1 29 rfl).trans (e127)))) ((congrFun ((hF209.2 3 rfl).trans ((hF190.2 3 rfl).trans ((hF121.2 3 rfl).trans (hFx.2 3 rfl)))) _)) ((congrFun ((hF209.2 4 rfl).trans ((hF190.2 4 rfl).trans ((hF121.2 4 rfl).trans (hFx.2 4 rfl)))) _)) (by omega) (by omega) (by omega) (by omega) (by omega) (by omega) (by omega) (by omega) (by omega) (by omega) (by omega)
                · have _q : True := trivial
                  refine jx_if_eq (pc' := 134) (tg := 106) rfl rfl rfl (by decide) (by decide) (fun h220 => ?_) (fun h220 => ?_)
                  · have _q := h220
                    refine jx_ld (pc' := 107) (l' := L) (st' := [.ref 66]) rfl (jl_aloadn gL_0) ?_
                    refine jx_vr (pc' := 110) (as := []) (st := []) rfl rfl rfl rfl ⟨rfl, rfl, Nat.le_of_ble_eq_true rfl⟩ rfl rfl (c_bad (dd := d) (hd := by omega) (hW := hW189)  (fk := fk2_188) (e_fk := show G185 16 = fk2_188 from (e192))    ) (fun o V' hq => ?_)
                    obtain ⟨r221, rfl, rfl, b222, q223⟩ := hq
                    refine .inr ⟨_, rfl, ?_⟩
                    rcases q223 with ⟨rfl, a224⟩ | ⟨rfl, a225⟩
                    · have _q : True := trivial
                      refine jx_if_ne (pc' := 113) (tg := 141) rfl rfl rfl (by decide) (by decide) (fun h226 => ?_) (fun h226 => ?_)
                      · have _q := h226
                        refine jx_ld (pc' := 142) (l' := L) (st' := [.int (i32 (1))]) rfl (jl_iloadn gL_2) ?_
                        refine jx_if_eq (pc' := 145) (tg := 184) rfl rfl rfl (by decide) (by decide) (fun h227 => ?_) (fun h227 => ?_)
                        · have _q := h227
                          exact absurd h227 (by omega)
                        · have _q := h227
                          refine jx_ld (pc' := 146) (l' := L) (st' := [.ref 66]) rfl (jl_aloadn gL_0) ?_
                          refine jx_vr (pc' := 149) (as := []) (st := []) rfl rfl rfl rfl ⟨rfl, rfl, Nat.le_of_ble_eq_true rfl⟩ rfl rfl (c_bad (dd := d) (hd := by omega) (hW := hW189)  (fk := fk2_188) (e_fk := show G185 16 = fk2_188 from (e192))    ) (fun o V' hq => ?_)
                          obtain ⟨r228, rfl, rfl, b229, q230⟩ := hq
                          refine .inr ⟨_, rfl, ?_⟩
                          rcases q230 with ⟨rfl, a231⟩ | ⟨rfl, a232⟩
                          · have _q : True := trivial
                            refine jx_if_ne (pc' := 152) (tg := 170) rfl rfl rfl (by decide) (by decide) (fun h233 => ?_) (fun h233 => ?_)
                            · have _q := h233
                              refine jx_ld (pc' := 171) (l' := L) (st' := [.ref 66]) rfl (jl_aloadn gL_0) ?_
                              refine jx_vr (pc' := 174) (as := []) (st := []) rfl rfl rfl rfl ⟨rfl, rfl, Nat.le_of_ble_eq_true rfl⟩ rfl rfl (c_bad (dd := d) (hd := by omega) (hW := hW189)  (fk := fk2_188) (e_fk := show G185 16 = fk2_188 from (e192))    ) (fun o V' hq => ?_)
                              obtain ⟨r234, rfl, rfl, b235, q236⟩ := hq
                              refine .inr ⟨_, rfl, ?_⟩
                              rcases q236 with ⟨rfl, a237⟩ | ⟨rfl, a238⟩
                              · have _q : True := trivial
                                refine jx_if_ne (pc' := 177) (tg := 195) rfl rfl rfl (by decide) (by decide) (fun h239 => ?_) (fun h239 => ?_)
                                · have _q := h239
                                  refine jx_ld (pc' := 196) (l' := L) (st' := [.ref 66]) rfl (jl_aloadn gL_0) ?_
                                  refine jx_vr (pc' := 199) (as := []) (st := []) rfl rfl rfl rfl ⟨rfl, rfl, Nat.le_of_ble_eq_true rfl⟩ rfl rfl (c_bad (dd := d) (hd := by omega) (hW := hW189)  (fk := fk2_188) (e_fk := show G185 16 = fk2_188 from (e192))    ) (fun o V' hq => ?_)
                                  obtain ⟨r240, rfl, rfl, b241, q242⟩ := hq
                                  refine .inr ⟨_, rfl, ?_⟩
                                  rcases q242 with ⟨rfl, a243⟩ | ⟨rfl, a244⟩
                                  · have _q : True := trivial
                                    refine jx_if_ne (pc' := 202) (tg := 237) rfl rfl rfl (by decide) (by decide) (fun h245 => ?_) (fun h245 => ?_)
                                    · have _q := h245
                                      refine jx_rt (v := none) rfl rfl rfl rfl rfl rfl ?_
                                      exact ⟨_, _, ln2_114, fk2_188, nd1, sy2_117, na2_118, vi2_119, rfl, rfl, hW189, hF194, ((hF190.1 9 rfl).trans (e122)), (e192), ((hF190.1 31 rfl).trans ((hF121.1 31 rfl).trans (ex_nd1))), ((hF190.1 19 rfl).trans (e125)), ((hF190.1 28 rfl).trans (e126)), ((hF190.1 29 rfl).trans (e127)), by first | exact Or.inl (by omega) | exact Or.inr ((by omega))⟩
                                    · have _q := h245
                                      exact absurd h245 (by omega)
                                  · have _q : True := trivial
                                    exfalso
                                    omega
                                · have _q := h239
                                  exact absurd h239 (by omega)
                              · have _q : True := trivial
                                exfalso
                                omega
                            · have _q := h233
                              exact absurd h233 (by omega)
                          · have _q : True := trivial
                            exfalso
                            omega
                      · have _q := h226
                        exact absurd h226 (by omega)
                    · have _q : True := trivial
                      exfalso
                      omega
                  · have _q := h220
                    exact absurd h220 (by omega)
          · have _q : True := trivial
            refine jx_if_eq (pc' := 122) (tg := 141) rfl rfl rfl (by decide) (by decide) (fun h246 => ?_) (fun h246 => ?_)
            · have _q := h246
              have z247 := tz_f (tk1)
              exact at_141_1 L Gx Ax (ln1) (at1) (tk1) (fk1) (op1) (nd1) (sy1) (na1) (vi1) (lf1) (le1) gL_0 gL_2 hWx hFx ((ex_ln1)) ((ex_at1)) ((ex_tk1)) ((ex_fk1)) ((ex_op1)) ((ex_nd1)) ((ex_sy1)) ((ex_na1)) ((ex_vi1)) ((ex_lf1)) ((ex_le1)) (by omega) (by omega) (by omega) (by omega) (by omega) (by omega) (by omega) (by omega) (by omega) (by omega) (by omega)
            · have _q := h246
              exact absurd h246 (by omega)
  have at_74 : ∀ (L : jL) (Gx : Nat → Int) (Ax : Nat → Nat → Int) (ln1 at1 tk1 fk1 op1 nd1 sy1 na1 vi1 lf1 le1 : Int), jGet L 0 = some (.ref 66) → Wk Gx Ax → Fr [9, 10, 11, 12, 13, 14, 15, 16, 17, 18, 19, 28, 29, 31, 46, 52] [6, 7, 8, 9, 10, 11, 12, 14, 15, 16, 17, 18, 19, 20, 21, 22, 23, 24, 28, 29, 30, 31, 34, 35, 36] G A Gx Ax → Gx 9 = ln1 → Gx 10 = at1 → Gx 11 = tk1 → Gx 16 = fk1 → Gx 15 = op1 → Gx 31 = nd1 → Gx 19 = sy1 → Gx 28 = na1 → Gx 29 = vi1 → Ax 3 (ln1).toNat = lf1 → Ax 4 (ln1).toNat = le1 → (fk1 = 0) → (0 ≤ lf1) → (ln1 < li) → (lf1 < le1) → (2 * lf1 ≤ 2 * at1 - tz tk1) → (lf1 ≤ at1) → (at1 ≤ le1) → (nd1 ≤ 2 * lf1 + 2) → (op1 = 0) → (sy1 ≤ na1 + 2) → (vi1 ≤ sy1) → wj X d jm312 (74, L, [], rV c0 c1 Gx Ax T) (fun o V' => ∃ (G' : Nat → Int) (A' : Nat → Nat → Int) (ln2 : Int) (fk2 : Int) (nd2 : Int) (sy2 : Int) (na2 : Int) (vi2 : Int), V' = rV c0 c1 G' A' T ∧ o = .inl none ∧ Wk G' A' ∧ Fr [9, 10, 11, 12, 13, 14, 15, 16, 17, 18, 19, 28, 29, 31, 46, 52] [6, 7, 8, 9, 10, 11, 12, 14, 15, 16, 17, 18, 19, 20, 21, 22, 23, 24, 28, 29, 30, 31, 34, 35, 36] G A G' A' ∧ G' 9 = ln2 ∧ G' 16 = fk2 ∧ G' 31 = nd2 ∧ G' 19 = sy2 ∧ G' 28 = na2 ∧ G' 29 = vi2 ∧ (((1 ≤ fk2)) ∨ ((fk2 = 0)))) := by
    intro L Gx Ax ln1 at1 tk1 fk1 op1 nd1 sy1 na1 vi1 lf1 le1 gL_0 hWx hFx ex_ln1 ex_at1 ex_tk1 ex_fk1 ex_op1 ex_nd1 ex_sy1 ex_na1 ex_vi1 ex_lf1 ex_le1 iv_0 iv_1 iv_2 iv_3 iv_4 iv_5 iv_6 iv_7 iv_8 iv_9 iv_10
    have b_ln1 : (0 : Int) ≤ ln1 ∧ ln1 ≤ 3000 := ex_ln1 ▸ hWx.1 9
    have b_at1 : (0 : Int) ≤ at1 ∧ at1 ≤ 3002 := ex_at1 ▸ hWx.1 10
    have z_tk1 := tz_f tk1
    have b_tk1 : (0 : Int) ≤ tk1 ∧ tk1 ≤ 5 := ex_tk1 ▸ hWx.1 11
    have b_fk1 : (0 : Int) ≤ fk1 ∧ fk1 ≤ 6 := ex_fk1 ▸ hWx.1 16
    have b_op1 : (-2147483648 : Int) ≤ op1 ∧ op1 ≤ 2147483647 := ex_op1 ▸ hWx.1 15
    have b_nd1 : (0 : Int) ≤ nd1 ∧ nd1 ≤ 6999 := ex_nd1 ▸ hWx.1 31
    have b_sy1 : (0 : Int) ≤ sy1 ∧ sy1 ≤ 202 := ex_sy1 ▸ hWx.1 19
    have b_na1 : (0 : Int) ≤ na1 ∧ na1 ≤ 200 := ex_na1 ▸ hWx.1 28
    have b_vi1 : (0 : Int) ≤ vi1 ∧ vi1 ≤ 202 := ex_vi1 ▸ hWx.1 29
    refine jx_ld (pc' := 75) (l' := L) (st' := [.ref 66]) rfl (jl_aloadn gL_0) ?_
    refine jx_vr (pc' := 78) (as := []) (st := []) rfl rfl rfl rfl ⟨rfl, rfl, Nat.le_of_ble_eq_true rfl⟩ rfl rfl (c_bad (dd := d) (hd := by omega) (hW := hWx)  (fk := fk1) (e_fk := show Gx 16 = fk1 from (ex_fk1))    ) (fun o V' hq => ?_)
    obtain ⟨r248, rfl, rfl, b249, q250⟩ := hq
    refine .inr ⟨_, rfl, ?_⟩
    rcases q250 with ⟨rfl, a251⟩ | ⟨rfl, a252⟩
    · have _q : True := trivial
      exfalso
      omega
    · have _q : True := trivial
      refine jx_if_eq (pc' := 81) (tg := 82) rfl rfl rfl (by decide) (by decide) (fun h253 => ?_) (fun h253 => ?_)
      · have _q := h253
        refine jx_ld (pc' := 83) (l' := L) (st' := [.ref 66]) rfl (jl_aloadn gL_0) ?_
        refine jx_ar (pc' := 85) (st' := [.int (i32 (21)), .ref 66]) rfl rfl rfl rfl ?_
        have b254 : (-2147483648 : Int) ≤ Gx 13 ∧ Gx 13 ≤ 2147483647 := hWx.1 13
        refine jx_vr (pc' := 88) (as := [.int (i32 (21))]) (st := []) rfl rfl rfl rfl ⟨rfl, rfl, Nat.le_of_ble_eq_true rfl⟩ rfl rfl (c_isKey2 (dd := d) (hd := by omega) (hW := hWx) (k := 21) (tk := tk1) (e_tk := show Gx 11 = tk1 from (ex_tk1)) (tn := Gx 13) (e_tn := show Gx 13 = Gx 13 from rfl)  (h_k := ⟨(by decide), (by decide)⟩)  ) (fun o V' hq => ?_)
        obtain ⟨r255, rfl, rfl, b256, q257⟩ := hq
        refine .inr ⟨_, rfl, ?_⟩
        rcases q257 with ⟨rfl, a258, a259, a260⟩ | ⟨rfl, a261⟩
        · have _q : True := trivial
          refine jx_if_ne (pc' := 91) (tg := 100) rfl rfl rfl (by decide) (by decide) (fun h262 => ?_) (fun h262 => ?_)
          · have _q := h262
            refine jx_ar (pc' := 101) (st' := [.int (i32 (1))]) rfl rfl rfl rfl ?_
            refine jx_go (tg := 105) rfl rfl ?_
            refine jx_ld (pc' := 106) (l' := jSto1 L 2 (.int (i32 (1)))) (st' := []) rfl rfl ?_
            obtain ⟨L263, eL263⟩ : ∃ q, q = jSto1 L 2 (.int (i32 (1))) := ⟨_, rfl⟩
            rw [← eL263]
            have gL263_0 : jGet L263 0 = some (.ref 66) := eL263 ▸ jg_ne (by decide) gL_0 rfl
            have gL263_2 : jGet L263 2 = some (.int (i32 (1))) := eL263 ▸ jg_eq
            have z264 := tz_f (tk1)
            exact at_106_1 _ L263 Gx Ax (ln1) (at1) (tk1) (fk1) (op1) (nd1) (sy1) (na1) (vi1) (lf1) (le1) rfl gL263_0 gL263_2 hWx hFx ((ex_ln1)) ((ex_at1)) ((ex_tk1)) ((ex_fk1)) ((ex_op1)) ((ex_nd1)) ((ex_sy1)) ((ex_na1)) ((ex_vi1)) ((ex_lf1)) ((ex_le1)) (by omega) (by omega) (by omega) (by omega) (by omega) (by omega) (by omega) (by omega) (by omega) (by omega) (by omega)
          · have _q := h262
            exact absurd h262 (by omega)
        · have _q : True := trivial
          refine jx_if_ne (pc' := 91) (tg := 100) rfl rfl rfl (by decide) (by decide) (fun h265 => ?_) (fun h265 => ?_)
          · have _q := h265
            exact absurd h265 (by omega)
          · have _q := h265
            refine jx_ld (pc' := 92) (l' := L) (st' := [.ref 66]) rfl (jl_aloadn gL_0) ?_
            refine jx_ar (pc' := 94) (st' := [.int (i32 (19)), .ref 66]) rfl rfl rfl rfl ?_
            refine jx_vr (pc' := 97) (as := [.int (i32 (19))]) (st := []) rfl rfl rfl rfl ⟨rfl, rfl, Nat.le_of_ble_eq_true rfl⟩ rfl rfl (c_isKey2 (dd := d) (hd := by omega) (hW := hWx) (k := 19) (tk := tk1) (e_tk := show Gx 11 = tk1 from (ex_tk1)) (tn := Gx 13) (e_tn := show Gx 13 = Gx 13 from rfl)  (h_k := ⟨(by decide), (by decide)⟩)  ) (fun o V' hq => ?_)
            obtain ⟨r266, rfl, rfl, b267, q268⟩ := hq
            refine .inr ⟨_, rfl, ?_⟩
            rcases q268 with ⟨rfl, a269, a270, a271⟩ | ⟨rfl, a272⟩
            · have _q : True := trivial
              refine jx_if_eq (pc' := 100) (tg := 104) rfl rfl rfl (by decide) (by decide) (fun h273 => ?_) (fun h273 => ?_)
              · have _q := h273
                exact absurd h273 (by omega)
              · have _q := h273
                refine jx_ar (pc' := 101) (st' := [.int (i32 (1))]) rfl rfl rfl rfl ?_
                refine jx_go (tg := 105) rfl rfl ?_
                refine jx_ld (pc' := 106) (l' := jSto1 L 2 (.int (i32 (1)))) (st' := []) rfl rfl ?_
                obtain ⟨L274, eL274⟩ : ∃ q, q = jSto1 L 2 (.int (i32 (1))) := ⟨_, rfl⟩
                rw [← eL274]
                have gL274_0 : jGet L274 0 = some (.ref 66) := eL274 ▸ jg_ne (by decide) gL_0 rfl
                have gL274_2 : jGet L274 2 = some (.int (i32 (1))) := eL274 ▸ jg_eq
                have z275 := tz_f (tk1)
                exact at_106_1 _ L274 Gx Ax (ln1) (at1) (tk1) (fk1) (op1) (nd1) (sy1) (na1) (vi1) (lf1) (le1) rfl gL274_0 gL274_2 hWx hFx ((ex_ln1)) ((ex_at1)) ((ex_tk1)) ((ex_fk1)) ((ex_op1)) ((ex_nd1)) ((ex_sy1)) ((ex_na1)) ((ex_vi1)) ((ex_lf1)) ((ex_le1)) (by omega) (by omega) (by omega) (by omega) (by omega) (by omega) (by omega) (by omega) (by omega) (by omega) (by omega)
            · have _q : True := trivial
              refine jx_if_eq (pc' := 100) (tg := 104) rfl rfl rfl (by decide) (by decide) (fun h276 => ?_) (fun h276 => ?_)
              · have _q := h276
                refine jx_ar (pc' := 105) (st' := [.int (i32 (0))]) rfl rfl rfl rfl ?_
                refine jx_ld (pc' := 106) (l' := jSto1 L 2 (.int (i32 (0)))) (st' := []) rfl rfl ?_
                obtain ⟨L277, eL277⟩ : ∃ q, q = jSto1 L 2 (.int (i32 (0))) := ⟨_, rfl⟩
                rw [← eL277]
                have gL277_0 : jGet L277 0 = some (.ref 66) := eL277 ▸ jg_ne (by decide) gL_0 rfl
                have gL277_2 : jGet L277 2 = some (.int (i32 (0))) := eL277 ▸ jg_eq
                refine jx_ld (pc' := 107) (l' := L277) (st' := [.ref 66]) rfl (jl_aloadn gL277_0) ?_
                refine jx_vr (pc' := 110) (as := []) (st := []) rfl rfl rfl rfl ⟨rfl, rfl, Nat.le_of_ble_eq_true rfl⟩ rfl rfl (c_bad (dd := d) (hd := by omega) (hW := hWx)  (fk := fk1) (e_fk := show Gx 16 = fk1 from (ex_fk1))    ) (fun o V' hq => ?_)
                obtain ⟨r278, rfl, rfl, b279, q280⟩ := hq
                refine .inr ⟨_, rfl, ?_⟩
                rcases q280 with ⟨rfl, a281⟩ | ⟨rfl, a282⟩
                · have _q : True := trivial
                  exfalso
                  omega
                · have _q : True := trivial
                  refine jx_if_ne (pc' := 113) (tg := 141) rfl rfl rfl (by decide) (by decide) (fun h283 => ?_) (fun h283 => ?_)
                  · have _q := h283
                    exact absurd h283 (by omega)
                  · have _q := h283
                    refine jx_ld (pc' := 114) (l' := L277) (st' := [.ref 66]) rfl (jl_aloadn gL277_0) ?_
                    refine jx_ar (pc' := 116) (st' := [.int (i32 (21)), .ref 66]) rfl rfl rfl rfl ?_
                    refine jx_vr (pc' := 119) (as := [.int (i32 (21))]) (st := []) rfl rfl rfl rfl ⟨rfl, rfl, Nat.le_of_ble_eq_true rfl⟩ rfl rfl (c_isKey2 (dd := d) (hd := by omega) (hW := hWx) (k := 21) (tk := tk1) (e_tk := show Gx 11 = tk1 from (ex_tk1)) (tn := Gx 13) (e_tn := show Gx 13 = Gx 13 from rfl)  (h_k := ⟨(by decide), (by decide)⟩)  ) (fun o V' hq => ?_)
                    obtain ⟨r284, rfl, rfl, b285, q286⟩ := hq
                    refine .inr ⟨_, rfl, ?_⟩
                    rcases q286 with ⟨rfl, a287, a288, a289⟩ | ⟨rfl, a290⟩
                    · have _q : True := trivial
                      refine jx_if_eq (pc' := 122) (tg := 141) rfl rfl rfl (by decide) (by decide) (fun h291 => ?_) (fun h291 => ?_)
                      · have _q := h291
                        exact absurd h291 (by omega)
                      · have _q := h291
                        exfalso
                        omega
                    · have _q : True := trivial
                      refine jx_if_eq (pc' := 122) (tg := 141) rfl rfl rfl (by decide) (by decide) (fun h292 => ?_) (fun h292 => ?_)
                      · have _q := h292
                        refine jx_ld (pc' := 142) (l' := L277) (st' := [.int (i32 (0))]) rfl (jl_iloadn gL277_2) ?_
                        refine jx_if_eq (pc' := 145) (tg := 184) rfl rfl rfl (by decide) (by decide) (fun h293 => ?_) (fun h293 => ?_)
                        · have _q := h293
                          refine jx_ld (pc' := 185) (l' := L277) (st' := [.ref 66]) rfl (jl_aloadn gL277_0) ?_
                          refine jr_get (pc' := 188) (i := 55) (v := .ref 103) rfl rfl (by decide) rfl rfl ?_
                          refine jx_ar (pc' := 189) (st' := [.int (i32 (0)), .ref 103]) rfl rfl rfl rfl ?_
                          refine jx_ld (pc' := 190) (l' := L277) (st' := [.ref 66, .int (i32 (0)), .ref 103]) rfl (jl_aloadn gL277_0) ?_
                          refine jx_ar (pc' := 191) (st' := [.int (i32 (0)), .ref 66, .int (i32 (0)), .ref 103]) rfl rfl rfl rfl ?_
                          refine jx_vr (pc' := 194) (as := [.int (i32 (0))]) (st := [.int (i32 (0)), .ref 103]) rfl rfl rfl rfl ⟨rfl, rfl, Nat.le_of_ble_eq_true rfl⟩ rfl rfl (RP_all X 18 (dd := d) (hd := by omega) (hW := hWx) (lv := 0) (at0 := (lf1 - 1)) (ln := ln1) (e_ln := show Gx 9 = ln1 from (ex_ln1)) (li := li) (e_li := show Gx 3 = li from ((hFx.1 3 rfl).trans (e_li))) (fk := fk1) (e_fk := show Gx 16 = fk1 from (ex_fk1)) (nd := nd1) (e_nd := show Gx 31 = nd1 from (ex_nd1)) (sy := sy1) (e_sy := show Gx 19 = sy1 from (ex_sy1)) (na := na1) (e_na := show Gx 28 = na1 from (ex_na1)) (vi := vi1) (e_vi := show Gx 29 = vi1 from (ex_vi1)) (lf := lf1) (e_lf := show Ax 3 (ln1).toNat = lf1 from (ex_lf1)) (ac := at1) (e_ac := show Gx 10 = at1 from (ex_at1)) (i_LT := (LT_ext ((hFx.1 3 rfl)) ((hFx.2 3 rfl)) ((hFx.2 4 rfl)) i_LT)) (h_lv := ⟨(by decide), (by decide)⟩)  (p_0 := by omega) (p_1 := by omega) (p_2 := by omega) (p_3 := by omega) (p_4 := by omega) (p_5 := by omega) (p_6 := by omega) (p_7 := by omega) (p_8 := by omega) (p_9 := by omega)) (fun o V' hq => ?_)
                          obtain ⟨G294, A295, r296, ln2_297, at2_298, fk2_299, nd2_300, sy2_301, na2_302, vi2_303, lf2_304, rfl, rfl, hW305, hF306, hQ307, b308, e309, e310, e311, e312, e313, e314, e315, e316, p317, p318, p319, p320, p321, p322, p323, p324, p325, q326⟩ := hq
                          have hF327 := Fr_tr hFx hF306 (Fr_sub (by decide)) (Fr_sub (by decide))
                          have bln2_297 : (0 : Int) ≤ ln2_297 ∧ ln2_297 ≤ 3000 := e309 ▸ hW305.1 9
                          have bat2_298 : (0 : Int) ≤ at2_298 ∧ at2_298 ≤ 3002 := e310 ▸ hW305.1 10
                          have bfk2_299 : (0 : Int) ≤ fk2_299 ∧ fk2_299 ≤ 6 := e311 ▸ hW305.1 16
                          have bnd2_300 : (0 : Int) ≤ nd2_300 ∧ nd2_300 ≤ 6999 := e312 ▸ hW305.1 31
                          have bsy2_301 : (0 : Int) ≤ sy2_301 ∧ sy2_301 ≤ 202 := e313 ▸ hW305.1 19
                          have bna2_302 : (0 : Int) ≤ na2_302 ∧ na2_302 ≤ 200 := e314 ▸ hW305.1 28
                          have bvi2_303 : (0 : Int) ≤ vi2_303 ∧ vi2_303 ≤ 202 := e315 ▸ hW305.1 29
                          have blf2_304 : (0 : Int) ≤ lf2_304 ∧ lf2_304 ≤ 3000 := e316 ▸ hW305.2 3 _
                          refine .inr ⟨_, rfl, ?_⟩
                          rcases q326 with ⟨a328, a329⟩ | ⟨a330, a331, a332, a333, a334, a335⟩
                          · have _q : True := trivial
                            refine jr_st (pc' := 195) (i := 36) (m := 6) (z := (0 : Int)) (y := r296) rfl (by decide) rfl (by decide) (by omega) (by omega) rfl ?_
                            have hW337 : Wk G294 (uA A295 36 ((0 : Int)).toNat (r296)) := Wk_a hW305 (show (-2147483648 : Int) ≤ r296 by omega) (show r296 ≤ (2147483647 : Int) by omega)
                            have hF338 := Fr_a (z := r296) (k := 36) (n := ((0 : Int)).toNat) hF327 (by decide)
                            obtain ⟨A336, eA336⟩ : ∃ q, q = uA A295 36 ((0 : Int)).toNat (r296) := ⟨_, rfl⟩
                            rw [← eA336]
                            rw [← eA336] at hW337 hF338
                            have q339 : A336 36 ((0 : Int)).toNat = r296 := by rw [eA336]; exact uA_eq
                            refine jx_ld (pc' := 196) (l' := L277) (st' := [.ref 66]) rfl (jl_aloadn gL277_0) ?_
                            refine jx_vr (pc' := 199) (as := []) (st := []) rfl rfl rfl rfl ⟨rfl, rfl, Nat.le_of_ble_eq_true rfl⟩ rfl rfl (c_bad (dd := d) (hd := by omega) (hW := hW337)  (fk := fk2_299) (e_fk := show G294 16 = fk2_299 from (e311))    ) (fun o V' hq => ?_)
                            obtain ⟨r340, rfl, rfl, b341, q342⟩ := hq
                            refine .inr ⟨_, rfl, ?_⟩
                            rcases q342 with ⟨rfl, a343⟩ | ⟨rfl, a344⟩
                            · have _q : True := trivial
                              refine jx_if_ne (pc' := 202) (tg := 237) rfl rfl rfl (by decide) (by decide) (fun h345 => ?_) (fun h345 => ?_)
                              · have _q := h345
                                refine jx_rt (v := none) rfl rfl rfl rfl rfl rfl ?_
                                exact ⟨_, _, ln2_297, fk2_299, nd2_300, sy2_301, na2_302, vi2_303, rfl, rfl, hW337, hF338, (e309), (e311), (e312), (e313), (e314), (e315), by first | exact Or.inl (by omega) | exact Or.inr ((by omega))⟩
                              · have _q := h345
                                exact absurd h345 (by omega)
                            · have _q : True := trivial
                              exfalso
                              omega
                          · have _q : True := trivial
                            refine jr_st (pc' := 195) (i := 36) (m := 6) (z := (0 : Int)) (y := r296) rfl (by decide) rfl (by decide) (by omega) (by omega) rfl ?_
                            have hW347 : Wk G294 (uA A295 36 ((0 : Int)).toNat (r296)) := Wk_a hW305 (show (-2147483648 : Int) ≤ r296 by omega) (show r296 ≤ (2147483647 : Int) by omega)
                            have hF348 := Fr_a (z := r296) (k := 36) (n := ((0 : Int)).toNat) hF327 (by decide)
                            obtain ⟨A346, eA346⟩ : ∃ q, q = uA A295 36 ((0 : Int)).toNat (r296) := ⟨_, rfl⟩
                            rw [← eA346]
                            rw [← eA346] at hW347 hF348
                            have q349 : A346 36 ((0 : Int)).toNat = r296 := by rw [eA346]; exact uA_eq
                            refine jx_ld (pc' := 196) (l' := L277) (st' := [.ref 66]) rfl (jl_aloadn gL277_0) ?_
                            refine jx_vr (pc' := 199) (as := []) (st := []) rfl rfl rfl rfl ⟨rfl, rfl, Nat.le_of_ble_eq_true rfl⟩ rfl rfl (c_bad (dd := d) (hd := by omega) (hW := hW347)  (fk := fk2_299) (e_fk := show G294 16 = fk2_299 from (e311))    ) (fun o V' hq => ?_)
                            obtain ⟨r350, rfl, rfl, b351, q352⟩ := hq
                            refine .inr ⟨_, rfl, ?_⟩
                            rcases q352 with ⟨rfl, a353⟩ | ⟨rfl, a354⟩
                            · have _q : True := trivial
                              exfalso
                              omega
                            · have _q : True := trivial
                              refine jx_if_ne (pc' := 202) (tg := 237) rfl rfl rfl (by decide) (by decide) (fun h355 => ?_) (fun h355 => ?_)
                              · have _q := h355
                                exact absurd h355 (by omega)
                              · have _q := h355
                                refine jx_ld (pc' := 203) (l' := L277) (st' := [.ref 66]) rfl (jl_aloadn gL277_0) ?_
                                refine jr_get (pc' := 206) (i := 9) (v := .int (i32 (ln2_297))) rfl rfl (by decide) (rFv_eq (by decide) (show G294 9 = ln2_297 from (e309))) rfl ?_
                                refine jx_ld (pc' := 207) (l' := L277) (st' := [.ref 66, .int (i32 (ln2_297))]) rfl (jl_aloadn gL277_0) ?_
                                refine jr_get (pc' := 210) (i := 3) (v := .int (i32 (li))) rfl rfl (by decide) (rFv_eq (by decide) (show G294 3 = li from ((hF306.1 3 rfl).trans ((hFx.1 3 rfl).trans (e_li))))) rfl ?_
                                refine jx_icmp_ge (pc' := 213) (tg := 237) rfl rfl rfl (Int.le_trans (by decide : (-2147483648 : Int) ≤ 0) bln2_297.1) (Int.le_trans bln2_297.2 (by decide : (3000 : Int) ≤ 2147483647)) (Int.le_trans (by decide : (-2147483648 : Int) ≤ 0) b_li.1) (Int.le_trans b_li.2 (by decide : (3000 : Int) ≤ 2147483647)) (fun h356 => ?_) (fun h356 => ?_)
                                · have _q := h356
                                  refine jx_rt (v := none) rfl rfl rfl rfl rfl rfl ?_
                                  exact ⟨_, _, ln2_297, fk2_299, nd2_300, sy2_301, na2_302, vi2_303, rfl, rfl, hW347, hF348, (e309), (e311), (e312), (e313), (e314), (e315), by first | exact Or.inl (by omega) | exact Or.inr ((by omega))⟩
                                · have _q := h356
                                  refine jx_ld (pc' := 214) (l' := L277) (st' := [.ref 66]) rfl (jl_aloadn gL277_0) ?_
                                  refine jx_ar (pc' := 215) (st' := [.int (i32 (1)), .ref 66]) rfl rfl rfl rfl ?_
                                  refine jx_ld (pc' := 216) (l' := L277) (st' := [.ref 66, .int (i32 (1)), .ref 66]) rfl (jl_aloadn gL277_0) ?_
                                  refine jr_get (pc' := 219) (i := 6) (v := .ref 70) rfl rfl (by decide) rfl rfl ?_
                                  refine jx_ld (pc' := 220) (l' := L277) (st' := [.ref 66, .ref 70, .int (i32 (1)), .ref 66]) rfl (jl_aloadn gL277_0) ?_
                                  refine jr_get (pc' := 223) (i := 9) (v := .int (i32 (ln2_297))) rfl rfl (by decide) (rFv_eq (by decide) (show G294 9 = ln2_297 from (e309))) rfl ?_
                                  refine jr_ldv (pc' := 224) (i := 3) (m := 3001) (z := ln2_297) (y := lf2_304) rfl (by decide) rfl (by decide) (Int.le_trans (by decide : (0 : Int) ≤ 0) bln2_297.1) (Int.lt_of_le_of_lt bln2_297.2 (by decide : (3000 : Int) < ((3001 : Nat) : Int))) rfl (show A346 3 (ln2_297).toNat = lf2_304 from (congrFun ((congrFun eA346 3).trans (uA_ne (by decide))) _).trans (e316)) ?_
                                  refine jx_ld (pc' := 225) (l' := L277) (st' := [.ref 66, .int (i32 (lf2_304)), .int (i32 (1)), .ref 66]) rfl (jl_aloadn gL277_0) ?_
                                  refine jr_get (pc' := 228) (i := 5) (v := .ref 69) rfl rfl (by decide) rfl rfl ?_
                                  refine jx_ld (pc' := 229) (l' := L277) (st' := [.ref 66, .ref 69, .int (i32 (lf2_304)), .int (i32 (1)), .ref 66]) rfl (jl_aloadn gL277_0) ?_
                                  refine jr_get (pc' := 232) (i := 9) (v := .int (i32 (ln2_297))) rfl rfl (by decide) (rFv_eq (by decide) (show G294 9 = ln2_297 from (e309))) rfl ?_
                                  have b357 : (0 : Int) ≤ A 2 (ln2_297).toNat ∧ A 2 (ln2_297).toNat ≤ 3000 := hW.2 2 _
                                  refine jr_ldv (pc' := 233) (i := 2) (m := 3001) (z := ln2_297) (y := A 2 (ln2_297).toNat) rfl (by decide) rfl (by decide) (Int.le_trans (by decide : (0 : Int) ≤ 0) bln2_297.1) (Int.lt_of_le_of_lt bln2_297.2 (by decide : (3000 : Int) < ((3001 : Nat) : Int))) rfl (show A346 2 (ln2_297).toNat = A 2 (ln2_297).toNat from (congrFun (((congrFun eA346 2).trans (uA_ne (by decide))).trans ((hF306.2 2 rfl).trans (hFx.2 2 rfl))) _)) ?_
                                  refine jx_sub (pc' := 234) rfl rfl ?_
                                  refine jx_vr (pc' := 237) (as := [.int (i32 (1)), .int (i32 ((lf2_304 - A 2 (ln2_297).toNat)))]) (st := []) rfl rfl rfl rfl ⟨rfl, rfl, Nat.le_of_ble_eq_true rfl⟩ rfl rfl (c_fail (dd := d) (hd := by omega) (hW := hW347) (kind := 1) (place := (lf2_304 - A 2 (ln2_297).toNat)) (fk := fk2_299) (e_fk := show G294 16 = fk2_299 from (e311))  (h_kind := ⟨(by decide), (by decide)⟩) (h_place := ⟨(by omega), (by omega)⟩)  (p_0 := by omega) (p_1 := by omega)) (fun o V' hq => ?_)
                                  obtain ⟨G358, A359, fk2_360, rfl, rfl, hW361, hF362, e363, p364, -⟩ := hq
                                  have hF366 := Fr_tr hF348 hF362 (Fr_sub (by decide)) (Fr_sub (by decide))
                                  have bfk2_360 : (0 : Int) ≤ fk2_360 ∧ fk2_360 ≤ 6 := e363 ▸ hW361.1 16
                                  refine .inl ⟨rfl, ?_⟩
                                  refine jx_rt (v := none) rfl rfl rfl rfl rfl rfl ?_
                                  exact ⟨_, _, ln2_297, fk2_360, nd2_300, sy2_301, na2_302, vi2_303, rfl, rfl, hW361, hF366, ((hF362.1 9 rfl).trans (e309)), (e363), ((hF362.1 31 rfl).trans (e312)), ((hF362.1 19 rfl).trans (e313)), ((hF362.1 28 rfl).trans (e314)), ((hF362.1 29 rfl).trans (e315)), by first | exact Or.inl (by omega) | exact Or.inr ((by omega))⟩
                        · have _q := h293
                          exact absurd h293 (by omega)
                      · have _q := h292
                        exact absurd h292 (by omega)
              · have _q := h276
                exact absurd h276 (by omega)
      · have _q := h253
        exact absurd h253 (by omega)
  have at_40 : ∀ (m : Nat) (L : jL) (Gx : Nat → Int) (Ax : Nat → Nat → Int) (more ln1 fk1 nd1 sy1 na1 vi1 lf1 : Int), (li - ln1).toNat = m → jGet L 0 = some (.ref 66) → jGet L 1 = some (.int (i32 more)) → Wk Gx Ax → Fr [9, 10, 11, 12, 13, 14, 15, 16, 17, 18, 19, 28, 29, 31, 46, 52] [6, 7, 8, 9, 10, 11, 12, 14, 15, 16, 17, 18, 19, 20, 21, 22, 23, 24, 28, 29, 30, 31, 34, 35, 36] G A Gx Ax → Gx 9 = ln1 → Gx 16 = fk1 → Gx 31 = nd1 → Gx 19 = sy1 → Gx 28 = na1 → Gx 29 = vi1 → Ax 3 (ln1).toNat = lf1 → ((-2147483648 : Int) ≤ more ∧ more ≤ 2147483647) → (fk1 = 0) → (0 ≤ lf1) → (ln1 ≤ li) → (nd1 ≤ 2 * lf1 + 2 ∨ li ≤ ln1) → (sy1 ≤ na1 + 2) → (vi1 ≤ sy1) → (more = 1) → wj X d jm312 (40, L, [], rV c0 c1 Gx Ax T) (fun o V' => ∃ (G' : Nat → Int) (A' : Nat → Nat → Int) (ln2 : Int) (fk2 : Int) (nd2 : Int) (sy2 : Int) (na2 : Int) (vi2 : Int), V' = rV c0 c1 G' A' T ∧ o = .inl none ∧ Wk G' A' ∧ Fr [9, 10, 11, 12, 13, 14, 15, 16, 17, 18, 19, 28, 29, 31, 46, 52] [6, 7, 8, 9, 10, 11, 12, 14, 15, 16, 17, 18, 19, 20, 21, 22, 23, 24, 28, 29, 30, 31, 34, 35, 36] G A G' A' ∧ G' 9 = ln2 ∧ G' 16 = fk2 ∧ G' 31 = nd2 ∧ G' 19 = sy2 ∧ G' 28 = na2 ∧ G' 29 = vi2 ∧ (((1 ≤ fk2)) ∨ ((fk2 = 0)))) := by
    intro m
    induction m using Nat.strongRecOn with
    | ind m ih40 =>
      intro L Gx Ax more ln1 fk1 nd1 sy1 na1 vi1 lf1 hm gL_0 gL_1 hWx hFx ex_ln1 ex_fk1 ex_nd1 ex_sy1 ex_na1 ex_vi1 ex_lf1 rx_more iv_0 iv_1 iv_2 iv_3 iv_4 iv_5 iv_6
      have b_ln1 : (0 : Int) ≤ ln1 ∧ ln1 ≤ 3000 := ex_ln1 ▸ hWx.1 9
      have b_fk1 : (0 : Int) ≤ fk1 ∧ fk1 ≤ 6 := ex_fk1 ▸ hWx.1 16
      have b_nd1 : (0 : Int) ≤ nd1 ∧ nd1 ≤ 6999 := ex_nd1 ▸ hWx.1 31
      have b_sy1 : (0 : Int) ≤ sy1 ∧ sy1 ≤ 202 := ex_sy1 ▸ hWx.1 19
      have b_na1 : (0 : Int) ≤ na1 ∧ na1 ≤ 200 := ex_na1 ▸ hWx.1 28
      have b_vi1 : (0 : Int) ≤ vi1 ∧ vi1 ≤ 202 := ex_vi1 ▸ hWx.1 29
      refine jx_ld (pc' := 41) (l' := L) (st' := [.int (i32 (more))]) rfl (jl_iloadn gL_1) ?_
      refine jx_if_eq (pc' := 44) (tg := 74) rfl rfl rfl (Int.le_trans (by decide : (-2147483648 : Int) ≤ -2147483648) rx_more.1) (Int.le_trans rx_more.2 (by decide : (2147483647 : Int) ≤ 2147483647)) (fun h367 => ?_) (fun h367 => ?_)
      · have _q := h367
        have z368 := tz_f (Gx 11)
        exact at_74 L Gx Ax (ln1) (Gx 10) (Gx 11) (fk1) (Gx 15) (nd1) (sy1) (na1) (vi1) (lf1) (A 4 (ln1).toNat) gL_0 hWx hFx ((ex_ln1)) (rfl) (rfl) ((ex_fk1)) (rfl) ((ex_nd1)) ((ex_sy1)) ((ex_na1)) ((ex_vi1)) ((ex_lf1)) ((congrFun (hFx.2 4 rfl) _)) (by omega) (by omega) (by omega) (by omega) (by omega) (by omega) (by omega) (by omega) (by omega) (by omega) (by omega)
      · have _q := h367
        refine jx_ld (pc' := 45) (l' := L) (st' := [.ref 66]) rfl (jl_aloadn gL_0) ?_
        refine jx_ar (pc' := 46) (st' := [.int (i32 (0)), .ref 66]) rfl rfl rfl rfl ?_
        have b369 : (-1 : Int) ≤ A 5 (ln1).toNat ∧ A 5 (ln1).toNat ≤ 15 := hW.2 5 _
        refine jx_vr (pc' := 49) (as := [.int (i32 (0))]) (st := []) rfl rfl rfl rfl ⟨rfl, rfl, Nat.le_of_ble_eq_true rfl⟩ rfl rfl (c_needLevel (dd := d) (hd := by omega) (hW := hWx) (lv := 0) (ln := ln1) (e_ln := show Gx 9 = ln1 from (ex_ln1)) (li := li) (e_li := show Gx 3 = li from ((hFx.1 3 rfl).trans (e_li))) (fk := fk1) (e_fk := show Gx 16 = fk1 from (ex_fk1)) (ll := A 5 (ln1).toNat) (e_ll := show Ax 5 (ln1).toNat = A 5 (ln1).toNat from (congrFun (hFx.2 5 rfl) _))  (h_lv := ⟨(by decide), (by decide)⟩)  ) (fun o V' hq => ?_)
        obtain ⟨G370, A371, r372, fk2_373, rfl, rfl, hW374, hF375, b376, e377, q378⟩ := hq
        have hF379 := Fr_tr hFx hF375 (Fr_sub (by decide)) (Fr_sub (by decide))
        have bfk2_373 : (0 : Int) ≤ fk2_373 ∧ fk2_373 ≤ 6 := e377 ▸ hW374.1 16
        refine .inr ⟨_, rfl, ?_⟩
        rcases q378 with ⟨rfl, a380, a381, a382, a383⟩ | ⟨rfl, a384⟩
        · have _q : True := trivial
          have b385 : (0 : Int) ≤ A 4 (ln1).toNat ∧ A 4 (ln1).toNat ≤ 3000 := hW.2 4 _
          have lt386 : lf1 < A 4 (ln1).toNat := LT_at (LT_ext (((hF375.1 3 rfl).trans (hFx.1 3 rfl))) (((hF375.2 3 rfl).trans (hFx.2 3 rfl))) (((hF375.2 4 rfl).trans (hFx.2 4 rfl))) i_LT) (show G370 3 = li from ((hF375.1 3 rfl).trans ((hFx.1 3 rfl).trans (e_li)))) (show A371 3 (ln1).toNat = lf1 from (congrFun (hF375.2 3 rfl) _).trans (ex_lf1)) (show A371 4 (ln1).toNat = A 4 (ln1).toNat from (congrFun ((hF375.2 4 rfl).trans (hFx.2 4 rfl)) _)) (by omega) (by omega)
          refine jx_if_eq (pc' := 52) (tg := 74) rfl rfl rfl (by decide) (by decide) (fun h387 => ?_) (fun h387 => ?_)
          · have _q := h387
            exact absurd h387 (by omega)
          · have _q := h387
            refine jx_ld (pc' := 53) (l' := L) (st' := [.ref 66]) rfl (jl_aloadn gL_0) ?_
            refine jx_vr (pc' := 56) (as := []) (st := []) rfl rfl rfl rfl ⟨rfl, rfl, Nat.le_of_ble_eq_true rfl⟩ rfl rfl (c_openLine (dd := d) (hd := by omega) (hW := hW374)  (ln := ln1) (e_ln := show G370 9 = ln1 from ((hF375.1 9 rfl).trans (ex_ln1))) (le := A 4 (ln1).toNat) (e_le := show A371 4 (ln1).toNat = A 4 (ln1).toNat from (congrFun ((hF375.2 4 rfl).trans (hFx.2 4 rfl)) _)) (lf := lf1) (e_lf := show A371 3 (ln1).toNat = lf1 from (congrFun (hF375.2 3 rfl) _).trans (ex_lf1))    (p_0 := by omega)) (fun o V' hq => ?_)
            obtain ⟨G388, A389, at2_390, tk2_391, op2_392, rfl, rfl, hW393, hF394, e395, e396, e397, p398, p399, p400, p401, -⟩ := hq
            have hF403 := Fr_tr hF379 hF394 (Fr_sub (by decide)) (Fr_sub (by decide))
            have bat2_390 : (0 : Int) ≤ at2_390 ∧ at2_390 ≤ 3002 := e395 ▸ hW393.1 10
            have ztk2_391 := tz_b tk2_391
            have btk2_391 : (0 : Int) ≤ tk2_391 ∧ tk2_391 ≤ 5 := e396 ▸ hW393.1 11
            have bop2_392 : (-2147483648 : Int) ≤ op2_392 ∧ op2_392 ≤ 2147483647 := e397 ▸ hW393.1 15
            refine .inl ⟨rfl, ?_⟩
            refine jx_ld (pc' := 57) (l' := L) (st' := [.ref 66]) rfl (jl_aloadn gL_0) ?_
            refine jx_ar (pc' := 59) (st' := [.int (i32 (12)), .ref 66]) rfl rfl rfl rfl ?_
            have b404 : (-2147483648 : Int) ≤ G388 13 ∧ G388 13 ≤ 2147483647 := hW393.1 13
            refine jx_vr (pc' := 62) (as := [.int (i32 (12))]) (st := []) rfl rfl rfl rfl ⟨rfl, rfl, Nat.le_of_ble_eq_true rfl⟩ rfl rfl (c_isKey (dd := d) (hd := by omega) (hW := hW393) (k := 12) (tk := tk2_391) (e_tk := show G388 11 = tk2_391 from (e396)) (tn := G388 13) (e_tn := show G388 13 = G388 13 from rfl)  (h_k := ⟨(by decide), (by decide)⟩)  ) (fun o V' hq => ?_)
            obtain ⟨r405, rfl, rfl, b406, q407⟩ := hq
            refine .inr ⟨_, rfl, ?_⟩
            rcases q407 with ⟨rfl, a408, a409, a410⟩ | rfl
            · have _q : True := trivial
              refine jx_ld (pc' := 63) (l' := jSto1 L 1 (.int (i32 (1)))) (st' := []) rfl rfl ?_
              obtain ⟨L411, eL411⟩ : ∃ q, q = jSto1 L 1 (.int (i32 (1))) := ⟨_, rfl⟩
              rw [← eL411]
              have gL411_0 : jGet L411 0 = some (.ref 66) := eL411 ▸ jg_ne (by decide) gL_0 rfl
              have gL411_1 : jGet L411 1 = some (.int (i32 (1))) := eL411 ▸ jg_eq
              refine jx_ld (pc' := 64) (l' := L411) (st' := [.int (i32 (1))]) rfl (jl_iloadn gL411_1) ?_
              refine jx_if_eq (pc' := 67) (tg := 40) rfl rfl rfl (by decide) (by decide) (fun h412 => ?_) (fun h412 => ?_)
              · have _q := h412
                exact absurd h412 (by omega)
              · have _q := h412
                refine jx_ld (pc' := 68) (l' := L411) (st' := [.ref 66]) rfl (jl_aloadn gL411_0) ?_
                have b413 : (0 : Int) ≤ Gx 46 ∧ Gx 46 ≤ 24 := hWx.1 46
                refine jx_vr (pc' := 71) (as := []) (st := []) rfl rfl rfl rfl ⟨rfl, rfl, Nat.le_of_ble_eq_true rfl⟩ rfl rfl (c_readProc (dd := d) (hd := by omega) (hW := hW393)  (ln := ln1) (e_ln := show G388 9 = ln1 from ((hF394.1 9 rfl).trans ((hF375.1 9 rfl).trans (ex_ln1)))) (li := li) (e_li := show G388 3 = li from ((hF394.1 3 rfl).trans ((hF375.1 3 rfl).trans ((hFx.1 3 rfl).trans (e_li))))) (at0 := at2_390) (e_at0 := show G388 10 = at2_390 from (e395)) (fk := fk2_373) (e_fk := show G388 16 = fk2_373 from ((hF394.1 16 rfl).trans (e377))) (nd := nd1) (e_nd := show G388 31 = nd1 from ((hF394.1 31 rfl).trans ((hF375.1 31 rfl).trans (ex_nd1)))) (sy := sy1) (e_sy := show G388 19 = sy1 from ((hF394.1 19 rfl).trans ((hF375.1 19 rfl).trans (ex_sy1)))) (na := na1) (e_na := show G388 28 = na1 from ((hF394.1 28 rfl).trans ((hF375.1 28 rfl).trans (ex_na1)))) (vi := vi1) (e_vi := show G388 29 = vi1 from ((hF394.1 29 rfl).trans ((hF375.1 29 rfl).trans (ex_vi1)))) (le := A 4 (ln1).toNat) (e_le := show A389 4 (ln1).toNat = A 4 (ln1).toNat from (congrFun ((hF394.2 4 rfl).trans ((hF375.2 4 rfl).trans (hFx.2 4 rfl))) _)) (op0 := op2_392) (e_op0 := show G388 15 = op2_392 from (e397)) (tk0 := tk2_391) (e_tk0 := show G388 11 = tk2_391 from (e396)) (pc0 := Gx 46) (e_pc0 := show G388 46 = Gx 46 from ((hF394.1 46 rfl).trans (hF375.1 46 rfl))) (i_LT := (LT_ext (((hF394.1 3 rfl).trans ((hF375.1 3 rfl).trans (hFx.1 3 rfl)))) (((hF394.2 3 rfl).trans ((hF375.2 3 rfl).trans (hFx.2 3 rfl)))) (((hF394.2 4 rfl).trans ((hF375.2 4 rfl).trans (hFx.2 4 rfl)))) i_LT))   (p_0 := by omega) (p_1 := by omega) (p_2 := by omega) (p_3 := by omega) (p_4 := by omega) (p_5 := by omega)) (fun o V' hq => ?_)
                obtain ⟨G414, A415, ln2_416, at2_417, fk2_418, nd2_419, sy2_420, na2_421, vi2_422, lf2_423, pc2_424, rfl, rfl, hW425, hF426, e427, e428, e429, e430, e431, e432, e433, e434, e435, p436, p437, p438, p439, q440⟩ := hq
                have hF441 := Fr_tr hF403 hF426 (Fr_sub (by decide)) (Fr_sub (by decide))
                have bln2_416 : (0 : Int) ≤ ln2_416 ∧ ln2_416 ≤ 3000 := e427 ▸ hW425.1 9
                have bat2_417 : (0 : Int) ≤ at2_417 ∧ at2_417 ≤ 3002 := e428 ▸ hW425.1 10
                have bfk2_418 : (0 : Int) ≤ fk2_418 ∧ fk2_418 ≤ 6 := e429 ▸ hW425.1 16
                have bnd2_419 : (0 : Int) ≤ nd2_419 ∧ nd2_419 ≤ 6999 := e430 ▸ hW425.1 31
                have bsy2_420 : (0 : Int) ≤ sy2_420 ∧ sy2_420 ≤ 202 := e431 ▸ hW425.1 19
                have bna2_421 : (0 : Int) ≤ na2_421 ∧ na2_421 ≤ 200 := e432 ▸ hW425.1 28
                have bvi2_422 : (0 : Int) ≤ vi2_422 ∧ vi2_422 ≤ 202 := e433 ▸ hW425.1 29
                have blf2_423 : (0 : Int) ≤ lf2_423 ∧ lf2_423 ≤ 3000 := e434 ▸ hW425.2 3 _
                have bpc2_424 : (0 : Int) ≤ pc2_424 ∧ pc2_424 ≤ 24 := e435 ▸ hW425.1 46
                refine .inl ⟨rfl, ?_⟩
                rcases q440 with a442 | ⟨a443, a444, a445, a446, a447⟩
                · have _q : True := trivial
                  refine jx_go (tg := 40) rfl rfl ?_
                  refine jx_ld (pc' := 41) (l' := L411) (st' := [.int (i32 (1))]) rfl (jl_iloadn gL411_1) ?_
                  refine jx_if_eq (pc' := 44) (tg := 74) rfl rfl rfl (by decide) (by decide) (fun h448 => ?_) (fun h448 => ?_)
                  · have _q := h448
                    exact absurd h448 (by omega)
                  · have _q := h448
                    refine jx_ld (pc' := 45) (l' := L411) (st' := [.ref 66]) rfl (jl_aloadn gL411_0) ?_
                    refine jx_ar (pc' := 46) (st' := [.int (i32 (0)), .ref 66]) rfl rfl rfl rfl ?_
                    have b449 : (-1 : Int) ≤ A 5 (ln2_416).toNat ∧ A 5 (ln2_416).toNat ≤ 15 := hW.2 5 _
                    refine jx_vr (pc' := 49) (as := [.int (i32 (0))]) (st := []) rfl rfl rfl rfl ⟨rfl, rfl, Nat.le_of_ble_eq_true rfl⟩ rfl rfl (c_needLevel (dd := d) (hd := by omega) (hW := hW425) (lv := 0) (ln := ln2_416) (e_ln := show G414 9 = ln2_416 from (e427)) (li := li) (e_li := show G414 3 = li from ((hF426.1 3 rfl).trans ((hF394.1 3 rfl).trans ((hF375.1 3 rfl).trans ((hFx.1 3 rfl).trans (e_li)))))) (fk := fk2_418) (e_fk := show G414 16 = fk2_418 from (e429)) (ll := A 5 (ln2_416).toNat) (e_ll := show A415 5 (ln2_416).toNat = A 5 (ln2_416).toNat from (congrFun ((hF426.2 5 rfl).trans ((hF394.2 5 rfl).trans ((hF375.2 5 rfl).trans (hFx.2 5 rfl)))) _))  (h_lv := ⟨(by decide), (by decide)⟩)  ) (fun o V' hq => ?_)
                    obtain ⟨G450, A451, r452, fk2_453, rfl, rfl, hW454, hF455, b456, e457, q458⟩ := hq
                    have hF459 := Fr_tr hF441 hF455 (Fr_sub (by decide)) (Fr_sub (by decide))
                    have bfk2_453 : (0 : Int) ≤ fk2_453 ∧ fk2_453 ≤ 6 := e457 ▸ hW454.1 16
                    refine .inr ⟨_, rfl, ?_⟩
                    rcases q458 with ⟨rfl, a460, a461, a462, a463⟩ | ⟨rfl, a464⟩
                    · have _q : True := trivial
                      exfalso
                      omega
                    · have _q : True := trivial
                      refine jx_if_eq (pc' := 52) (tg := 74) rfl rfl rfl (by decide) (by decide) (fun h465 => ?_) (fun h465 => ?_)
                      · have _q := h465
                        refine jx_ld (pc' := 75) (l' := L411) (st' := [.ref 66]) rfl (jl_aloadn gL411_0) ?_
                        refine jx_vr (pc' := 78) (as := []) (st := []) rfl rfl rfl rfl ⟨rfl, rfl, Nat.le_of_ble_eq_true rfl⟩ rfl rfl (c_bad (dd := d) (hd := by omega) (hW := hW454)  (fk := fk2_453) (e_fk := show G450 16 = fk2_453 from (e457))    ) (fun o V' hq => ?_)
                        obtain ⟨r466, rfl, rfl, b467, q468⟩ := hq
                        refine .inr ⟨_, rfl, ?_⟩
                        rcases q468 with ⟨rfl, a469⟩ | ⟨rfl, a470⟩
                        · have _q : True := trivial
                          refine jx_if_eq (pc' := 81) (tg := 82) rfl rfl rfl (by decide) (by decide) (fun h471 => ?_) (fun h471 => ?_)
                          · have _q := h471
                            exact absurd h471 (by omega)
                          · have _q := h471
                            refine jx_rt (v := none) rfl rfl rfl rfl rfl rfl ?_
                            exact ⟨_, _, ln2_416, fk2_453, nd2_419, sy2_420, na2_421, vi2_422, rfl, rfl, hW454, hF459, ((hF455.1 9 rfl).trans (e427)), (e457), ((hF455.1 31 rfl).trans (e430)), ((hF455.1 19 rfl).trans (e431)), ((hF455.1 28 rfl).trans (e432)), ((hF455.1 29 rfl).trans (e433)), by first | exact Or.inl (by omega) | exact Or.inr ((by omega))⟩
                        · have _q : True := trivial
                          exfalso
                          omega
                      · have _q := h465
                        exact absurd h465 (by omega)
                · have _q : True := trivial
                  refine jx_go (tg := 40) rfl rfl ?_
                  exact ih40 _ (by omega) L411 G414 A415 (1) (ln2_416) (fk2_418) (nd2_419) (sy2_420) (na2_421) (vi2_422) (lf2_423) rfl gL411_0 gL411_1 hW425 hF441 ((e427)) ((e429)) ((e430)) ((e431)) ((e432)) ((e433)) ((e434)) (by omega) (by omega) (by omega) (by omega) (by omega) (by omega) (by omega) (by omega)
            · have _q : True := trivial
              refine jx_ld (pc' := 63) (l' := jSto1 L 1 (.int (i32 (0)))) (st' := []) rfl rfl ?_
              obtain ⟨L472, eL472⟩ : ∃ q, q = jSto1 L 1 (.int (i32 (0))) := ⟨_, rfl⟩
              rw [← eL472]
              have gL472_0 : jGet L472 0 = some (.ref 66) := eL472 ▸ jg_ne (by decide) gL_0 rfl
              have gL472_1 : jGet L472 1 = some (.int (i32 (0))) := eL472 ▸ jg_eq
              refine jx_ld (pc' := 64) (l' := L472) (st' := [.int (i32 (0))]) rfl (jl_iloadn gL472_1) ?_
              refine jx_if_eq (pc' := 67) (tg := 40) rfl rfl rfl (by decide) (by decide) (fun h473 => ?_) (fun h473 => ?_)
              · have _q := h473
                refine jx_ld (pc' := 41) (l' := L472) (st' := [.int (i32 (0))]) rfl (jl_iloadn gL472_1) ?_
                refine jx_if_eq (pc' := 44) (tg := 74) rfl rfl rfl (by decide) (by decide) (fun h474 => ?_) (fun h474 => ?_)
                · have _q := h474
                  have z475 := tz_f (tk2_391)
                  exact at_74 L472 G388 A389 (ln1) (at2_390) (tk2_391) (fk2_373) (op2_392) (nd1) (sy1) (na1) (vi1) (lf1) (A 4 (ln1).toNat) gL472_0 hW393 hF403 (((hF394.1 9 rfl).trans ((hF375.1 9 rfl).trans (ex_ln1)))) ((e395)) ((e396)) (((hF394.1 16 rfl).trans (e377))) ((e397)) (((hF394.1 31 rfl).trans ((hF375.1 31 rfl).trans (ex_nd1)))) (((hF394.1 19 rfl).trans ((hF375.1 19 rfl).trans (ex_sy1)))) (((hF394.1 28 rfl).trans ((hF375.1 28 rfl).trans (ex_na1)))) (((hF394.1 29 rfl).trans ((hF375.1 29 rfl).trans (ex_vi1)))) ((congrFun ((hF394.2 3 rfl).trans (hF375.2 3 rfl)) _).trans (ex_lf1)) ((congrFun ((hF394.2 4 rfl).trans ((hF375.2 4 rfl).trans (hFx.2 4 rfl))) _)) (by omega) (by omega) (by omega) (by omega) (by omega) (by omega) (by omega) (by omega) (by omega) (by omega) (by omega)
                · have _q := h474
                  exact absurd h474 (by omega)
              · have _q := h473
                exact absurd h473 (by omega)
        · have _q : True := trivial
          refine jx_if_eq (pc' := 52) (tg := 74) rfl rfl rfl (by decide) (by decide) (fun h476 => ?_) (fun h476 => ?_)
          · have _q := h476
            refine jx_ld (pc' := 75) (l' := L) (st' := [.ref 66]) rfl (jl_aloadn gL_0) ?_
            refine jx_vr (pc' := 78) (as := []) (st := []) rfl rfl rfl rfl ⟨rfl, rfl, Nat.le_of_ble_eq_true rfl⟩ rfl rfl (c_bad (dd := d) (hd := by omega) (hW := hW374)  (fk := fk2_373) (e_fk := show G370 16 = fk2_373 from (e377))    ) (fun o V' hq => ?_)
            obtain ⟨r477, rfl, rfl, b478, q479⟩ := hq
            refine .inr ⟨_, rfl, ?_⟩
            rcases q479 with ⟨rfl, a480⟩ | ⟨rfl, a481⟩
            · have _q : True := trivial
              refine jx_if_eq (pc' := 81) (tg := 82) rfl rfl rfl (by decide) (by decide) (fun h482 => ?_) (fun h482 => ?_)
              · have _q := h482
                exact absurd h482 (by omega)
              · have _q := h482
                refine jx_rt (v := none) rfl rfl rfl rfl rfl rfl ?_
                exact ⟨_, _, ln1, fk2_373, nd1, sy1, na1, vi1, rfl, rfl, hW374, hF379, ((hF375.1 9 rfl).trans (ex_ln1)), (e377), ((hF375.1 31 rfl).trans (ex_nd1)), ((hF375.1 19 rfl).trans (ex_sy1)), ((hF375.1 28 rfl).trans (ex_na1)), ((hF375.1 29 rfl).trans (ex_vi1)), by first | exact Or.inl (by omega) | exact Or.inr ((by omega))⟩
            · have _q : True := trivial
              exfalso
              omega
          · have _q := h476
            exact absurd h476 (by omega)
  refine jx_ld (pc' := 1) (l' := [(0, .ref 66)]) (st' := [.ref 66]) rfl (jl_aloadn rfl) ?_
  refine jx_hp (pc' := 4) (st' := [.ref 27, .ref 66]) rfl rfl rfl rfl rfl rfl ?_
  refine jx_st (pc' := 7) (as := [.ref 27]) (st := [.ref 66]) rfl rfl ⟨rfl, Nat.le_of_ble_eq_true rfl⟩ rfl rfl rfl (c_nameOf (dd := d) (hd := by omega) (s := 27)    (q_s := rfl) (l_s := by decide) (n_s := by decide) ) (fun o V' hq => ?_)
  obtain ⟨r483, rfl, rfl, -⟩ := hq
  refine .inr ⟨_, rfl, ?_⟩
  refine jx_ar (pc' := 9) (st' := [.int (i32 (12)), .long (r483), .ref 66]) rfl rfl rfl rfl ?_
  refine jx_ar (pc' := 10) (st' := [.int (i32 (0)), .int (i32 (12)), .long (r483), .ref 66]) rfl rfl rfl rfl ?_
  refine jx_vr (pc' := 13) (as := [.long (r483), .int (i32 (12)), .int (i32 (0))]) (st := []) rfl rfl rfl rfl ⟨rfl, rfl, Nat.le_of_ble_eq_true rfl⟩ rfl rfl (c_symbol (dd := d) (hd := by omega) (hW := hW) (nm := r483) (kind := 12) (many := 0) (sy := sy) (e_sy := show G 19 = sy from (e_sy))  (h_kind := ⟨(by decide), (by decide)⟩) (h_many := ⟨(by decide), (by decide)⟩)  (p_0 := by omega) (p_1 := by omega)) (fun o V' hq => ?_)
  obtain ⟨G485, A486, r487, sy2_488, rfl, rfl, hW489, hF490, b491, e492, p493, p494, -⟩ := hq
  have hF496 := Fr_tr hF0 hF490 (Fr_sub (by decide)) (Fr_sub (by decide))
  have bsy2_488 : (0 : Int) ≤ sy2_488 ∧ sy2_488 ≤ 202 := e492 ▸ hW489.1 19
  refine .inr ⟨_, rfl, ?_⟩
  refine jx_ar (pc' := 14) (st' := []) rfl rfl rfl rfl ?_
  refine jx_ld (pc' := 15) (l' := [(0, .ref 66)]) (st' := [.ref 66]) rfl (jl_aloadn rfl) ?_
  refine jx_hp (pc' := 18) (st' := [.ref 28, .ref 66]) rfl rfl rfl rfl rfl rfl ?_
  refine jx_st (pc' := 21) (as := [.ref 28]) (st := [.ref 66]) rfl rfl ⟨rfl, Nat.le_of_ble_eq_true rfl⟩ rfl rfl rfl (c_nameOf (dd := d) (hd := by omega) (s := 28)    (q_s := rfl) (l_s := by decide) (n_s := by decide) ) (fun o V' hq => ?_)
  obtain ⟨r497, rfl, rfl, -⟩ := hq
  refine .inr ⟨_, rfl, ?_⟩
  refine jx_ar (pc' := 23) (st' := [.int (i32 (13)), .long (r497), .ref 66]) rfl rfl rfl rfl ?_
  refine jx_ar (pc' := 24) (st' := [.int (i32 (0)), .int (i32 (13)), .long (r497), .ref 66]) rfl rfl rfl rfl ?_
  refine jx_vr (pc' := 27) (as := [.long (r497), .int (i32 (13)), .int (i32 (0))]) (st := []) rfl rfl rfl rfl ⟨rfl, rfl, Nat.le_of_ble_eq_true rfl⟩ rfl rfl (c_symbol (dd := d) (hd := by omega) (hW := hW489) (nm := r497) (kind := 13) (many := 0) (sy := sy2_488) (e_sy := show G485 19 = sy2_488 from (e492))  (h_kind := ⟨(by decide), (by decide)⟩) (h_many := ⟨(by decide), (by decide)⟩)  (p_0 := by omega) (p_1 := by omega)) (fun o V' hq => ?_)
  obtain ⟨G499, A500, r501, sy2_502, rfl, rfl, hW503, hF504, b505, e506, p507, p508, -⟩ := hq
  have hF510 := Fr_tr hF496 hF504 (Fr_sub (by decide)) (Fr_sub (by decide))
  have bsy2_502 : (0 : Int) ≤ sy2_502 ∧ sy2_502 ≤ 202 := e506 ▸ hW503.1 19
  refine .inr ⟨_, rfl, ?_⟩
  refine jx_ar (pc' := 28) (st' := []) rfl rfl rfl rfl ?_
  refine jx_ld (pc' := 29) (l' := [(0, .ref 66)]) (st' := [.ref 66]) rfl (jl_aloadn rfl) ?_
  refine jx_ar (pc' := 30) (st' := [.int (i32 (0)), .ref 66]) rfl rfl rfl rfl ?_
  refine jx_vr (pc' := 33) (as := [.int (i32 (0))]) (st := []) rfl rfl rfl rfl ⟨rfl, rfl, Nat.le_of_ble_eq_true rfl⟩ rfl rfl (c_show (dd := d) (hd := by omega) (hW := hW503) (s := 0) (vi := vi) (e_vi := show G499 29 = vi from ((hF504.1 29 rfl).trans ((hF490.1 29 rfl).trans (e_vi))))  (h_s := ⟨(by decide), (by decide)⟩)  (p_0 := by omega) (p_1 := by omega)) (fun o V' hq => ?_)
  obtain ⟨G511, A512, vi2_513, rfl, rfl, hW514, hF515, e516, p517, -⟩ := hq
  have hF519 := Fr_tr hF510 hF515 (Fr_sub (by decide)) (Fr_sub (by decide))
  have bvi2_513 : (0 : Int) ≤ vi2_513 ∧ vi2_513 ≤ 202 := e516 ▸ hW514.1 29
  refine .inl ⟨rfl, ?_⟩
  refine jx_ld (pc' := 34) (l' := [(0, .ref 66)]) (st' := [.ref 66]) rfl (jl_aloadn rfl) ?_
  refine jx_ar (pc' := 35) (st' := [.int (i32 (1)), .ref 66]) rfl rfl rfl rfl ?_
  refine jx_vr (pc' := 38) (as := [.int (i32 (1))]) (st := []) rfl rfl rfl rfl ⟨rfl, rfl, Nat.le_of_ble_eq_true rfl⟩ rfl rfl (c_show (dd := d) (hd := by omega) (hW := hW514) (s := 1) (vi := vi2_513) (e_vi := show G511 29 = vi2_513 from (e516))  (h_s := ⟨(by decide), (by decide)⟩)  (p_0 := by omega) (p_1 := by omega)) (fun o V' hq => ?_)
  obtain ⟨G520, A521, vi2_522, rfl, rfl, hW523, hF524, e525, p526, -⟩ := hq
  have hF528 := Fr_tr hF519 hF524 (Fr_sub (by decide)) (Fr_sub (by decide))
  have bvi2_522 : (0 : Int) ≤ vi2_522 ∧ vi2_522 ≤ 202 := e525 ▸ hW523.1 29
  refine .inl ⟨rfl, ?_⟩
  refine jx_ar (pc' := 39) (st' := [.int (i32 (1))]) rfl rfl rfl rfl ?_
  refine jx_ld (pc' := 40) (l' := jSto1 [(0, .ref 66)] 1 (.int (i32 (1)))) (st' := []) rfl rfl ?_
  obtain ⟨L529, eL529⟩ : ∃ q, q = jSto1 [(0, .ref 66)] 1 (.int (i32 (1))) := ⟨_, rfl⟩
  rw [← eL529]
  have gL529_0 : jGet L529 0 = some (.ref 66) := eL529 ▸ jg_ne (by decide) (rfl : jGet [(0, .ref 66)] 0 = some (.ref 66)) rfl
  have gL529_1 : jGet L529 1 = some (.int (i32 (1))) := eL529 ▸ jg_eq
  exact at_40 _ L529 G520 A521 (1) (ln) (fk) (nd) (sy2_502) (na) (vi2_522) (lf) rfl gL529_0 gL529_1 hW523 hF528 (((hF524.1 9 rfl).trans ((hF515.1 9 rfl).trans ((hF504.1 9 rfl).trans ((hF490.1 9 rfl).trans (e_ln)))))) (((hF524.1 16 rfl).trans ((hF515.1 16 rfl).trans ((hF504.1 16 rfl).trans ((hF490.1 16 rfl).trans (e_fk)))))) (((hF524.1 31 rfl).trans ((hF515.1 31 rfl).trans ((hF504.1 31 rfl).trans ((hF490.1 31 rfl).trans (e_nd)))))) (((hF524.1 19 rfl).trans ((hF515.1 19 rfl).trans (e506)))) (((hF524.1 28 rfl).trans ((hF515.1 28 rfl).trans ((hF504.1 28 rfl).trans ((hF490.1 28 rfl).trans (e_na)))))) ((e525)) ((congrFun ((hF524.2 3 rfl).trans ((hF515.2 3 rfl).trans ((hF504.2 3 rfl).trans (hF490.2 3 rfl)))) _).trans (e_lf)) (by omega) (by omega) (by omega) (by omega) (by omega) (by omega) (by omega) (by omega)
