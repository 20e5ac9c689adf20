set_option maxRecDepth 20000 in
set_option maxHeartbeats 4000000 in
theorem c_readPlaced_at_19 {X : jX} {d : Nat} {Vs : Nat → Prop} {sb pb : Int} (hvb : VB Vs sb) {c0 c1 : jC} {G : Nat → Int} {A : Nat → Nat → Int} {T : jH} {ln li at0 fk nd sy na vi le op0 tk0 : Int} (hd : 8 * 18 + 81 ≤ d + 1) (hW : Wk G A) (e_ln : G 9 = ln) (e_li : G 3 = li) (e_at0 : G 10 = at0) (e_fk : G 16 = fk) (e_nd : G 31 = nd) (e_sy : G 19 = sy) (e_na : G 28 = na) (e_vi : G 29 = vi) (e_le : A 4 (ln).toNat = le) (e_op0 : G 15 = op0) (e_tk0 : G 11 = tk0) (i_LT : LT G A) (i_SV : SV Vs sb G A) (i_PQ : PQ Vs sb pb G A) (p_0 : fk = 0) (p_1 : 1 ≤ nd) (p_2 : ln < li) (p_3 : at0 ≤ le) (p_4 : nd ≤ 2 * at0 - tz tk0 + 30) (p_5 : sy ≤ na + 2) (p_6 : vi ≤ sy) (p_7 : sb ≤ sy) (p_8 : PZ A) : ∀ (m : Nat) (L : jL) (Gx : Nat → Int) (Ax : Nat → Nat → Int) (many ln1 at1 fk1 nd1 sy1 na1 lf1 : Int), (li - ln1).toNat = m → jGet L 0 = some (.ref 66) → jGet L 1 = some (.int (i32 many)) → Wk Gx Ax → Fr [9, 10, 11, 12, 13, 14, 15, 16, 17, 18, 19, 28, 29, 31] [6, 7, 8, 9, 10, 11, 12, 14, 15, 16, 17, 18, 19, 20, 21, 22, 23, 24, 28, 36] G A Gx Ax → Pf nd A Ax → Fx sr (sy) A Ax → Fx [14] (vi) A Ax → Gx 9 = ln1 → Gx 10 = at1 → Gx 16 = fk1 → Gx 31 = nd1 → Gx 19 = sy1 → Gx 28 = na1 → Ax 3 (ln1).toNat = lf1 → Gx 29 = vi → ((-2147483648 : Int) ≤ many ∧ many ≤ 2147483647) → (fk1 = 0) → (at0 ≤ at1) → (nd ≤ nd1) → (sy ≤ sy1) → (sy1 ≤ na1 + 2) → (vi ≤ sy1) → (ln ≤ ln1) → (ln1 ≤ li) → (nd1 ≤ 2 * at1 + 31) → (at1 < lf1 ∨ li ≤ ln1) → (0 ≤ many ∧ many ≤ ln1) → (wB Ax Vs pb (nd) (nd1) (sy) (sy1)) → wj X d jm311 (19, L, [], rV c0 c1 Gx Ax T) (fun o V' => ∃ (G' : Nat → Int) (A' : Nat → Nat → Int) (ln2 : Int) (at2 : Int) (fk2 : Int) (nd2 : Int) (sy2 : Int) (na2 : Int) (vi2 : Int) (lf2 : Int), V' = rV c0 c1 G' A' T ∧ o = .inl none ∧ Wk G' A' ∧ Fr [9, 10, 11, 12, 13, 14, 15, 16, 17, 18, 19, 28, 29, 31] [6, 7, 8, 9, 10, 11, 12, 14, 15, 16, 17, 18, 19, 20, 21, 22, 23, 24, 28, 36] G A G' A' ∧ Pf nd A A' ∧ Fx sr (sy) A A' ∧ Fx [14] (vi) A A' ∧ G' 9 = ln2 ∧ G' 10 = at2 ∧ G' 16 = fk2 ∧ G' 31 = nd2 ∧ G' 19 = sy2 ∧ G' 28 = na2 ∧ G' 29 = vi2 ∧ A' 3 (ln2).toNat = lf2 ∧ (nd ≤ nd2) ∧ (sy ≤ sy2) ∧ (sy2 ≤ na2 + 2) ∧ (vi2 = vi) ∧ (ln ≤ ln2) ∧ (ln2 ≤ li) ∧ (((1 ≤ fk2)) ∨ ((fk2 = 0) ∧ (wB A' Vs pb (nd) (nd2) (sy) (sy2))))) := by
  have hF0 : Fr [9, 10, 11, 12, 13, 14, 15, 16, 17, 18, 19, 28, 29, 31] [6, 7, 8, 9, 10, 11, 12, 14, 15, 16, 17, 18, 19, 20, 21, 22, 23, 24, 28, 36] G A G A := Fr_rf
  have hP0 : Pf nd A A := Pf_rf
  have hS0 : Fx sr (sy) A A := Fx_rf
  have hV0 : Fx [14] (vi) A A := Fx_rf
  have b_ln : (0 : Int) ≤ ln ∧ ln ≤ 3000 := e_ln ▸ hW.1 9
  have b_li : (0 : Int) ≤ li ∧ li ≤ 3000 := e_li ▸ hW.1 3
  have b_at0 : (0 : Int) ≤ at0 ∧ at0 ≤ 3002 := e_at0 ▸ hW.1 10
  have b_fk : (0 : Int) ≤ fk ∧ fk ≤ 6 := e_fk ▸ hW.1 16
  have b_nd : (0 : Int) ≤ nd ∧ nd ≤ 6999 := e_nd ▸ hW.1 31
  have b_sy : (0 : Int) ≤ sy ∧ sy ≤ 202 := e_sy ▸ hW.1 19
  have b_na : (0 : Int) ≤ na ∧ na ≤ 200 := e_na ▸ hW.1 28
  have b_vi : (0 : Int) ≤ vi ∧ vi ≤ 202 := e_vi ▸ hW.1 29
  have b_le : (0 : Int) ≤ le ∧ le ≤ 3000 := e_le ▸ hW.2 4 _
  have b_op0 : (-2147483648 : Int) ≤ op0 ∧ op0 ≤ 2147483647 := e_op0 ▸ hW.1 15
  have z_tk0 := tz_f tk0
  have b_tk0 : (0 : Int) ≤ tk0 ∧ tk0 ≤ 5 := e_tk0 ▸ hW.1 11
  intro m
  induction m using Nat.strongRecOn with
  | ind m ih19 =>
    intro L Gx Ax many ln1 at1 fk1 nd1 sy1 na1 lf1 hm gL_0 gL_1 hWx hFx hPx hSx hVx ex_ln1 ex_at1 ex_fk1 ex_nd1 ex_sy1 ex_na1 ex_lf1 fx_29 rx_many iv_0 iv_1 iv_2 iv_3 iv_4 iv_5 iv_6 iv_7 iv_8 iv_9 iv_10 iv_11
    have b_ln1 : (0 : Int) ≤ ln1 ∧ ln1 ≤ 3000 := ex_ln1 ▸ hWx.1 9
    have b_at1 : (0 : Int) ≤ at1 ∧ at1 ≤ 3002 := ex_at1 ▸ hWx.1 10
    have b_fk1 : (0 : Int) ≤ fk1 ∧ fk1 ≤ 6 := ex_fk1 ▸ hWx.1 16
    have b_nd1 : (0 : Int) ≤ nd1 ∧ nd1 ≤ 6999 := ex_nd1 ▸ hWx.1 31
    have b_sy1 : (0 : Int) ≤ sy1 ∧ sy1 ≤ 202 := ex_sy1 ▸ hWx.1 19
    have b_na1 : (0 : Int) ≤ na1 ∧ na1 ≤ 200 := ex_na1 ▸ hWx.1 28
    refine jx_ld (pc' := 20) (l' := L) (st' := [.ref 66]) rfl (jl_aloadn gL_0) ?_
    refine jx_ar (pc' := 21) (st' := [.int (i32 (0)), .ref 66]) rfl rfl rfl rfl ?_
    have b1 : (-1 : Int) ≤ A 5 (ln1).toNat ∧ A 5 (ln1).toNat ≤ 15 := hW.2 5 _
    refine jx_vr (pc' := 24) (as := [.int (i32 (0))]) (st := []) rfl rfl rfl rfl ⟨rfl, rfl, Nat.le_of_ble_eq_true rfl⟩ rfl rfl (c_isBelow (dd := d) (hd := by omega) (hW := hWx) (lv := 0) (ln := ln1) (e_ln := show Gx 9 = ln1 from (ex_ln1)) (li := li) (e_li := show Gx 3 = li from ((hFx.1 3 rfl).trans (e_li))) (fk := fk1) (e_fk := show Gx 16 = fk1 from (ex_fk1)) (ll := A 5 (ln1).toNat) (e_ll := show Ax 5 (ln1).toNat = A 5 (ln1).toNat from (congrFun (hFx.2 5 rfl) _))  (h_lv := ⟨(by decide), (by decide)⟩)  (p_0 := by omega)) (fun o V' hq => ?_)
    obtain ⟨G2, A3, r4, fk2_5, rfl, rfl, hW6, hF7, b8, e9, q10⟩ := hq
    have hF11 := Fr_tr hFx hF7 (Fr_sub (by decide)) (Fr_sub (by decide))
    have hP12 := Pf_f hPx hF7 (by decide)
    have hS13 := Fx_f hSx hF7 (by decide)
    have hV14 := Fx_f hVx hF7 (by decide)
    have sf15 : wB A3 Vs pb (nd) (nd1) (sy) (sy1) := (show A3 = Ax from funext (fun k => hF7.2 k rfl)) ▸ iv_11
    have bfk2_5 : (0 : Int) ≤ fk2_5 ∧ fk2_5 ≤ 6 := e9 ▸ hW6.1 16
    refine .inr ⟨_, rfl, ?_⟩
    rcases q10 with ⟨rfl, a16, a17, a18, a19⟩ | ⟨rfl, a20⟩ | ⟨rfl, a21, a22, a23⟩
    · have _q : True := trivial
      have b24 : (0 : Int) ≤ A 4 (ln1).toNat ∧ A 4 (ln1).toNat ≤ 3000 := hW.2 4 _
      have lt25 : lf1 < A 4 (ln1).toNat := LT_at (LT_ext (((hF7.1 3 rfl).trans (hFx.1 3 rfl))) (((hF7.2 3 rfl).trans (hFx.2 3 rfl))) (((hF7.2 4 rfl).trans (hFx.2 4 rfl))) i_LT) (show G2 3 = li from ((hF7.1 3 rfl).trans ((hFx.1 3 rfl).trans (e_li)))) (show A3 3 (ln1).toNat = lf1 from (congrFun (hF7.2 3 rfl) _).trans (ex_lf1)) (show A3 4 (ln1).toNat = A 4 (ln1).toNat from (congrFun ((hF7.2 4 rfl).trans (hFx.2 4 rfl)) _)) (by omega) (by omega)
      refine jx_if_eq (pc' := 27) (tg := 125) rfl rfl rfl (by decide) (by decide) (fun h26 => ?_) (fun h26 => ?_)
      · have _q := h26
        exact absurd h26 (by omega)
      · have _q := h26
        refine jx_ld (pc' := 28) (l' := L) (st' := [.ref 66]) rfl (jl_aloadn gL_0) ?_
        refine jx_vr (pc' := 31) (as := []) (st := []) rfl rfl rfl rfl ⟨rfl, rfl, Nat.le_of_ble_eq_true rfl⟩ rfl rfl (c_openLine (dd := d) (hd := by omega) (hW := hW6)  (ln := ln1) (e_ln := show G2 9 = ln1 from ((hF7.1 9 rfl).trans (ex_ln1))) (le := A 4 (ln1).toNat) (e_le := show A3 4 (ln1).toNat = A 4 (ln1).toNat from (congrFun ((hF7.2 4 rfl).trans (hFx.2 4 rfl)) _)) (lf := lf1) (e_lf := show A3 3 (ln1).toNat = lf1 from (congrFun (hF7.2 3 rfl) _).trans (ex_lf1))    (p_0 := by omega)) (fun o V' hq => ?_)
        obtain ⟨G27, A28, at2_29, tk2_30, op2_31, rfl, rfl, hW32, hF33, e34, e35, e36, p37, p38, p39, p40, -⟩ := hq
        have hF42 := Fr_tr hF11 hF33 (Fr_sub (by decide)) (Fr_sub (by decide))
        have hP43 := Pf_f hP12 hF33 (by decide)
        have hS44 := Fx_f hS13 hF33 (by decide)
        have hV45 := Fx_f hV14 hF33 (by decide)
        have sf46 : wB A28 Vs pb (nd) (nd1) (sy) (sy1) := (show A28 = A3 from funext (fun k => hF33.2 k rfl)) ▸ sf15
        have bat2_29 : (0 : Int) ≤ at2_29 ∧ at2_29 ≤ 3002 := e34 ▸ hW32.1 10
        have ztk2_30 := tz_b tk2_30
        have btk2_30 : (0 : Int) ≤ tk2_30 ∧ tk2_30 ≤ 5 := e35 ▸ hW32.1 11
        have bop2_31 : (-2147483648 : Int) ≤ op2_31 ∧ op2_31 ≤ 2147483647 := e36 ▸ hW32.1 15
        refine .inl ⟨rfl, ?_⟩
        refine jx_ld (pc' := 32) (l' := L) (st' := [.ref 66]) rfl (jl_aloadn gL_0) ?_
        refine jx_ld (pc' := 33) (l' := L) (st' := [.ref 66, .ref 66]) rfl (jl_aloadn gL_0) ?_
        refine jx_ar (pc' := 35) (st' := [.int (i32 (20)), .ref 66, .ref 66]) rfl rfl rfl rfl ?_
        have b47 : (-2147483648 : Int) ≤ G27 13 ∧ G27 13 ≤ 2147483647 := hW32.1 13
        refine jx_vr (pc' := 38) (as := [.int (i32 (20))]) (st := [.ref 66]) rfl rfl rfl rfl ⟨rfl, rfl, Nat.le_of_ble_eq_true rfl⟩ rfl rfl (c_isKey (dd := d) (hd := by omega) (hW := hW32) (k := 20) (tk := tk2_30) (e_tk := show G27 11 = tk2_30 from (e35)) (tn := G27 13) (e_tn := show G27 13 = G27 13 from rfl)  (h_k := ⟨(by decide), (by decide)⟩)  ) (fun o V' hq => ?_)
        obtain ⟨r48, rfl, rfl, b49, q50⟩ := hq
        refine .inr ⟨_, rfl, ?_⟩
        rcases q50 with ⟨rfl, a51, a52, a53⟩ | rfl
        · have _q : True := trivial
          refine jx_vr (pc' := 41) (as := [.int (i32 (1))]) (st := []) rfl rfl rfl rfl ⟨rfl, rfl, Nat.le_of_ble_eq_true rfl⟩ rfl rfl (c_need (dd := d) (hd := by omega) (hW := hW32) (g := 1) (ln := ln1) (e_ln := show G27 9 = ln1 from ((hF33.1 9 rfl).trans ((hF7.1 9 rfl).trans (ex_ln1)))) (le := A 4 (ln1).toNat) (e_le := show A28 4 (ln1).toNat = A 4 (ln1).toNat from (congrFun ((hF33.2 4 rfl).trans ((hF7.2 4 rfl).trans (hFx.2 4 rfl))) _)) (at0 := at2_29) (e_at0 := show G27 10 = at2_29 from (e34)) (fk := fk2_5) (e_fk := show G27 16 = fk2_5 from ((hF33.1 16 rfl).trans (e9))) (tk0 := tk2_30) (e_tk0 := show G27 11 = tk2_30 from (e35))  (h_g := ⟨(by decide), (by decide)⟩)  (p_0 := by omega)) (fun o V' hq => ?_)
          obtain ⟨G54, A55, at2_56, tk2_57, fk2_58, rfl, rfl, hW59, hF60, e61, e62, e63, p64, p65, q66⟩ := hq
          have hF67 := Fr_tr hF42 hF60 (Fr_sub (by decide)) (Fr_sub (by decide))
          have hP68 := Pf_f hP43 hF60 (by decide)
          have hS69 := Fx_f hS44 hF60 (by decide)
          have hV70 := Fx_f hV45 hF60 (by decide)
          have sf71 : wB A55 Vs pb (nd) (nd1) (sy) (sy1) := (show A55 = A28 from funext (fun k => hF60.2 k rfl)) ▸ sf46
          have bat2_56 : (0 : Int) ≤ at2_56 ∧ at2_56 ≤ 3002 := e61 ▸ hW59.1 10
          have ztk2_57 := tz_b tk2_57
          have btk2_57 : (0 : Int) ≤ tk2_57 ∧ tk2_57 ≤ 5 := e62 ▸ hW59.1 11
          have bfk2_58 : (0 : Int) ≤ fk2_58 ∧ fk2_58 ≤ 6 := e63 ▸ hW59.1 16
          refine .inl ⟨rfl, ?_⟩
          rcases q66 with ⟨a72, a73, a74, a75⟩ | ⟨a76, a77, a78, a79⟩
          · have _q : True := trivial
            refine jx_ld (pc' := 42) (l' := L) (st' := [.ref 66]) rfl (jl_aloadn gL_0) ?_
            refine jx_vr (pc' := 45) (as := []) (st := []) rfl rfl rfl rfl ⟨rfl, rfl, Nat.le_of_ble_eq_true rfl⟩ rfl rfl (c_bad (dd := d) (hd := by omega) (hW := hW59)  (fk := fk2_58) (e_fk := show G54 16 = fk2_58 from (e63))    ) (fun o V' hq => ?_)
            obtain ⟨r80, rfl, rfl, b81, q82⟩ := hq
            refine .inr ⟨_, rfl, ?_⟩
            rcases q82 with ⟨rfl, a83⟩ | ⟨rfl, a84⟩
            · have _q : True := trivial
              refine jx_if_ne (pc' := 48) (tg := 89) rfl rfl rfl (by decide) (by decide) (fun h85 => ?_) (fun h85 => ?_)
              · have _q := h85
                refine jx_ld (pc' := 90) (l' := L) (st' := [.ref 66]) rfl (jl_aloadn gL_0) ?_
                refine jx_ar (pc' := 91) (st' := [.int (i32 (0)), .ref 66]) rfl rfl rfl rfl ?_
                refine jx_ar (pc' := 92) (st' := [.int (i32 (5)), .int (i32 (0)), .ref 66]) rfl rfl rfl rfl ?_
                have b86 : (-2147483648 : Int) ≤ G54 13 ∧ G54 13 ≤ 2147483647 := hW59.1 13
                refine jx_vr (pc' := 95) (as := [.int (i32 (0)), .int (i32 (5))]) (st := []) rfl rfl rfl rfl ⟨rfl, rfl, Nat.le_of_ble_eq_true rfl⟩ rfl rfl (c_needNumber2 (dd := d) (hd := by omega) (hW := hW59) (lo := 0) (hi := 5) (ln := ln1) (e_ln := show G54 9 = ln1 from ((hF60.1 9 rfl).trans ((hF33.1 9 rfl).trans ((hF7.1 9 rfl).trans (ex_ln1))))) (le := A 4 (ln1).toNat) (e_le := show A55 4 (ln1).toNat = A 4 (ln1).toNat from (congrFun ((hF60.2 4 rfl).trans ((hF33.2 4 rfl).trans ((hF7.2 4 rfl).trans (hFx.2 4 rfl)))) _)) (at0 := at2_56) (e_at0 := show G54 10 = at2_56 from (e61)) (fk := fk2_58) (e_fk := show G54 16 = fk2_58 from (e63)) (tk0 := tk2_57) (e_tk0 := show G54 11 = tk2_57 from (e62)) (tn := G54 13) (e_tn := show G54 13 = G54 13 from rfl)  (h_lo := ⟨(by decide), (by decide)⟩) (h_hi := ⟨(by decide), (by decide)⟩)  (p_0 := by omega)) (fun o V' hq => ?_)
                obtain ⟨G87, A88, r89, at2_90, tk2_91, fk2_92, rfl, rfl, hW93, hF94, b95, e96, e97, e98, p99, p100, q101⟩ := hq
                have hF102 := Fr_tr hF67 hF94 (Fr_sub (by decide)) (Fr_sub (by decide))
                have hP103 := Pf_f hP68 hF94 (by decide)
                have hS104 := Fx_f hS69 hF94 (by decide)
                have hV105 := Fx_f hV70 hF94 (by decide)
                have sf106 : wB A88 Vs pb (nd) (nd1) (sy) (sy1) := (show A88 = A55 from funext (fun k => hF94.2 k rfl)) ▸ sf71
                have bat2_90 : (0 : Int) ≤ at2_90 ∧ at2_90 ≤ 3002 := e96 ▸ hW93.1 10
                have ztk2_91 := tz_b tk2_91
                have btk2_91 : (0 : Int) ≤ tk2_91 ∧ tk2_91 ≤ 5 := e97 ▸ hW93.1 11
                have bfk2_92 : (0 : Int) ≤ fk2_92 ∧ fk2_92 ≤ 6 := e98 ▸ hW93.1 16
                refine .inr ⟨_, rfl, ?_⟩
                rcases q101 with ⟨a107, a108, a109, a110⟩ | ⟨a111, a112, a113, a114, a115, a116, a117⟩
                · have _q : True := trivial
                  refine jx_ld (pc' := 96) (l' := jSto1 L 2 (.int (i32 (r89)))) (st' := []) rfl rfl ?_
                  obtain ⟨L118, eL118⟩ : ∃ q, q = jSto1 L 2 (.int (i32 (r89))) := ⟨_, rfl⟩
                  rw [← eL118]
                  have gL118_0 : jGet L118 0 = some (.ref 66) := eL118 ▸ jg_ne (by decide) gL_0 rfl
                  have gL118_1 : jGet L118 1 = some (.int (i32 (many))) := eL118 ▸ jg_ne (by decide) gL_1 rfl
                  have gL118_2 : jGet L118 2 = some (.int (i32 (r89))) := eL118 ▸ jg_eq
                  refine jx_ld (pc' := 97) (l' := L118) (st' := [.ref 66]) rfl (jl_aloadn gL118_0) ?_
                  refine jx_vr (pc' := 100) (as := []) (st := []) rfl rfl rfl rfl ⟨rfl, rfl, Nat.le_of_ble_eq_true rfl⟩ rfl rfl (c_endLine (dd := d) (hd := by omega) (hW := hW93)  (ln := ln1) (e_ln := show G87 9 = ln1 from ((hF94.1 9 rfl).trans ((hF60.1 9 rfl).trans ((hF33.1 9 rfl).trans ((hF7.1 9 rfl).trans (ex_ln1)))))) (li := li) (e_li := show G87 3 = li from ((hF94.1 3 rfl).trans ((hF60.1 3 rfl).trans ((hF33.1 3 rfl).trans ((hF7.1 3 rfl).trans ((hFx.1 3 rfl).trans (e_li))))))) (fk := fk2_92) (e_fk := show G87 16 = fk2_92 from (e98)) (tk0 := tk2_91) (e_tk0 := show G87 11 = tk2_91 from (e97))    (p_0 := by omega)) (fun o V' hq => ?_)
                  obtain ⟨G119, A120, ln2_121, fk2_122, rfl, rfl, hW123, hF124, e125, e126, q127⟩ := hq
                  have hF128 := Fr_tr hF102 hF124 (Fr_sub (by decide)) (Fr_sub (by decide))
                  have hP129 := Pf_f hP103 hF124 (by decide)
                  have hS130 := Fx_f hS104 hF124 (by decide)
                  have hV131 := Fx_f hV105 hF124 (by decide)
                  have sf132 : wB A120 Vs pb (nd) (nd1) (sy) (sy1) := (show A120 = A88 from funext (fun k => hF124.2 k rfl)) ▸ sf106
                  have bln2_121 : (0 : Int) ≤ ln2_121 ∧ ln2_121 ≤ 3000 := e125 ▸ hW123.1 9
                  have bfk2_122 : (0 : Int) ≤ fk2_122 ∧ fk2_122 ≤ 6 := e126 ▸ hW123.1 16
                  refine .inl ⟨rfl, ?_⟩
                  rcases q127 with ⟨a133, a134, a135, a136, a137⟩ | ⟨a138, a139⟩
                  · have _q : True := trivial
                    exfalso
                    omega
                  · have _q : True := trivial
                    refine jx_ld (pc' := 101) (l' := L118) (st' := [.ref 66]) rfl (jl_aloadn gL118_0) ?_
                    refine jx_vr (pc' := 104) (as := []) (st := []) rfl rfl rfl rfl ⟨rfl, rfl, Nat.le_of_ble_eq_true rfl⟩ rfl rfl (c_bad (dd := d) (hd := by omega) (hW := hW123)  (fk := fk2_122) (e_fk := show G119 16 = fk2_122 from (e126))    ) (fun o V' hq => ?_)
                    obtain ⟨r140, rfl, rfl, b141, q142⟩ := hq
                    refine .inr ⟨_, rfl, ?_⟩
                    rcases q142 with ⟨rfl, a143⟩ | ⟨rfl, a144⟩
                    · have _q : True := trivial
                      refine jx_if_eq (pc' := 107) (tg := 108) rfl rfl rfl (by decide) (by decide) (fun h145 => ?_) (fun h145 => ?_)
                      · have _q := h145
                        exact absurd h145 (by omega)
                      · have _q := h145
                        refine jx_rt (v := none) rfl rfl rfl rfl rfl rfl ?_
                        exact ⟨_, _, ln2_121, at2_90, fk2_122, nd1, sy1, na1, vi, A 3 (ln2_121).toNat, rfl, rfl, hW123, hF128, hP129, hS130, hV131, (e125), ((hF124.1 10 rfl).trans (e96)), (e126), ((hF124.1 31 rfl).trans ((hF94.1 31 rfl).trans ((hF60.1 31 rfl).trans ((hF33.1 31 rfl).trans ((hF7.1 31 rfl).trans (ex_nd1)))))), ((hF124.1 19 rfl).trans ((hF94.1 19 rfl).trans ((hF60.1 19 rfl).trans ((hF33.1 19 rfl).trans ((hF7.1 19 rfl).trans (ex_sy1)))))), ((hF124.1 28 rfl).trans ((hF94.1 28 rfl).trans ((hF60.1 28 rfl).trans ((hF33.1 28 rfl).trans ((hF7.1 28 rfl).trans (ex_na1)))))), ((hF124.1 29 rfl).trans ((hF94.1 29 rfl).trans ((hF60.1 29 rfl).trans ((hF33.1 29 rfl).trans ((hF7.1 29 rfl).trans (fx_29)))))), (congrFun ((hF124.2 3 rfl).trans ((hF94.2 3 rfl).trans ((hF60.2 3 rfl).trans ((hF33.2 3 rfl).trans ((hF7.2 3 rfl).trans (hFx.2 3 rfl)))))) _), by omega, by omega, by omega, by omega, by omega, by omega, by first | exact Or.inl (by omega)⟩
                    · have _q : True := trivial
                      exfalso
                      omega
                · have _q : True := trivial
                  exfalso
                  omega
              · have _q := h85
                exact absurd h85 (by omega)
            · have _q : True := trivial
              exfalso
              omega
          · have _q : True := trivial
            refine jx_ld (pc' := 42) (l' := L) (st' := [.ref 66]) rfl (jl_aloadn gL_0) ?_
            refine jx_vr (pc' := 45) (as := []) (st := []) rfl rfl rfl rfl ⟨rfl, rfl, Nat.le_of_ble_eq_true rfl⟩ rfl rfl (c_bad (dd := d) (hd := by omega) (hW := hW59)  (fk := fk2_58) (e_fk := show G54 16 = fk2_58 from (e63))    ) (fun o V' hq => ?_)
            obtain ⟨r146, rfl, rfl, b147, q148⟩ := hq
            refine .inr ⟨_, rfl, ?_⟩
            rcases q148 with ⟨rfl, a149⟩ | ⟨rfl, a150⟩
            · have _q : True := trivial
              exfalso
              omega
            · have _q : True := trivial
              refine jx_if_ne (pc' := 48) (tg := 89) rfl rfl rfl (by decide) (by decide) (fun h151 => ?_) (fun h151 => ?_)
              · have _q := h151
                exact absurd h151 (by omega)
              · have _q := h151
                refine jx_ld (pc' := 49) (l' := L) (st' := [.ref 66]) rfl (jl_aloadn gL_0) ?_
                have z152 := tz_f (tk2_57)
                refine jr_get (pc' := 52) (i := 11) (v := .int (i32 (tk2_57))) rfl rfl (by decide) (rFv_eq (by decide) (show G54 11 = tk2_57 from (e62))) rfl ?_
                refine jx_ar (pc' := 53) (st' := [.int (i32 (3)), .int (i32 (tk2_57))]) rfl rfl rfl rfl ?_
                refine jx_icmp_ne (pc' := 56) (tg := 89) rfl rfl rfl (Int.le_trans (by decide : (-2147483648 : Int) ≤ 0) btk2_57.1) (Int.le_trans btk2_57.2 (by decide : (5 : Int) ≤ 2147483647)) (by decide) (by decide) (fun h153 => ?_) (fun h153 => ?_)
                · have _q := h153
                  refine jx_ld (pc' := 90) (l' := L) (st' := [.ref 66]) rfl (jl_aloadn gL_0) ?_
                  refine jx_ar (pc' := 91) (st' := [.int (i32 (0)), .ref 66]) rfl rfl rfl rfl ?_
                  refine jx_ar (pc' := 92) (st' := [.int (i32 (5)), .int (i32 (0)), .ref 66]) rfl rfl rfl rfl ?_
                  have b154 : (-2147483648 : Int) ≤ G54 13 ∧ G54 13 ≤ 2147483647 := hW59.1 13
                  refine jx_vr (pc' := 95) (as := [.int (i32 (0)), .int (i32 (5))]) (st := []) rfl rfl rfl rfl ⟨rfl, rfl, Nat.le_of_ble_eq_true rfl⟩ rfl rfl (c_needNumber2 (dd := d) (hd := by omega) (hW := hW59) (lo := 0) (hi := 5) (ln := ln1) (e_ln := show G54 9 = ln1 from ((hF60.1 9 rfl).trans ((hF33.1 9 rfl).trans ((hF7.1 9 rfl).trans (ex_ln1))))) (le := A 4 (ln1).toNat) (e_le := show A55 4 (ln1).toNat = A 4 (ln1).toNat from (congrFun ((hF60.2 4 rfl).trans ((hF33.2 4 rfl).trans ((hF7.2 4 rfl).trans (hFx.2 4 rfl)))) _)) (at0 := at2_56) (e_at0 := show G54 10 = at2_56 from (e61)) (fk := fk2_58) (e_fk := show G54 16 = fk2_58 from (e63)) (tk0 := tk2_57) (e_tk0 := show G54 11 = tk2_57 from (e62)) (tn := G54 13) (e_tn := show G54 13 = G54 13 from rfl)  (h_lo := ⟨(by decide), (by decide)⟩) (h_hi := ⟨(by decide), (by decide)⟩)  (p_0 := by omega)) (fun o V' hq => ?_)
                  obtain ⟨G155, A156, r157, at2_158, tk2_159, fk2_160, rfl, rfl, hW161, hF162, b163, e164, e165, e166, p167, p168, q169⟩ := hq
                  have hF170 := Fr_tr hF67 hF162 (Fr_sub (by decide)) (Fr_sub (by decide))
                  have hP171 := Pf_f hP68 hF162 (by decide)
                  have hS172 := Fx_f hS69 hF162 (by decide)
                  have hV173 := Fx_f hV70 hF162 (by decide)
                  have sf174 : wB A156 Vs pb (nd) (nd1) (sy) (sy1) := (show A156 = A55 from funext (fun k => hF162.2 k rfl)) ▸ sf71
                  have bat2_158 : (0 : Int) ≤ at2_158 ∧ at2_158 ≤ 3002 := e164 ▸ hW161.1 10
                  have ztk2_159 := tz_b tk2_159
                  have btk2_159 : (0 : Int) ≤ tk2_159 ∧ tk2_159 ≤ 5 := e165 ▸ hW161.1 11
                  have bfk2_160 : (0 : Int) ≤ fk2_160 ∧ fk2_160 ≤ 6 := e166 ▸ hW161.1 16
                  refine .inr ⟨_, rfl, ?_⟩
                  rcases q169 with ⟨a175, a176, a177, a178⟩ | ⟨a179, a180, a181, a182, a183, a184, a185⟩
                  · have _q : True := trivial
                    refine jx_ld (pc' := 96) (l' := jSto1 L 2 (.int (i32 (r157)))) (st' := []) rfl rfl ?_
                    obtain ⟨L186, eL186⟩ : ∃ q, q = jSto1 L 2 (.int (i32 (r157))) := ⟨_, rfl⟩
                    rw [← eL186]
                    have gL186_0 : jGet L186 0 = some (.ref 66) := eL186 ▸ jg_ne (by decide) gL_0 rfl
                    have gL186_1 : jGet L186 1 = some (.int (i32 (many))) := eL186 ▸ jg_ne (by decide) gL_1 rfl
                    have gL186_2 : jGet L186 2 = some (.int (i32 (r157))) := eL186 ▸ jg_eq
                    refine jx_ld (pc' := 97) (l' := L186) (st' := [.ref 66]) rfl (jl_aloadn gL186_0) ?_
                    refine jx_vr (pc' := 100) (as := []) (st := []) rfl rfl rfl rfl ⟨rfl, rfl, Nat.le_of_ble_eq_true rfl⟩ rfl rfl (c_endLine (dd := d) (hd := by omega) (hW := hW161)  (ln := ln1) (e_ln := show G155 9 = ln1 from ((hF162.1 9 rfl).trans ((hF60.1 9 rfl).trans ((hF33.1 9 rfl).trans ((hF7.1 9 rfl).trans (ex_ln1)))))) (li := li) (e_li := show G155 3 = li from ((hF162.1 3 rfl).trans ((hF60.1 3 rfl).trans ((hF33.1 3 rfl).trans ((hF7.1 3 rfl).trans ((hFx.1 3 rfl).trans (e_li))))))) (fk := fk2_160) (e_fk := show G155 16 = fk2_160 from (e166)) (tk0 := tk2_159) (e_tk0 := show G155 11 = tk2_159 from (e165))    (p_0 := by omega)) (fun o V' hq => ?_)
                    obtain ⟨G187, A188, ln2_189, fk2_190, rfl, rfl, hW191, hF192, e193, e194, q195⟩ := hq
                    have hF196 := Fr_tr hF170 hF192 (Fr_sub (by decide)) (Fr_sub (by decide))
                    have hP197 := Pf_f hP171 hF192 (by decide)
                    have hS198 := Fx_f hS172 hF192 (by decide)
                    have hV199 := Fx_f hV173 hF192 (by decide)
                    have sf200 : wB A188 Vs pb (nd) (nd1) (sy) (sy1) := (show A188 = A156 from funext (fun k => hF192.2 k rfl)) ▸ sf174
                    have bln2_189 : (0 : Int) ≤ ln2_189 ∧ ln2_189 ≤ 3000 := e193 ▸ hW191.1 9
                    have bfk2_190 : (0 : Int) ≤ fk2_190 ∧ fk2_190 ≤ 6 := e194 ▸ hW191.1 16
                    refine .inl ⟨rfl, ?_⟩
                    rcases q195 with ⟨a201, a202, a203, a204, a205⟩ | ⟨a206, a207⟩
                    · have _q : True := trivial
                      exfalso
                      omega
                    · have _q : True := trivial
                      refine jx_ld (pc' := 101) (l' := L186) (st' := [.ref 66]) rfl (jl_aloadn gL186_0) ?_
                      refine jx_vr (pc' := 104) (as := []) (st := []) rfl rfl rfl rfl ⟨rfl, rfl, Nat.le_of_ble_eq_true rfl⟩ rfl rfl (c_bad (dd := d) (hd := by omega) (hW := hW191)  (fk := fk2_190) (e_fk := show G187 16 = fk2_190 from (e194))    ) (fun o V' hq => ?_)
                      obtain ⟨r208, rfl, rfl, b209, q210⟩ := hq
                      refine .inr ⟨_, rfl, ?_⟩
                      rcases q210 with ⟨rfl, a211⟩ | ⟨rfl, a212⟩
                      · have _q : True := trivial
                        refine jx_if_eq (pc' := 107) (tg := 108) rfl rfl rfl (by decide) (by decide) (fun h213 => ?_) (fun h213 => ?_)
                        · have _q := h213
                          exact absurd h213 (by omega)
                        · have _q := h213
                          refine jx_rt (v := none) rfl rfl rfl rfl rfl rfl ?_
                          exact ⟨_, _, ln2_189, at2_158, fk2_190, nd1, sy1, na1, vi, A 3 (ln2_189).toNat, rfl, rfl, hW191, hF196, hP197, hS198, hV199, (e193), ((hF192.1 10 rfl).trans (e164)), (e194), ((hF192.1 31 rfl).trans ((hF162.1 31 rfl).trans ((hF60.1 31 rfl).trans ((hF33.1 31 rfl).trans ((hF7.1 31 rfl).trans (ex_nd1)))))), ((hF192.1 19 rfl).trans ((hF162.1 19 rfl).trans ((hF60.1 19 rfl).trans ((hF33.1 19 rfl).trans ((hF7.1 19 rfl).trans (ex_sy1)))))), ((hF192.1 28 rfl).trans ((hF162.1 28 rfl).trans ((hF60.1 28 rfl).trans ((hF33.1 28 rfl).trans ((hF7.1 28 rfl).trans (ex_na1)))))), ((hF192.1 29 rfl).trans ((hF162.1 29 rfl).trans ((hF60.1 29 rfl).trans ((hF33.1 29 rfl).trans ((hF7.1 29 rfl).trans (fx_29)))))), (congrFun ((hF192.2 3 rfl).trans ((hF162.2 3 rfl).trans ((hF60.2 3 rfl).trans ((hF33.2 3 rfl).trans ((hF7.2 3 rfl).trans (hFx.2 3 rfl)))))) _), by omega, by omega, by omega, by omega, by omega, by omega, by first | exact Or.inl (by omega)⟩
                      · have _q : True := trivial
                        exfalso
                        omega
                  · have _q : True := trivial
                    refine jx_ld (pc' := 96) (l' := jSto1 L 2 (.int (i32 (r157)))) (st' := []) rfl rfl ?_
                    obtain ⟨L214, eL214⟩ : ∃ q, q = jSto1 L 2 (.int (i32 (r157))) := ⟨_, rfl⟩
                    rw [← eL214]
                    have gL214_0 : jGet L214 0 = some (.ref 66) := eL214 ▸ jg_ne (by decide) gL_0 rfl
                    have gL214_1 : jGet L214 1 = some (.int (i32 (many))) := eL214 ▸ jg_ne (by decide) gL_1 rfl
                    have gL214_2 : jGet L214 2 = some (.int (i32 (r157))) := eL214 ▸ jg_eq
                    refine jx_ld (pc' := 97) (l' := L214) (st' := [.ref 66]) rfl (jl_aloadn gL214_0) ?_
                    refine jx_vr (pc' := 100) (as := []) (st := []) rfl rfl rfl rfl ⟨rfl, rfl, Nat.le_of_ble_eq_true rfl⟩ rfl rfl (c_endLine (dd := d) (hd := by omega) (hW := hW161)  (ln := ln1) (e_ln := show G155 9 = ln1 from ((hF162.1 9 rfl).trans ((hF60.1 9 rfl).trans ((hF33.1 9 rfl).trans ((hF7.1 9 rfl).trans (ex_ln1)))))) (li := li) (e_li := show G155 3 = li from ((hF162.1 3 rfl).trans ((hF60.1 3 rfl).trans ((hF33.1 3 rfl).trans ((hF7.1 3 rfl).trans ((hFx.1 3 rfl).trans (e_li))))))) (fk := fk2_160) (e_fk := show G155 16 = fk2_160 from (e166)) (tk0 := tk2_159) (e_tk0 := show G155 11 = tk2_159 from (e165))    (p_0 := by omega)) (fun o V' hq => ?_)
                    obtain ⟨G215, A216, ln2_217, fk2_218, rfl, rfl, hW219, hF220, e221, e222, q223⟩ := hq
                    have hF224 := Fr_tr hF170 hF220 (Fr_sub (by decide)) (Fr_sub (by decide))
                    have hP225 := Pf_f hP171 hF220 (by decide)
                    have hS226 := Fx_f hS172 hF220 (by decide)
                    have hV227 := Fx_f hV173 hF220 (by decide)
                    have sf228 : wB A216 Vs pb (nd) (nd1) (sy) (sy1) := (show A216 = A156 from funext (fun k => hF220.2 k rfl)) ▸ sf174
                    have bln2_217 : (0 : Int) ≤ ln2_217 ∧ ln2_217 ≤ 3000 := e221 ▸ hW219.1 9
                    have bfk2_218 : (0 : Int) ≤ fk2_218 ∧ fk2_218 ≤ 6 := e222 ▸ hW219.1 16
                    refine .inl ⟨rfl, ?_⟩
                    rcases q223 with ⟨a229, a230, a231, a232, a233⟩ | ⟨a234, a235⟩
                    · have _q : True := trivial
                      have b236 : (0 : Int) ≤ A 3 (ln2_217).toNat ∧ A 3 (ln2_217).toNat ≤ 3000 := hW.2 3 _
                      have lt237 : ln2_217 < li → A 4 (ln1).toNat < A 3 (ln2_217).toNat := fun hh => LT_nx (LT_ext (((hF220.1 3 rfl).trans ((hF162.1 3 rfl).trans ((hF60.1 3 rfl).trans ((hF33.1 3 rfl).trans ((hF7.1 3 rfl).trans (hFx.1 3 rfl))))))) (((hF220.2 3 rfl).trans ((hF162.2 3 rfl).trans ((hF60.2 3 rfl).trans ((hF33.2 3 rfl).trans ((hF7.2 3 rfl).trans (hFx.2 3 rfl))))))) (((hF220.2 4 rfl).trans ((hF162.2 4 rfl).trans ((hF60.2 4 rfl).trans ((hF33.2 4 rfl).trans ((hF7.2 4 rfl).trans (hFx.2 4 rfl))))))) i_LT) (show G215 3 = li from ((hF220.1 3 rfl).trans ((hF162.1 3 rfl).trans ((hF60.1 3 rfl).trans ((hF33.1 3 rfl).trans ((hF7.1 3 rfl).trans ((hFx.1 3 rfl).trans (e_li)))))))) (show A216 4 (ln1).toNat = A 4 (ln1).toNat from (congrFun ((hF220.2 4 rfl).trans ((hF162.2 4 rfl).trans ((hF60.2 4 rfl).trans ((hF33.2 4 rfl).trans ((hF7.2 4 rfl).trans (hFx.2 4 rfl)))))) _)) (show A216 3 (ln2_217).toNat = A 3 (ln2_217).toNat from (congrFun ((hF220.2 3 rfl).trans ((hF162.2 3 rfl).trans ((hF60.2 3 rfl).trans ((hF33.2 3 rfl).trans ((hF7.2 3 rfl).trans (hFx.2 3 rfl)))))) _)) (show ln2_217 = ln1 + 1 by omega) (by omega) hh
                      refine jx_ld (pc' := 101) (l' := L214) (st' := [.ref 66]) rfl (jl_aloadn gL214_0) ?_
                      refine jx_vr (pc' := 104) (as := []) (st := []) rfl rfl rfl rfl ⟨rfl, rfl, Nat.le_of_ble_eq_true rfl⟩ rfl rfl (c_bad (dd := d) (hd := by omega) (hW := hW219)  (fk := fk2_218) (e_fk := show G215 16 = fk2_218 from (e222))    ) (fun o V' hq => ?_)
                      obtain ⟨r238, rfl, rfl, b239, q240⟩ := hq
                      refine .inr ⟨_, rfl, ?_⟩
                      rcases q240 with ⟨rfl, a241⟩ | ⟨rfl, a242⟩
                      · have _q : True := trivial
                        exfalso
                        omega
                      · have _q : True := trivial
                        refine jx_if_eq (pc' := 107) (tg := 108) rfl rfl rfl (by decide) (by decide) (fun h243 => ?_) (fun h243 => ?_)
                        · have _q := h243
                          refine jx_ld (pc' := 109) (l' := L214) (st' := [.ref 66]) rfl (jl_aloadn gL214_0) ?_
                          refine jr_get (pc' := 112) (i := 55) (v := .ref 103) rfl rfl (by decide) rfl rfl ?_
                          refine jx_ld (pc' := 113) (l' := L214) (st' := [.int (i32 (r157)), .ref 103]) rfl (jl_iloadn gL214_2) ?_
                          refine jx_ld (pc' := 114) (l' := L214) (st' := [.ref 66, .int (i32 (r157)), .ref 103]) rfl (jl_aloadn gL214_0) ?_
                          refine jx_ar (pc' := 115) (st' := [.int (i32 (2)), .ref 66, .int (i32 (r157)), .ref 103]) rfl rfl rfl rfl ?_
                          refine jx_vr (pc' := 118) (as := [.int (i32 (2))]) (st := [.int (i32 (r157)), .ref 103]) rfl rfl rfl rfl ⟨rfl, rfl, Nat.le_of_ble_eq_true rfl⟩ rfl rfl (RP_all X 18 (dd := d) (hd := by omega) (hW := hW219) (lv := 2) (at0 := at2_158) (ln := ln2_217) (e_ln := show G215 9 = ln2_217 from (e221)) (li := li) (e_li := show G215 3 = li from ((hF220.1 3 rfl).trans ((hF162.1 3 rfl).trans ((hF60.1 3 rfl).trans ((hF33.1 3 rfl).trans ((hF7.1 3 rfl).trans ((hFx.1 3 rfl).trans (e_li)))))))) (fk := fk2_218) (e_fk := show G215 16 = fk2_218 from (e222)) (nd := nd1) (e_nd := show G215 31 = nd1 from ((hF220.1 31 rfl).trans ((hF162.1 31 rfl).trans ((hF60.1 31 rfl).trans ((hF33.1 31 rfl).trans ((hF7.1 31 rfl).trans (ex_nd1))))))) (sy := sy1) (e_sy := show G215 19 = sy1 from ((hF220.1 19 rfl).trans ((hF162.1 19 rfl).trans ((hF60.1 19 rfl).trans ((hF33.1 19 rfl).trans ((hF7.1 19 rfl).trans (ex_sy1))))))) (na := na1) (e_na := show G215 28 = na1 from ((hF220.1 28 rfl).trans ((hF162.1 28 rfl).trans ((hF60.1 28 rfl).trans ((hF33.1 28 rfl).trans ((hF7.1 28 rfl).trans (ex_na1))))))) (vi := vi) (e_vi := show G215 29 = vi from ((hF220.1 29 rfl).trans ((hF162.1 29 rfl).trans ((hF60.1 29 rfl).trans ((hF33.1 29 rfl).trans ((hF7.1 29 rfl).trans (fx_29))))))) (lf := A 3 (ln2_217).toNat) (e_lf := show A216 3 (ln2_217).toNat = A 3 (ln2_217).toNat from (congrFun ((hF220.2 3 rfl).trans ((hF162.2 3 rfl).trans ((hF60.2 3 rfl).trans ((hF33.2 3 rfl).trans ((hF7.2 3 rfl).trans (hFx.2 3 rfl)))))) _)) (ac := at2_158) (e_ac := show G215 10 = at2_158 from ((hF220.1 10 rfl).trans (e164))) (i_LT := (LT_ext (((hF220.1 3 rfl).trans ((hF162.1 3 rfl).trans ((hF60.1 3 rfl).trans ((hF33.1 3 rfl).trans ((hF7.1 3 rfl).trans (hFx.1 3 rfl))))))) (((hF220.2 3 rfl).trans ((hF162.2 3 rfl).trans ((hF60.2 3 rfl).trans ((hF33.2 3 rfl).trans ((hF7.2 3 rfl).trans (hFx.2 3 rfl))))))) (((hF220.2 4 rfl).trans ((hF162.2 4 rfl).trans ((hF60.2 4 rfl).trans ((hF33.2 4 rfl).trans ((hF7.2 4 rfl).trans (hFx.2 4 rfl))))))) i_LT)) (i_SV := (SV_fx i_SV e_vi (show G215 29 = vi from ((hF220.1 29 rfl).trans ((hF162.1 29 rfl).trans ((hF60.1 29 rfl).trans ((hF33.1 29 rfl).trans ((hF7.1 29 rfl).trans (fx_29))))))) (by omega) hV227)) (i_PQ := (PQ_fx i_PQ hS226 (by omega) (hF224.2 29 rfl) (hF224.2 30 rfl))) (hvb := hvb) (h_lv := ⟨(by decide), (by decide)⟩)  (p_0 := by omega) (p_1 := by omega) (p_2 := by omega) (p_3 := by omega) (p_4 := by omega) (p_5 := by omega) (p_6 := by omega) (p_7 := by omega) (p_8 := by omega) (p_9 := by omega) (p_10 := by omega)) (fun o V' hq => ?_)
                          obtain ⟨G244, A245, r246, ln2_247, at2_248, fk2_249, nd2_250, sy2_251, na2_252, vi2_253, lf2_254, rfl, rfl, hW255, hF256, hQ257, hQ258, hQ259, b260, e261, e262, e263, e264, e265, e266, e267, e268, p269, p270, p271, p272, p273, p274, p275, p276, p277, q278⟩ := hq
                          have hF279 := Fr_tr hF224 hF256 (Fr_sub (by decide)) (Fr_sub (by decide))
                          have hP280 := Pf_tr hP225 hQ257 (by omega)
                          have hS281 := Fx_tr hS226 hQ258 (by omega)
                          have hV282 := Fx_tr hV227 hQ259 (by omega)
                          have sf283 : wB A245 Vs pb (nd) (nd1) (sy) (sy1) := wB_fx (fun k j hk hj => hQ257 k j hk (by omega)) (Fx_su hQ258 (by omega)) (Qg_fx (Fx_f (w := pb) Fx_rf hF256 (by decide)) (by omega)) (hF256.2 36 rfl) (by omega) sf228
                          have bln2_247 : (0 : Int) ≤ ln2_247 ∧ ln2_247 ≤ 3000 := e261 ▸ hW255.1 9
                          have bat2_248 : (0 : Int) ≤ at2_248 ∧ at2_248 ≤ 3002 := e262 ▸ hW255.1 10
                          have bfk2_249 : (0 : Int) ≤ fk2_249 ∧ fk2_249 ≤ 6 := e263 ▸ hW255.1 16
                          have bnd2_250 : (0 : Int) ≤ nd2_250 ∧ nd2_250 ≤ 6999 := e264 ▸ hW255.1 31
                          have bsy2_251 : (0 : Int) ≤ sy2_251 ∧ sy2_251 ≤ 202 := e265 ▸ hW255.1 19
                          have bna2_252 : (0 : Int) ≤ na2_252 ∧ na2_252 ≤ 200 := e266 ▸ hW255.1 28
                          have bvi2_253 : (0 : Int) ≤ vi2_253 ∧ vi2_253 ≤ 202 := e267 ▸ hW255.1 29
                          have blf2_254 : (0 : Int) ≤ lf2_254 ∧ lf2_254 ≤ 3000 := e268 ▸ hW255.2 3 _
                          refine .inr ⟨_, rfl, ?_⟩
                          rcases q278 with ⟨a284, a285⟩ | ⟨a286, a287, a288, a289, a290, a291, a292, a293⟩
                          · have _q : True := trivial
                            refine jr_st (pc' := 119) (i := 36) (m := 6) (z := r157) (y := r246) rfl (by decide) rfl (by decide) (by omega) (by omega) rfl ?_
                            have hW295 : Wk G244 (uA A245 36 (r157).toNat (r246)) := Wk_a hW255 (show (-2147483648 : Int) ≤ r246 by omega) (show r246 ≤ (2147483647 : Int) by omega)
                            have hF296 := Fr_a (z := r246) (k := 36) (n := (r157).toNat) hF279 (by decide)
                            obtain ⟨A294, eA294⟩ : ∃ q, q = uA A245 36 (r157).toNat (r246) := ⟨_, rfl⟩
                            rw [← eA294]
                            rw [← eA294] at hW295 hF296
                            have q297 : A294 36 (r157).toNat = r246 := by rw [eA294]; exact uA_eq
                            have hP298 : Pf nd A A294 := eA294 ▸ Pf_n hP280 rfl
                            have hS299 : Fx sr (sy) A A294 := eA294 ▸ Fx_n hS281 rfl
                            have hV300 : Fx [14] (vi) A A294 := eA294 ▸ Fx_n hV282 rfl
                            refine jx_inc (pc' := 122) (l' := jSto1 L214 1 (.int (i32 ((many + (1)))))) (x := many) rfl gL214_1 (by decide) rfl rfl ?_
                            obtain ⟨L301, eL301⟩ : ∃ q, q = jSto1 L214 1 (.int (i32 ((many + (1))))) := ⟨_, rfl⟩
                            rw [← eL301]
                            have gL301_0 : jGet L301 0 = some (.ref 66) := eL301 ▸ jg_ne (by decide) gL214_0 rfl
                            have gL301_2 : jGet L301 2 = some (.int (i32 (r157))) := eL301 ▸ jg_ne (by decide) gL214_2 rfl
                            have gL301_1 : jGet L301 1 = some (.int (i32 ((many + (1))))) := eL301 ▸ jg_eq
                            refine jx_go (tg := 19) rfl rfl ?_
                            refine jx_ld (pc' := 20) (l' := L301) (st' := [.ref 66]) rfl (jl_aloadn gL301_0) ?_
                            refine jx_ar (pc' := 21) (st' := [.int (i32 (0)), .ref 66]) rfl rfl rfl rfl ?_
                            have b302 : (-1 : Int) ≤ A 5 (ln2_247).toNat ∧ A 5 (ln2_247).toNat ≤ 15 := hW.2 5 _
                            refine jx_vr (pc' := 24) (as := [.int (i32 (0))]) (st := []) rfl rfl rfl rfl ⟨rfl, rfl, Nat.le_of_ble_eq_true rfl⟩ rfl rfl (c_isBelow (dd := d) (hd := by omega) (hW := hW295) (lv := 0) (ln := ln2_247) (e_ln := show G244 9 = ln2_247 from (e261)) (li := li) (e_li := show G244 3 = li from ((hF256.1 3 rfl).trans ((hF220.1 3 rfl).trans ((hF162.1 3 rfl).trans ((hF60.1 3 rfl).trans ((hF33.1 3 rfl).trans ((hF7.1 3 rfl).trans ((hFx.1 3 rfl).trans (e_li))))))))) (fk := fk2_249) (e_fk := show G244 16 = fk2_249 from (e263)) (ll := A 5 (ln2_247).toNat) (e_ll := show A294 5 (ln2_247).toNat = A 5 (ln2_247).toNat from (congrFun (((congrFun eA294 5).trans (uA_ne (by decide))).trans ((hF256.2 5 rfl).trans ((hF220.2 5 rfl).trans ((hF162.2 5 rfl).trans ((hF60.2 5 rfl).trans ((hF33.2 5 rfl).trans ((hF7.2 5 rfl).trans (hFx.2 5 rfl)))))))) _))  (h_lv := ⟨(by decide), (by decide)⟩)  (p_0 := by omega)) (fun o V' hq => ?_)
                            obtain ⟨G303, A304, r305, fk2_306, rfl, rfl, hW307, hF308, b309, e310, q311⟩ := hq
                            have hF312 := Fr_tr hF296 hF308 (Fr_sub (by decide)) (Fr_sub (by decide))
                            have hP313 := Pf_f hP298 hF308 (by decide)
                            have hS314 := Fx_f hS299 hF308 (by decide)
                            have hV315 := Fx_f hV300 hF308 (by decide)
                            have bfk2_306 : (0 : Int) ≤ fk2_306 ∧ fk2_306 ≤ 6 := e310 ▸ hW307.1 16
                            refine .inr ⟨_, rfl, ?_⟩
                            rcases q311 with ⟨rfl, a316, a317, a318, a319⟩ | ⟨rfl, a320⟩ | ⟨rfl, a321, a322, a323⟩
                            · have _q : True := trivial
                              exfalso
                              omega
                            · have _q : True := trivial
                              refine jx_if_eq (pc' := 27) (tg := 125) rfl rfl rfl (by decide) (by decide) (fun h324 => ?_) (fun h324 => ?_)
                              · have _q := h324
                                refine jx_ld (pc' := 126) (l' := L301) (st' := [.ref 66]) rfl (jl_aloadn gL301_0) ?_
                                refine jx_vr (pc' := 129) (as := []) (st := []) rfl rfl rfl rfl ⟨rfl, rfl, Nat.le_of_ble_eq_true rfl⟩ rfl rfl (c_bad (dd := d) (hd := by omega) (hW := hW307)  (fk := fk2_306) (e_fk := show G303 16 = fk2_306 from (e310))    ) (fun o V' hq => ?_)
                                obtain ⟨r325, rfl, rfl, b326, q327⟩ := hq
                                refine .inr ⟨_, rfl, ?_⟩
                                rcases q327 with ⟨rfl, a328⟩ | ⟨rfl, a329⟩
                                · have _q : True := trivial
                                  refine jx_if_ne (pc' := 132) (tg := 142) rfl rfl rfl (by decide) (by decide) (fun h330 => ?_) (fun h330 => ?_)
                                  · have _q := h330
                                    refine jx_rt (v := none) rfl rfl rfl rfl rfl rfl ?_
                                    exact ⟨_, _, ln2_247, at2_248, fk2_306, nd2_250, sy2_251, na2_252, vi2_253, lf2_254, rfl, rfl, hW307, hF312, hP313, hS314, hV315, ((hF308.1 9 rfl).trans (e261)), ((hF308.1 10 rfl).trans (e262)), (e310), ((hF308.1 31 rfl).trans (e264)), ((hF308.1 19 rfl).trans (e265)), ((hF308.1 28 rfl).trans (e266)), ((hF308.1 29 rfl).trans (e267)), (congrFun ((hF308.2 3 rfl).trans ((congrFun eA294 3).trans (uA_ne (by decide)))) _).trans (e268), by omega, by omega, by omega, by omega, by omega, by omega, by first | exact Or.inl (by omega)⟩
                                  · have _q := h330
                                    exact absurd h330 (by omega)
                                · have _q : True := trivial
                                  exfalso
                                  omega
                              · have _q := h324
                                exact absurd h324 (by omega)
                            · have _q : True := trivial
                              exfalso
                              omega
                          · have _q : True := trivial
                            refine jr_st (pc' := 119) (i := 36) (m := 6) (z := r157) (y := r246) rfl (by decide) rfl (by decide) (by omega) (by omega) rfl ?_
                            have hW332 : Wk G244 (uA A245 36 (r157).toNat (r246)) := Wk_a hW255 (show (-2147483648 : Int) ≤ r246 by omega) (show r246 ≤ (2147483647 : Int) by omega)
                            have hF333 := Fr_a (z := r246) (k := 36) (n := (r157).toNat) hF279 (by decide)
                            obtain ⟨A331, eA331⟩ : ∃ q, q = uA A245 36 (r157).toNat (r246) := ⟨_, rfl⟩
                            rw [← eA331]
                            rw [← eA331] at hW332 hF333
                            have q334 : A331 36 (r157).toNat = r246 := by rw [eA331]; exact uA_eq
                            have hP335 : Pf nd A A331 := eA331 ▸ Pf_n hP280 rfl
                            have hS336 : Fx sr (sy) A A331 := eA331 ▸ Fx_n hS281 rfl
                            have hV337 : Fx [14] (vi) A A331 := eA331 ▸ Fx_n hV282 rfl
                            have sf338 : wB A331 Vs pb (nd) (nd2_250) (sy) (sy2_251) := wB_add eA331 sf283 (by omega) (by omega) (by omega) a292 (by omega) (by omega) rfl (by omega) (by omega) (by omega) (by omega) rfl
                            have sf339 : wP A331 (sy2_251) pb (18) (Vs) (r246) (nd1) (nd2_250) (sy1) (sy2_251) := wP_ag (Sg_ne eA331 rfl) (Qg_ne eA331 rfl) (by omega) (by omega) (Ax_ag (Ag_ne eA331 rfl)) a292
                            have sf340 : NX A331 (r246) := NX_r eA331 (by decide) a293
                            refine jx_inc (pc' := 122) (l' := jSto1 L214 1 (.int (i32 ((many + (1)))))) (x := many) rfl gL214_1 (by decide) rfl rfl ?_
                            obtain ⟨L341, eL341⟩ : ∃ q, q = jSto1 L214 1 (.int (i32 ((many + (1))))) := ⟨_, rfl⟩
                            rw [← eL341]
                            have gL341_0 : jGet L341 0 = some (.ref 66) := eL341 ▸ jg_ne (by decide) gL214_0 rfl
                            have gL341_2 : jGet L341 2 = some (.int (i32 (r157))) := eL341 ▸ jg_ne (by decide) gL214_2 rfl
                            have gL341_1 : jGet L341 1 = some (.int (i32 ((many + (1))))) := eL341 ▸ jg_eq
                            refine jx_go (tg := 19) rfl rfl ?_
                            exact ih19 _ (by omega) L341 G244 A331 ((many + (1))) (ln2_247) (at2_248) (fk2_249) (nd2_250) (sy2_251) (na2_252) (lf2_254) rfl gL341_0 gL341_1 hW332 hF333 hP335 hS336 hV337 ((e261)) ((e262)) ((e263)) ((e264)) ((e265)) ((e266)) ((congrFun ((congrFun eA331 3).trans (uA_ne (by decide))) _).trans (e268)) (Eq.trans (show G244 29 = vi2_253 from (e267)) (by omega)) (by omega) (by omega) (by omega) (by omega) (by omega) (by omega) (by omega) (by omega) (by omega) (by omega) (by omega) (by omega) (sf338)
                        · have _q := h243
                          exact absurd h243 (by omega)
                    · have _q : True := trivial
                      refine jx_ld (pc' := 101) (l' := L214) (st' := [.ref 66]) rfl (jl_aloadn gL214_0) ?_
                      refine jx_vr (pc' := 104) (as := []) (st := []) rfl rfl rfl rfl ⟨rfl, rfl, Nat.le_of_ble_eq_true rfl⟩ rfl rfl (c_bad (dd := d) (hd := by omega) (hW := hW219)  (fk := fk2_218) (e_fk := show G215 16 = fk2_218 from (e222))    ) (fun o V' hq => ?_)
                      obtain ⟨r342, rfl, rfl, b343, q344⟩ := hq
                      refine .inr ⟨_, rfl, ?_⟩
                      rcases q344 with ⟨rfl, a345⟩ | ⟨rfl, a346⟩
                      · have _q : True := trivial
                        refine jx_if_eq (pc' := 107) (tg := 108) rfl rfl rfl (by decide) (by decide) (fun h347 => ?_) (fun h347 => ?_)
                        · have _q := h347
                          exact absurd h347 (by omega)
                        · have _q := h347
                          refine jx_rt (v := none) rfl rfl rfl rfl rfl rfl ?_
                          exact ⟨_, _, ln2_217, at2_158, fk2_218, nd1, sy1, na1, vi, A 3 (ln2_217).toNat, rfl, rfl, hW219, hF224, hP225, hS226, hV227, (e221), ((hF220.1 10 rfl).trans (e164)), (e222), ((hF220.1 31 rfl).trans ((hF162.1 31 rfl).trans ((hF60.1 31 rfl).trans ((hF33.1 31 rfl).trans ((hF7.1 31 rfl).trans (ex_nd1)))))), ((hF220.1 19 rfl).trans ((hF162.1 19 rfl).trans ((hF60.1 19 rfl).trans ((hF33.1 19 rfl).trans ((hF7.1 19 rfl).trans (ex_sy1)))))), ((hF220.1 28 rfl).trans ((hF162.1 28 rfl).trans ((hF60.1 28 rfl).trans ((hF33.1 28 rfl).trans ((hF7.1 28 rfl).trans (ex_na1)))))), ((hF220.1 29 rfl).trans ((hF162.1 29 rfl).trans ((hF60.1 29 rfl).trans ((hF33.1 29 rfl).trans ((hF7.1 29 rfl).trans (fx_29)))))), (congrFun ((hF220.2 3 rfl).trans ((hF162.2 3 rfl).trans ((hF60.2 3 rfl).trans ((hF33.2 3 rfl).trans ((hF7.2 3 rfl).trans (hFx.2 3 rfl)))))) _), by omega, by omega, by omega, by omega, by omega, by omega, by first | exact Or.inl (by omega)⟩
                      · have _q : True := trivial
                        exfalso
                        omega
                · have _q := h153
                  refine jx_ld (pc' := 57) (l' := L) (st' := [.ref 66]) rfl (jl_aloadn gL_0) ?_
                  have b348 : (-2147483648 : Int) ≤ G54 13 ∧ G54 13 ≤ 2147483647 := hW59.1 13
                  refine jr_get (pc' := 60) (i := 13) (v := .int (i32 (G54 13))) rfl rfl (by decide) rfl rfl ?_
                  refine jx_ar (pc' := 61) (st' := [.int (i32 (0)), .int (i32 (G54 13))]) rfl rfl rfl rfl ?_
                  refine jx_ar (pc' := 62) (st' := [.int (i32 (5)), .int (i32 (0)), .int (i32 (G54 13))]) rfl rfl rfl rfl ?_
                  refine jx_st (pc' := 65) (as := [.int (i32 (G54 13)), .int (i32 (0)), .int (i32 (5))]) (st := []) rfl rfl ⟨rfl, Nat.le_of_ble_eq_true rfl⟩ rfl rfl rfl (c_in (dd := d) (hd := by omega) (v := G54 13) (a := 0) (b := 5)   (h_v := ⟨(Int.le_trans (by decide : (-2147483648 : Int) ≤ -2147483648) b348.1), (Int.le_trans b348.2 (by decide : (2147483647 : Int) ≤ 2147483647))⟩) (h_a := ⟨(by decide), (by decide)⟩) (h_b := ⟨(by decide), (by decide)⟩)  ) (fun o V' hq => ?_)
                  obtain ⟨r349, rfl, rfl, b350, q351⟩ := hq
                  refine .inr ⟨_, rfl, ?_⟩
                  rcases q351 with ⟨rfl, a352, a353⟩ | ⟨rfl, a354⟩
                  · have _q : True := trivial
                    refine jx_if_eq (pc' := 68) (tg := 89) rfl rfl rfl (by decide) (by decide) (fun h355 => ?_) (fun h355 => ?_)
                    · have _q := h355
                      exact absurd h355 (by omega)
                    · have _q := h355
                      refine jx_ld (pc' := 69) (l' := L) (st' := [.ref 66]) rfl (jl_aloadn gL_0) ?_
                      refine jr_get (pc' := 72) (i := 55) (v := .ref 103) rfl rfl (by decide) rfl rfl ?_
                      refine jx_ld (pc' := 73) (l' := L) (st' := [.ref 66, .ref 103]) rfl (jl_aloadn gL_0) ?_
                      refine jr_get (pc' := 76) (i := 13) (v := .int (i32 (G54 13))) rfl rfl (by decide) rfl rfl ?_
                      have _q : True := trivial
                      have b356 : (-2147483648 : Int) ≤ Ax 36 (G54 13).toNat ∧ Ax 36 (G54 13).toNat ≤ 2147483647 := hWx.2 36 _
                      refine jr_ldv (pc' := 77) (i := 36) (m := 6) (z := G54 13) (y := Ax 36 (G54 13).toNat) rfl (by decide) rfl (by decide) (by omega) (by omega) rfl (show A55 36 (G54 13).toNat = Ax 36 (G54 13).toNat from (congrFun ((hF60.2 36 rfl).trans ((hF33.2 36 rfl).trans (hF7.2 36 rfl))) _)) ?_
                      refine jx_if_le (pc' := 80) (tg := 89) rfl rfl rfl (Int.le_trans (by decide : (-2147483648 : Int) ≤ -2147483648) b356.1) (Int.le_trans b356.2 (by decide : (2147483647 : Int) ≤ 2147483647)) (fun h357 => ?_) (fun h357 => ?_)
                      · have _q := h357
                        refine jx_ld (pc' := 90) (l' := L) (st' := [.ref 66]) rfl (jl_aloadn gL_0) ?_
                        refine jx_ar (pc' := 91) (st' := [.int (i32 (0)), .ref 66]) rfl rfl rfl rfl ?_
                        refine jx_ar (pc' := 92) (st' := [.int (i32 (5)), .int (i32 (0)), .ref 66]) rfl rfl rfl rfl ?_
                        refine jx_vr (pc' := 95) (as := [.int (i32 (0)), .int (i32 (5))]) (st := []) rfl rfl rfl rfl ⟨rfl, rfl, Nat.le_of_ble_eq_true rfl⟩ rfl rfl (c_needNumber2 (dd := d) (hd := by omega) (hW := hW59) (lo := 0) (hi := 5) (ln := ln1) (e_ln := show G54 9 = ln1 from ((hF60.1 9 rfl).trans ((hF33.1 9 rfl).trans ((hF7.1 9 rfl).trans (ex_ln1))))) (le := A 4 (ln1).toNat) (e_le := show A55 4 (ln1).toNat = A 4 (ln1).toNat from (congrFun ((hF60.2 4 rfl).trans ((hF33.2 4 rfl).trans ((hF7.2 4 rfl).trans (hFx.2 4 rfl)))) _)) (at0 := at2_56) (e_at0 := show G54 10 = at2_56 from (e61)) (fk := fk2_58) (e_fk := show G54 16 = fk2_58 from (e63)) (tk0 := tk2_57) (e_tk0 := show G54 11 = tk2_57 from (e62)) (tn := G54 13) (e_tn := show G54 13 = G54 13 from rfl)  (h_lo := ⟨(by decide), (by decide)⟩) (h_hi := ⟨(by decide), (by decide)⟩)  (p_0 := by omega)) (fun o V' hq => ?_)
                        obtain ⟨G358, A359, r360, at2_361, tk2_362, fk2_363, rfl, rfl, hW364, hF365, b366, e367, e368, e369, p370, p371, q372⟩ := hq
                        have hF373 := Fr_tr hF67 hF365 (Fr_sub (by decide)) (Fr_sub (by decide))
                        have hP374 := Pf_f hP68 hF365 (by decide)
                        have hS375 := Fx_f hS69 hF365 (by decide)
                        have hV376 := Fx_f hV70 hF365 (by decide)
                        have sf377 : wB A359 Vs pb (nd) (nd1) (sy) (sy1) := (show A359 = A55 from funext (fun k => hF365.2 k rfl)) ▸ sf71
                        have bat2_361 : (0 : Int) ≤ at2_361 ∧ at2_361 ≤ 3002 := e367 ▸ hW364.1 10
                        have ztk2_362 := tz_b tk2_362
                        have btk2_362 : (0 : Int) ≤ tk2_362 ∧ tk2_362 ≤ 5 := e368 ▸ hW364.1 11
                        have bfk2_363 : (0 : Int) ≤ fk2_363 ∧ fk2_363 ≤ 6 := e369 ▸ hW364.1 16
                        refine .inr ⟨_, rfl, ?_⟩
                        rcases q372 with ⟨a378, a379, a380, a381⟩ | ⟨a382, a383, a384, a385, a386, a387, a388⟩
                        · have _q : True := trivial
                          refine jx_ld (pc' := 96) (l' := jSto1 L 2 (.int (i32 (r360)))) (st' := []) rfl rfl ?_
                          obtain ⟨L389, eL389⟩ : ∃ q, q = jSto1 L 2 (.int (i32 (r360))) := ⟨_, rfl⟩
                          rw [← eL389]
                          have gL389_0 : jGet L389 0 = some (.ref 66) := eL389 ▸ jg_ne (by decide) gL_0 rfl
                          have gL389_1 : jGet L389 1 = some (.int (i32 (many))) := eL389 ▸ jg_ne (by decide) gL_1 rfl
                          have gL389_2 : jGet L389 2 = some (.int (i32 (r360))) := eL389 ▸ jg_eq
                          refine jx_ld (pc' := 97) (l' := L389) (st' := [.ref 66]) rfl (jl_aloadn gL389_0) ?_
                          refine jx_vr (pc' := 100) (as := []) (st := []) rfl rfl rfl rfl ⟨rfl, rfl, Nat.le_of_ble_eq_true rfl⟩ rfl rfl (c_endLine (dd := d) (hd := by omega) (hW := hW364)  (ln := ln1) (e_ln := show G358 9 = ln1 from ((hF365.1 9 rfl).trans ((hF60.1 9 rfl).trans ((hF33.1 9 rfl).trans ((hF7.1 9 rfl).trans (ex_ln1)))))) (li := li) (e_li := show G358 3 = li from ((hF365.1 3 rfl).trans ((hF60.1 3 rfl).trans ((hF33.1 3 rfl).trans ((hF7.1 3 rfl).trans ((hFx.1 3 rfl).trans (e_li))))))) (fk := fk2_363) (e_fk := show G358 16 = fk2_363 from (e369)) (tk0 := tk2_362) (e_tk0 := show G358 11 = tk2_362 from (e368))    (p_0 := by omega)) (fun o V' hq => ?_)
                          obtain ⟨G390, A391, ln2_392, fk2_393, rfl, rfl, hW394, hF395, e396, e397, q398⟩ := hq
                          have hF399 := Fr_tr hF373 hF395 (Fr_sub (by decide)) (Fr_sub (by decide))
                          have hP400 := Pf_f hP374 hF395 (by decide)
                          have hS401 := Fx_f hS375 hF395 (by decide)
                          have hV402 := Fx_f hV376 hF395 (by decide)
                          have sf403 : wB A391 Vs pb (nd) (nd1) (sy) (sy1) := (show A391 = A359 from funext (fun k => hF395.2 k rfl)) ▸ sf377
                          have bln2_392 : (0 : Int) ≤ ln2_392 ∧ ln2_392 ≤ 3000 := e396 ▸ hW394.1 9
                          have bfk2_393 : (0 : Int) ≤ fk2_393 ∧ fk2_393 ≤ 6 := e397 ▸ hW394.1 16
                          refine .inl ⟨rfl, ?_⟩
                          rcases q398 with ⟨a404, a405, a406, a407, a408⟩ | ⟨a409, a410⟩
                          · have _q : True := trivial
                            exfalso
                            omega
                          · have _q : True := trivial
                            refine jx_ld (pc' := 101) (l' := L389) (st' := [.ref 66]) rfl (jl_aloadn gL389_0) ?_
                            refine jx_vr (pc' := 104) (as := []) (st := []) rfl rfl rfl rfl ⟨rfl, rfl, Nat.le_of_ble_eq_true rfl⟩ rfl rfl (c_bad (dd := d) (hd := by omega) (hW := hW394)  (fk := fk2_393) (e_fk := show G390 16 = fk2_393 from (e397))    ) (fun o V' hq => ?_)
                            obtain ⟨r411, rfl, rfl, b412, q413⟩ := hq
                            refine .inr ⟨_, rfl, ?_⟩
                            rcases q413 with ⟨rfl, a414⟩ | ⟨rfl, a415⟩
                            · have _q : True := trivial
                              refine jx_if_eq (pc' := 107) (tg := 108) rfl rfl rfl (by decide) (by decide) (fun h416 => ?_) (fun h416 => ?_)
                              · have _q := h416
                                exact absurd h416 (by omega)
                              · have _q := h416
                                refine jx_rt (v := none) rfl rfl rfl rfl rfl rfl ?_
                                exact ⟨_, _, ln2_392, at2_361, fk2_393, nd1, sy1, na1, vi, A 3 (ln2_392).toNat, rfl, rfl, hW394, hF399, hP400, hS401, hV402, (e396), ((hF395.1 10 rfl).trans (e367)), (e397), ((hF395.1 31 rfl).trans ((hF365.1 31 rfl).trans ((hF60.1 31 rfl).trans ((hF33.1 31 rfl).trans ((hF7.1 31 rfl).trans (ex_nd1)))))), ((hF395.1 19 rfl).trans ((hF365.1 19 rfl).trans ((hF60.1 19 rfl).trans ((hF33.1 19 rfl).trans ((hF7.1 19 rfl).trans (ex_sy1)))))), ((hF395.1 28 rfl).trans ((hF365.1 28 rfl).trans ((hF60.1 28 rfl).trans ((hF33.1 28 rfl).trans ((hF7.1 28 rfl).trans (ex_na1)))))), ((hF395.1 29 rfl).trans ((hF365.1 29 rfl).trans ((hF60.1 29 rfl).trans ((hF33.1 29 rfl).trans ((hF7.1 29 rfl).trans (fx_29)))))), (congrFun ((hF395.2 3 rfl).trans ((hF365.2 3 rfl).trans ((hF60.2 3 rfl).trans ((hF33.2 3 rfl).trans ((hF7.2 3 rfl).trans (hFx.2 3 rfl)))))) _), by omega, by omega, by omega, by omega, by omega, by omega, by first | exact Or.inl (by omega)⟩
                            · have _q : True := trivial
                              exfalso
                              omega
                        · have _q : True := trivial
                          refine jx_ld (pc' := 96) (l' := jSto1 L 2 (.int (i32 (r360)))) (st' := []) rfl rfl ?_
                          obtain ⟨L417, eL417⟩ : ∃ q, q = jSto1 L 2 (.int (i32 (r360))) := ⟨_, rfl⟩
                          rw [← eL417]
                          have gL417_0 : jGet L417 0 = some (.ref 66) := eL417 ▸ jg_ne (by decide) gL_0 rfl
                          have gL417_1 : jGet L417 1 = some (.int (i32 (many))) := eL417 ▸ jg_ne (by decide) gL_1 rfl
                          have gL417_2 : jGet L417 2 = some (.int (i32 (r360))) := eL417 ▸ jg_eq
                          refine jx_ld (pc' := 97) (l' := L417) (st' := [.ref 66]) rfl (jl_aloadn gL417_0) ?_
                          refine jx_vr (pc' := 100) (as := []) (st := []) rfl rfl rfl rfl ⟨rfl, rfl, Nat.le_of_ble_eq_true rfl⟩ rfl rfl (c_endLine (dd := d) (hd := by omega) (hW := hW364)  (ln := ln1) (e_ln := show G358 9 = ln1 from ((hF365.1 9 rfl).trans ((hF60.1 9 rfl).trans ((hF33.1 9 rfl).trans ((hF7.1 9 rfl).trans (ex_ln1)))))) (li := li) (e_li := show G358 3 = li from ((hF365.1 3 rfl).trans ((hF60.1 3 rfl).trans ((hF33.1 3 rfl).trans ((hF7.1 3 rfl).trans ((hFx.1 3 rfl).trans (e_li))))))) (fk := fk2_363) (e_fk := show G358 16 = fk2_363 from (e369)) (tk0 := tk2_362) (e_tk0 := show G358 11 = tk2_362 from (e368))    (p_0 := by omega)) (fun o V' hq => ?_)
                          obtain ⟨G418, A419, ln2_420, fk2_421, rfl, rfl, hW422, hF423, e424, e425, q426⟩ := hq
                          have hF427 := Fr_tr hF373 hF423 (Fr_sub (by decide)) (Fr_sub (by decide))
                          have hP428 := Pf_f hP374 hF423 (by decide)
                          have hS429 := Fx_f hS375 hF423 (by decide)
                          have hV430 := Fx_f hV376 hF423 (by decide)
                          have sf431 : wB A419 Vs pb (nd) (nd1) (sy) (sy1) := (show A419 = A359 from funext (fun k => hF423.2 k rfl)) ▸ sf377
                          have bln2_420 : (0 : Int) ≤ ln2_420 ∧ ln2_420 ≤ 3000 := e424 ▸ hW422.1 9
                          have bfk2_421 : (0 : Int) ≤ fk2_421 ∧ fk2_421 ≤ 6 := e425 ▸ hW422.1 16
                          refine .inl ⟨rfl, ?_⟩
                          rcases q426 with ⟨a432, a433, a434, a435, a436⟩ | ⟨a437, a438⟩
                          · have _q : True := trivial
                            have b439 : (0 : Int) ≤ A 3 (ln2_420).toNat ∧ A 3 (ln2_420).toNat ≤ 3000 := hW.2 3 _
                            have lt440 : ln2_420 < li → A 4 (ln1).toNat < A 3 (ln2_420).toNat := fun hh => LT_nx (LT_ext (((hF423.1 3 rfl).trans ((hF365.1 3 rfl).trans ((hF60.1 3 rfl).trans ((hF33.1 3 rfl).trans ((hF7.1 3 rfl).trans (hFx.1 3 rfl))))))) (((hF423.2 3 rfl).trans ((hF365.2 3 rfl).trans ((hF60.2 3 rfl).trans ((hF33.2 3 rfl).trans ((hF7.2 3 rfl).trans (hFx.2 3 rfl))))))) (((hF423.2 4 rfl).trans ((hF365.2 4 rfl).trans ((hF60.2 4 rfl).trans ((hF33.2 4 rfl).trans ((hF7.2 4 rfl).trans (hFx.2 4 rfl))))))) i_LT) (show G418 3 = li from ((hF423.1 3 rfl).trans ((hF365.1 3 rfl).trans ((hF60.1 3 rfl).trans ((hF33.1 3 rfl).trans ((hF7.1 3 rfl).trans ((hFx.1 3 rfl).trans (e_li)))))))) (show A419 4 (ln1).toNat = A 4 (ln1).toNat from (congrFun ((hF423.2 4 rfl).trans ((hF365.2 4 rfl).trans ((hF60.2 4 rfl).trans ((hF33.2 4 rfl).trans ((hF7.2 4 rfl).trans (hFx.2 4 rfl)))))) _)) (show A419 3 (ln2_420).toNat = A 3 (ln2_420).toNat from (congrFun ((hF423.2 3 rfl).trans ((hF365.2 3 rfl).trans ((hF60.2 3 rfl).trans ((hF33.2 3 rfl).trans ((hF7.2 3 rfl).trans (hFx.2 3 rfl)))))) _)) (show ln2_420 = ln1 + 1 by omega) (by omega) hh
                            refine jx_ld (pc' := 101) (l' := L417) (st' := [.ref 66]) rfl (jl_aloadn gL417_0) ?_
                            refine jx_vr (pc' := 104) (as := []) (st := []) rfl rfl rfl rfl ⟨rfl, rfl, Nat.le_of_ble_eq_true rfl⟩ rfl rfl (c_bad (dd := d) (hd := by omega) (hW := hW422)  (fk := fk2_421) (e_fk := show G418 16 = fk2_421 from (e425))    ) (fun o V' hq => ?_)
                            obtain ⟨r441, rfl, rfl, b442, q443⟩ := hq
                            refine .inr ⟨_, rfl, ?_⟩
                            rcases q443 with ⟨rfl, a444⟩ | ⟨rfl, a445⟩
                            · have _q : True := trivial
                              exfalso
                              omega
                            · have _q : True := trivial
                              refine jx_if_eq (pc' := 107) (tg := 108) rfl rfl rfl (by decide) (by decide) (fun h446 => ?_) (fun h446 => ?_)
                              · have _q := h446
                                refine jx_ld (pc' := 109) (l' := L417) (st' := [.ref 66]) rfl (jl_aloadn gL417_0) ?_
                                refine jr_get (pc' := 112) (i := 55) (v := .ref 103) rfl rfl (by decide) rfl rfl ?_
                                refine jx_ld (pc' := 113) (l' := L417) (st' := [.int (i32 (r360)), .ref 103]) rfl (jl_iloadn gL417_2) ?_
                                refine jx_ld (pc' := 114) (l' := L417) (st' := [.ref 66, .int (i32 (r360)), .ref 103]) rfl (jl_aloadn gL417_0) ?_
                                refine jx_ar (pc' := 115) (st' := [.int (i32 (2)), .ref 66, .int (i32 (r360)), .ref 103]) rfl rfl rfl rfl ?_
                                refine jx_vr (pc' := 118) (as := [.int (i32 (2))]) (st := [.int (i32 (r360)), .ref 103]) rfl rfl rfl rfl ⟨rfl, rfl, Nat.le_of_ble_eq_true rfl⟩ rfl rfl (RP_all X 18 (dd := d) (hd := by omega) (hW := hW422) (lv := 2) (at0 := at2_361) (ln := ln2_420) (e_ln := show G418 9 = ln2_420 from (e424)) (li := li) (e_li := show G418 3 = li from ((hF423.1 3 rfl).trans ((hF365.1 3 rfl).trans ((hF60.1 3 rfl).trans ((hF33.1 3 rfl).trans ((hF7.1 3 rfl).trans ((hFx.1 3 rfl).trans (e_li)))))))) (fk := fk2_421) (e_fk := show G418 16 = fk2_421 from (e425)) (nd := nd1) (e_nd := show G418 31 = nd1 from ((hF423.1 31 rfl).trans ((hF365.1 31 rfl).trans ((hF60.1 31 rfl).trans ((hF33.1 31 rfl).trans ((hF7.1 31 rfl).trans (ex_nd1))))))) (sy := sy1) (e_sy := show G418 19 = sy1 from ((hF423.1 19 rfl).trans ((hF365.1 19 rfl).trans ((hF60.1 19 rfl).trans ((hF33.1 19 rfl).trans ((hF7.1 19 rfl).trans (ex_sy1))))))) (na := na1) (e_na := show G418 28 = na1 from ((hF423.1 28 rfl).trans ((hF365.1 28 rfl).trans ((hF60.1 28 rfl).trans ((hF33.1 28 rfl).trans ((hF7.1 28 rfl).trans (ex_na1))))))) (vi := vi) (e_vi := show G418 29 = vi from ((hF423.1 29 rfl).trans ((hF365.1 29 rfl).trans ((hF60.1 29 rfl).trans ((hF33.1 29 rfl).trans ((hF7.1 29 rfl).trans (fx_29))))))) (lf := A 3 (ln2_420).toNat) (e_lf := show A419 3 (ln2_420).toNat = A 3 (ln2_420).toNat from (congrFun ((hF423.2 3 rfl).trans ((hF365.2 3 rfl).trans ((hF60.2 3 rfl).trans ((hF33.2 3 rfl).trans ((hF7.2 3 rfl).trans (hFx.2 3 rfl)))))) _)) (ac := at2_361) (e_ac := show G418 10 = at2_361 from ((hF423.1 10 rfl).trans (e367))) (i_LT := (LT_ext (((hF423.1 3 rfl).trans ((hF365.1 3 rfl).trans ((hF60.1 3 rfl).trans ((hF33.1 3 rfl).trans ((hF7.1 3 rfl).trans (hFx.1 3 rfl))))))) (((hF423.2 3 rfl).trans ((hF365.2 3 rfl).trans ((hF60.2 3 rfl).trans ((hF33.2 3 rfl).trans ((hF7.2 3 rfl).trans (hFx.2 3 rfl))))))) (((hF423.2 4 rfl).trans ((hF365.2 4 rfl).trans ((hF60.2 4 rfl).trans ((hF33.2 4 rfl).trans ((hF7.2 4 rfl).trans (hFx.2 4 rfl))))))) i_LT)) (i_SV := (SV_fx i_SV e_vi (show G418 29 = vi from ((hF423.1 29 rfl).trans ((hF365.1 29 rfl).trans ((hF60.1 29 rfl).trans ((hF33.1 29 rfl).trans ((hF7.1 29 rfl).trans (fx_29))))))) (by omega) hV430)) (i_PQ := (PQ_fx i_PQ hS429 (by omega) (hF427.2 29 rfl) (hF427.2 30 rfl))) (hvb := hvb) (h_lv := ⟨(by decide), (by decide)⟩)  (p_0 := by omega) (p_1 := by omega) (p_2 := by omega) (p_3 := by omega) (p_4 := by omega) (p_5 := by omega) (p_6 := by omega) (p_7 := by omega) (p_8 := by omega) (p_9 := by omega) (p_10 := by omega)) (fun o V' hq => ?_)
                                obtain ⟨G447, A448, r449, ln2_450, at2_451, fk2_452, nd2_453, sy2_454, na2_455, vi2_456, lf2_457, rfl, rfl, hW458, hF459, hQ460, hQ461, hQ462, b463, e464, e465, e466, e467, e468, e469, e470, e471, p472, p473, p474, p475, p476, p477, p478, p479, p480, q481⟩ := hq
                                have hF482 := Fr_tr hF427 hF459 (Fr_sub (by decide)) (Fr_sub (by decide))
                                have hP483 := Pf_tr hP428 hQ460 (by omega)
                                have hS484 := Fx_tr hS429 hQ461 (by omega)
                                have hV485 := Fx_tr hV430 hQ462 (by omega)
                                have sf486 : wB A448 Vs pb (nd) (nd1) (sy) (sy1) := wB_fx (fun k j hk hj => hQ460 k j hk (by omega)) (Fx_su hQ461 (by omega)) (Qg_fx (Fx_f (w := pb) Fx_rf hF459 (by decide)) (by omega)) (hF459.2 36 rfl) (by omega) sf431
                                have bln2_450 : (0 : Int) ≤ ln2_450 ∧ ln2_450 ≤ 3000 := e464 ▸ hW458.1 9
                                have bat2_451 : (0 : Int) ≤ at2_451 ∧ at2_451 ≤ 3002 := e465 ▸ hW458.1 10
                                have bfk2_452 : (0 : Int) ≤ fk2_452 ∧ fk2_452 ≤ 6 := e466 ▸ hW458.1 16
                                have bnd2_453 : (0 : Int) ≤ nd2_453 ∧ nd2_453 ≤ 6999 := e467 ▸ hW458.1 31
                                have bsy2_454 : (0 : Int) ≤ sy2_454 ∧ sy2_454 ≤ 202 := e468 ▸ hW458.1 19
                                have bna2_455 : (0 : Int) ≤ na2_455 ∧ na2_455 ≤ 200 := e469 ▸ hW458.1 28
                                have bvi2_456 : (0 : Int) ≤ vi2_456 ∧ vi2_456 ≤ 202 := e470 ▸ hW458.1 29
                                have blf2_457 : (0 : Int) ≤ lf2_457 ∧ lf2_457 ≤ 3000 := e471 ▸ hW458.2 3 _
                                refine .inr ⟨_, rfl, ?_⟩
                                rcases q481 with ⟨a487, a488⟩ | ⟨a489, a490, a491, a492, a493, a494, a495, a496⟩
                                · have _q : True := trivial
                                  refine jr_st (pc' := 119) (i := 36) (m := 6) (z := r360) (y := r449) rfl (by decide) rfl (by decide) (by omega) (by omega) rfl ?_
                                  have hW498 : Wk G447 (uA A448 36 (r360).toNat (r449)) := Wk_a hW458 (show (-2147483648 : Int) ≤ r449 by omega) (show r449 ≤ (2147483647 : Int) by omega)
                                  have hF499 := Fr_a (z := r449) (k := 36) (n := (r360).toNat) hF482 (by decide)
                                  obtain ⟨A497, eA497⟩ : ∃ q, q = uA A448 36 (r360).toNat (r449) := ⟨_, rfl⟩
                                  rw [← eA497]
                                  rw [← eA497] at hW498 hF499
                                  have q500 : A497 36 (r360).toNat = r449 := by rw [eA497]; exact uA_eq
                                  have hP501 : Pf nd A A497 := eA497 ▸ Pf_n hP483 rfl
                                  have hS502 : Fx sr (sy) A A497 := eA497 ▸ Fx_n hS484 rfl
                                  have hV503 : Fx [14] (vi) A A497 := eA497 ▸ Fx_n hV485 rfl
                                  refine jx_inc (pc' := 122) (l' := jSto1 L417 1 (.int (i32 ((many + (1)))))) (x := many) rfl gL417_1 (by decide) rfl rfl ?_
                                  obtain ⟨L504, eL504⟩ : ∃ q, q = jSto1 L417 1 (.int (i32 ((many + (1))))) := ⟨_, rfl⟩
                                  rw [← eL504]
                                  have gL504_0 : jGet L504 0 = some (.ref 66) := eL504 ▸ jg_ne (by decide) gL417_0 rfl
                                  have gL504_2 : jGet L504 2 = some (.int (i32 (r360))) := eL504 ▸ jg_ne (by decide) gL417_2 rfl
                                  have gL504_1 : jGet L504 1 = some (.int (i32 ((many + (1))))) := eL504 ▸ jg_eq
                                  refine jx_go (tg := 19) rfl rfl ?_
                                  refine jx_ld (pc' := 20) (l' := L504) (st' := [.ref 66]) rfl (jl_aloadn gL504_0) ?_
                                  refine jx_ar (pc' := 21) (st' := [.int (i32 (0)), .ref 66]) rfl rfl rfl rfl ?_
                                  have b505 : (-1 : Int) ≤ A 5 (ln2_450).toNat ∧ A 5 (ln2_450).toNat ≤ 15 := hW.2 5 _
                                  refine jx_vr (pc' := 24) (as := [.int (i32 (0))]) (st := []) rfl rfl rfl rfl ⟨rfl, rfl, Nat.le_of_ble_eq_true rfl⟩ rfl rfl (c_isBelow (dd := d) (hd := by omega) (hW := hW498) (lv := 0) (ln := ln2_450) (e_ln := show G447 9 = ln2_450 from (e464)) (li := li) (e_li := show G447 3 = li from ((hF459.1 3 rfl).trans ((hF423.1 3 rfl).trans ((hF365.1 3 rfl).trans ((hF60.1 3 rfl).trans ((hF33.1 3 rfl).trans ((hF7.1 3 rfl).trans ((hFx.1 3 rfl).trans (e_li))))))))) (fk := fk2_452) (e_fk := show G447 16 = fk2_452 from (e466)) (ll := A 5 (ln2_450).toNat) (e_ll := show A497 5 (ln2_450).toNat = A 5 (ln2_450).toNat from (congrFun (((congrFun eA497 5).trans (uA_ne (by decide))).trans ((hF459.2 5 rfl).trans ((hF423.2 5 rfl).trans ((hF365.2 5 rfl).trans ((hF60.2 5 rfl).trans ((hF33.2 5 rfl).trans ((hF7.2 5 rfl).trans (hFx.2 5 rfl)))))))) _))  (h_lv := ⟨(by decide), (by decide)⟩)  (p_0 := by omega)) (fun o V' hq => ?_)
                                  obtain ⟨G506, A507, r508, fk2_509, rfl, rfl, hW510, hF511, b512, e513, q514⟩ := hq
                                  have hF515 := Fr_tr hF499 hF511 (Fr_sub (by decide)) (Fr_sub (by decide))
                                  have hP516 := Pf_f hP501 hF511 (by decide)
                                  have hS517 := Fx_f hS502 hF511 (by decide)
                                  have hV518 := Fx_f hV503 hF511 (by decide)
                                  have bfk2_509 : (0 : Int) ≤ fk2_509 ∧ fk2_509 ≤ 6 := e513 ▸ hW510.1 16
                                  refine .inr ⟨_, rfl, ?_⟩
                                  rcases q514 with ⟨rfl, a519, a520, a521, a522⟩ | ⟨rfl, a523⟩ | ⟨rfl, a524, a525, a526⟩
                                  · have _q : True := trivial
                                    exfalso
                                    omega
                                  · have _q : True := trivial
                                    refine jx_if_eq (pc' := 27) (tg := 125) rfl rfl rfl (by decide) (by decide) (fun h527 => ?_) (fun h527 => ?_)
                                    · have _q := h527
                                      refine jx_ld (pc' := 126) (l' := L504) (st' := [.ref 66]) rfl (jl_aloadn gL504_0) ?_
                                      refine jx_vr (pc' := 129) (as := []) (st := []) rfl rfl rfl rfl ⟨rfl, rfl, Nat.le_of_ble_eq_true rfl⟩ rfl rfl (c_bad (dd := d) (hd := by omega) (hW := hW510)  (fk := fk2_509) (e_fk := show G506 16 = fk2_509 from (e513))    ) (fun o V' hq => ?_)
                                      obtain ⟨r528, rfl, rfl, b529, q530⟩ := hq
                                      refine .inr ⟨_, rfl, ?_⟩
                                      rcases q530 with ⟨rfl, a531⟩ | ⟨rfl, a532⟩
                                      · have _q : True := trivial
                                        refine jx_if_ne (pc' := 132) (tg := 142) rfl rfl rfl (by decide) (by decide) (fun h533 => ?_) (fun h533 => ?_)
                                        · have _q := h533
                                          refine jx_rt (v := none) rfl rfl rfl rfl rfl rfl ?_
                                          exact ⟨_, _, ln2_450, at2_451, fk2_509, nd2_453, sy2_454, na2_455, vi2_456, lf2_457, rfl, rfl, hW510, hF515, hP516, hS517, hV518, ((hF511.1 9 rfl).trans (e464)), ((hF511.1 10 rfl).trans (e465)), (e513), ((hF511.1 31 rfl).trans (e467)), ((hF511.1 19 rfl).trans (e468)), ((hF511.1 28 rfl).trans (e469)), ((hF511.1 29 rfl).trans (e470)), (congrFun ((hF511.2 3 rfl).trans ((congrFun eA497 3).trans (uA_ne (by decide)))) _).trans (e471), by omega, by omega, by omega, by omega, by omega, by omega, by first | exact Or.inl (by omega)⟩
                                        · have _q := h533
                                          exact absurd h533 (by omega)
                                      · have _q : True := trivial
                                        exfalso
                                        omega
                                    · have _q := h527
                                      exact absurd h527 (by omega)
                                  · have _q : True := trivial
                                    exfalso
                                    omega
                                · have _q : True := trivial
                                  refine jr_st (pc' := 119) (i := 36) (m := 6) (z := r360) (y := r449) rfl (by decide) rfl (by decide) (by omega) (by omega) rfl ?_
                                  have hW535 : Wk G447 (uA A448 36 (r360).toNat (r449)) := Wk_a hW458 (show (-2147483648 : Int) ≤ r449 by omega) (show r449 ≤ (2147483647 : Int) by omega)
                                  have hF536 := Fr_a (z := r449) (k := 36) (n := (r360).toNat) hF482 (by decide)
                                  obtain ⟨A534, eA534⟩ : ∃ q, q = uA A448 36 (r360).toNat (r449) := ⟨_, rfl⟩
                                  rw [← eA534]
                                  rw [← eA534] at hW535 hF536
                                  have q537 : A534 36 (r360).toNat = r449 := by rw [eA534]; exact uA_eq
                                  have hP538 : Pf nd A A534 := eA534 ▸ Pf_n hP483 rfl
                                  have hS539 : Fx sr (sy) A A534 := eA534 ▸ Fx_n hS484 rfl
                                  have hV540 : Fx [14] (vi) A A534 := eA534 ▸ Fx_n hV485 rfl
                                  have sf541 : wB A534 Vs pb (nd) (nd2_453) (sy) (sy2_454) := wB_add eA534 sf486 (by omega) (by omega) (by rw [show A448 36 (r360).toNat = Ax 36 (r360).toNat from (congrFun ((hF459.2 36 rfl).trans ((hF423.2 36 rfl).trans ((hF365.2 36 rfl).trans ((hF60.2 36 rfl).trans ((hF33.2 36 rfl).trans (hF7.2 36 rfl)))))) _)]; rw [show r360 = G54 13 by omega]; omega) a495 (by omega) (by omega) rfl (by omega) (by omega) (by omega) (by omega) rfl
                                  have sf542 : wP A534 (sy2_454) pb (18) (Vs) (r449) (nd1) (nd2_453) (sy1) (sy2_454) := wP_ag (Sg_ne eA534 rfl) (Qg_ne eA534 rfl) (by omega) (by omega) (Ax_ag (Ag_ne eA534 rfl)) a495
                                  have sf543 : NX A534 (r449) := NX_r eA534 (by decide) a496
                                  refine jx_inc (pc' := 122) (l' := jSto1 L417 1 (.int (i32 ((many + (1)))))) (x := many) rfl gL417_1 (by decide) rfl rfl ?_
                                  obtain ⟨L544, eL544⟩ : ∃ q, q = jSto1 L417 1 (.int (i32 ((many + (1))))) := ⟨_, rfl⟩
                                  rw [← eL544]
                                  have gL544_0 : jGet L544 0 = some (.ref 66) := eL544 ▸ jg_ne (by decide) gL417_0 rfl
                                  have gL544_2 : jGet L544 2 = some (.int (i32 (r360))) := eL544 ▸ jg_ne (by decide) gL417_2 rfl
                                  have gL544_1 : jGet L544 1 = some (.int (i32 ((many + (1))))) := eL544 ▸ jg_eq
                                  refine jx_go (tg := 19) rfl rfl ?_
                                  exact ih19 _ (by omega) L544 G447 A534 ((many + (1))) (ln2_450) (at2_451) (fk2_452) (nd2_453) (sy2_454) (na2_455) (lf2_457) rfl gL544_0 gL544_1 hW535 hF536 hP538 hS539 hV540 ((e464)) ((e465)) ((e466)) ((e467)) ((e468)) ((e469)) ((congrFun ((congrFun eA534 3).trans (uA_ne (by decide))) _).trans (e471)) (Eq.trans (show G447 29 = vi2_456 from (e470)) (by omega)) (by omega) (by omega) (by omega) (by omega) (by omega) (by omega) (by omega) (by omega) (by omega) (by omega) (by omega) (by omega) (sf541)
                              · have _q := h446
                                exact absurd h446 (by omega)
                          · have _q : True := trivial
                            refine jx_ld (pc' := 101) (l' := L417) (st' := [.ref 66]) rfl (jl_aloadn gL417_0) ?_
                            refine jx_vr (pc' := 104) (as := []) (st := []) rfl rfl rfl rfl ⟨rfl, rfl, Nat.le_of_ble_eq_true rfl⟩ rfl rfl (c_bad (dd := d) (hd := by omega) (hW := hW422)  (fk := fk2_421) (e_fk := show G418 16 = fk2_421 from (e425))    ) (fun o V' hq => ?_)
                            obtain ⟨r545, rfl, rfl, b546, q547⟩ := hq
                            refine .inr ⟨_, rfl, ?_⟩
                            rcases q547 with ⟨rfl, a548⟩ | ⟨rfl, a549⟩
                            · have _q : True := trivial
                              refine jx_if_eq (pc' := 107) (tg := 108) rfl rfl rfl (by decide) (by decide) (fun h550 => ?_) (fun h550 => ?_)
                              · have _q := h550
                                exact absurd h550 (by omega)
                              · have _q := h550
                                refine jx_rt (v := none) rfl rfl rfl rfl rfl rfl ?_
                                exact ⟨_, _, ln2_420, at2_361, fk2_421, nd1, sy1, na1, vi, A 3 (ln2_420).toNat, rfl, rfl, hW422, hF427, hP428, hS429, hV430, (e424), ((hF423.1 10 rfl).trans (e367)), (e425), ((hF423.1 31 rfl).trans ((hF365.1 31 rfl).trans ((hF60.1 31 rfl).trans ((hF33.1 31 rfl).trans ((hF7.1 31 rfl).trans (ex_nd1)))))), ((hF423.1 19 rfl).trans ((hF365.1 19 rfl).trans ((hF60.1 19 rfl).trans ((hF33.1 19 rfl).trans ((hF7.1 19 rfl).trans (ex_sy1)))))), ((hF423.1 28 rfl).trans ((hF365.1 28 rfl).trans ((hF60.1 28 rfl).trans ((hF33.1 28 rfl).trans ((hF7.1 28 rfl).trans (ex_na1)))))), ((hF423.1 29 rfl).trans ((hF365.1 29 rfl).trans ((hF60.1 29 rfl).trans ((hF33.1 29 rfl).trans ((hF7.1 29 rfl).trans (fx_29)))))), (congrFun ((hF423.2 3 rfl).trans ((hF365.2 3 rfl).trans ((hF60.2 3 rfl).trans ((hF33.2 3 rfl).trans ((hF7.2 3 rfl).trans (hFx.2 3 rfl)))))) _), by omega, by omega, by omega, by omega, by omega, by omega, by first | exact Or.inl (by omega)⟩
                            · have _q : True := trivial
                              exfalso
                              omega
                      · have _q := h357
                        refine jx_ld (pc' := 81) (l' := L) (st' := [.ref 66]) rfl (jl_aloadn gL_0) ?_
                        refine jx_ar (pc' := 82) (st' := [.int (i32 (1)), .ref 66]) rfl rfl rfl rfl ?_
                        refine jx_ld (pc' := 83) (l' := L) (st' := [.ref 66, .int (i32 (1)), .ref 66]) rfl (jl_aloadn gL_0) ?_
                        have b551 : (-3000 : Int) ≤ G54 12 ∧ G54 12 ≤ 3002 := hW59.1 12
                        refine jr_get (pc' := 86) (i := 12) (v := .int (i32 (G54 12))) rfl rfl (by decide) rfl rfl ?_
                        refine jx_vr (pc' := 89) (as := [.int (i32 (1)), .int (i32 (G54 12))]) (st := []) rfl rfl rfl rfl ⟨rfl, rfl, Nat.le_of_ble_eq_true rfl⟩ rfl rfl (c_fail (dd := d) (hd := by omega) (hW := hW59) (kind := 1) (place := G54 12) (fk := fk2_58) (e_fk := show G54 16 = fk2_58 from (e63))  (h_kind := ⟨(by decide), (by decide)⟩) (h_place := ⟨(Int.le_trans (by decide : (-2147483648 : Int) ≤ -3000) b551.1), (Int.le_trans b551.2 (by decide : (3002 : Int) ≤ 2147483647))⟩)  (p_0 := by omega) (p_1 := by omega)) (fun o V' hq => ?_)
                        obtain ⟨G552, A553, fk2_554, rfl, rfl, hW555, hF556, e557, p558, -⟩ := hq
                        have hF560 := Fr_tr hF67 hF556 (Fr_sub (by decide)) (Fr_sub (by decide))
                        have hP561 := Pf_f hP68 hF556 (by decide)
                        have hS562 := Fx_f hS69 hF556 (by decide)
                        have hV563 := Fx_f hV70 hF556 (by decide)
                        have sf564 : wB A553 Vs pb (nd) (nd1) (sy) (sy1) := (show A553 = A55 from funext (fun k => hF556.2 k rfl)) ▸ sf71
                        have bfk2_554 : (0 : Int) ≤ fk2_554 ∧ fk2_554 ≤ 6 := e557 ▸ hW555.1 16
                        refine .inl ⟨rfl, ?_⟩
                        refine jx_ld (pc' := 90) (l' := L) (st' := [.ref 66]) rfl (jl_aloadn gL_0) ?_
                        refine jx_ar (pc' := 91) (st' := [.int (i32 (0)), .ref 66]) rfl rfl rfl rfl ?_
                        refine jx_ar (pc' := 92) (st' := [.int (i32 (5)), .int (i32 (0)), .ref 66]) rfl rfl rfl rfl ?_
                        refine jx_vr (pc' := 95) (as := [.int (i32 (0)), .int (i32 (5))]) (st := []) rfl rfl rfl rfl ⟨rfl, rfl, Nat.le_of_ble_eq_true rfl⟩ rfl rfl (c_needNumber2 (dd := d) (hd := by omega) (hW := hW555) (lo := 0) (hi := 5) (ln := ln1) (e_ln := show G552 9 = ln1 from ((hF556.1 9 rfl).trans ((hF60.1 9 rfl).trans ((hF33.1 9 rfl).trans ((hF7.1 9 rfl).trans (ex_ln1)))))) (le := A 4 (ln1).toNat) (e_le := show A553 4 (ln1).toNat = A 4 (ln1).toNat from (congrFun ((hF556.2 4 rfl).trans ((hF60.2 4 rfl).trans ((hF33.2 4 rfl).trans ((hF7.2 4 rfl).trans (hFx.2 4 rfl))))) _)) (at0 := at2_56) (e_at0 := show G552 10 = at2_56 from ((hF556.1 10 rfl).trans (e61))) (fk := fk2_554) (e_fk := show G552 16 = fk2_554 from (e557)) (tk0 := tk2_57) (e_tk0 := show G552 11 = tk2_57 from ((hF556.1 11 rfl).trans (e62))) (tn := G54 13) (e_tn := show G552 13 = G54 13 from (hF556.1 13 rfl))  (h_lo := ⟨(by decide), (by decide)⟩) (h_hi := ⟨(by decide), (by decide)⟩)  (p_0 := by omega)) (fun o V' hq => ?_)
                        obtain ⟨G565, A566, r567, at2_568, tk2_569, fk2_570, rfl, rfl, hW571, hF572, b573, e574, e575, e576, p577, p578, q579⟩ := hq
                        have hF580 := Fr_tr hF560 hF572 (Fr_sub (by decide)) (Fr_sub (by decide))
                        have hP581 := Pf_f hP561 hF572 (by decide)
                        have hS582 := Fx_f hS562 hF572 (by decide)
                        have hV583 := Fx_f hV563 hF572 (by decide)
                        have sf584 : wB A566 Vs pb (nd) (nd1) (sy) (sy1) := (show A566 = A553 from funext (fun k => hF572.2 k rfl)) ▸ sf564
                        have bat2_568 : (0 : Int) ≤ at2_568 ∧ at2_568 ≤ 3002 := e574 ▸ hW571.1 10
                        have ztk2_569 := tz_b tk2_569
                        have btk2_569 : (0 : Int) ≤ tk2_569 ∧ tk2_569 ≤ 5 := e575 ▸ hW571.1 11
                        have bfk2_570 : (0 : Int) ≤ fk2_570 ∧ fk2_570 ≤ 6 := e576 ▸ hW571.1 16
                        refine .inr ⟨_, rfl, ?_⟩
                        rcases q579 with ⟨a585, a586, a587, a588⟩ | ⟨a589, a590, a591, a592, a593, a594, a595⟩
                        · have _q : True := trivial
                          refine jx_ld (pc' := 96) (l' := jSto1 L 2 (.int (i32 (r567)))) (st' := []) rfl rfl ?_
                          obtain ⟨L596, eL596⟩ : ∃ q, q = jSto1 L 2 (.int (i32 (r567))) := ⟨_, rfl⟩
                          rw [← eL596]
                          have gL596_0 : jGet L596 0 = some (.ref 66) := eL596 ▸ jg_ne (by decide) gL_0 rfl
                          have gL596_1 : jGet L596 1 = some (.int (i32 (many))) := eL596 ▸ jg_ne (by decide) gL_1 rfl
                          have gL596_2 : jGet L596 2 = some (.int (i32 (r567))) := eL596 ▸ jg_eq
                          refine jx_ld (pc' := 97) (l' := L596) (st' := [.ref 66]) rfl (jl_aloadn gL596_0) ?_
                          refine jx_vr (pc' := 100) (as := []) (st := []) rfl rfl rfl rfl ⟨rfl, rfl, Nat.le_of_ble_eq_true rfl⟩ rfl rfl (c_endLine (dd := d) (hd := by omega) (hW := hW571)  (ln := ln1) (e_ln := show G565 9 = ln1 from ((hF572.1 9 rfl).trans ((hF556.1 9 rfl).trans ((hF60.1 9 rfl).trans ((hF33.1 9 rfl).trans ((hF7.1 9 rfl).trans (ex_ln1))))))) (li := li) (e_li := show G565 3 = li from ((hF572.1 3 rfl).trans ((hF556.1 3 rfl).trans ((hF60.1 3 rfl).trans ((hF33.1 3 rfl).trans ((hF7.1 3 rfl).trans ((hFx.1 3 rfl).trans (e_li)))))))) (fk := fk2_570) (e_fk := show G565 16 = fk2_570 from (e576)) (tk0 := tk2_569) (e_tk0 := show G565 11 = tk2_569 from (e575))    (p_0 := by omega)) (fun o V' hq => ?_)
                          obtain ⟨G597, A598, ln2_599, fk2_600, rfl, rfl, hW601, hF602, e603, e604, q605⟩ := hq
                          have hF606 := Fr_tr hF580 hF602 (Fr_sub (by decide)) (Fr_sub (by decide))
                          have hP607 := Pf_f hP581 hF602 (by decide)
                          have hS608 := Fx_f hS582 hF602 (by decide)
                          have hV609 := Fx_f hV583 hF602 (by decide)
                          have sf610 : wB A598 Vs pb (nd) (nd1) (sy) (sy1) := (show A598 = A566 from funext (fun k => hF602.2 k rfl)) ▸ sf584
                          have bln2_599 : (0 : Int) ≤ ln2_599 ∧ ln2_599 ≤ 3000 := e603 ▸ hW601.1 9
                          have bfk2_600 : (0 : Int) ≤ fk2_600 ∧ fk2_600 ≤ 6 := e604 ▸ hW601.1 16
                          refine .inl ⟨rfl, ?_⟩
                          rcases q605 with ⟨a611, a612, a613, a614, a615⟩ | ⟨a616, a617⟩
                          · have _q : True := trivial
                            exfalso
                            omega
                          · have _q : True := trivial
                            refine jx_ld (pc' := 101) (l' := L596) (st' := [.ref 66]) rfl (jl_aloadn gL596_0) ?_
                            refine jx_vr (pc' := 104) (as := []) (st := []) rfl rfl rfl rfl ⟨rfl, rfl, Nat.le_of_ble_eq_true rfl⟩ rfl rfl (c_bad (dd := d) (hd := by omega) (hW := hW601)  (fk := fk2_600) (e_fk := show G597 16 = fk2_600 from (e604))    ) (fun o V' hq => ?_)
                            obtain ⟨r618, rfl, rfl, b619, q620⟩ := hq
                            refine .inr ⟨_, rfl, ?_⟩
                            rcases q620 with ⟨rfl, a621⟩ | ⟨rfl, a622⟩
                            · have _q : True := trivial
                              refine jx_if_eq (pc' := 107) (tg := 108) rfl rfl rfl (by decide) (by decide) (fun h623 => ?_) (fun h623 => ?_)
                              · have _q := h623
                                exact absurd h623 (by omega)
                              · have _q := h623
                                refine jx_rt (v := none) rfl rfl rfl rfl rfl rfl ?_
                                exact ⟨_, _, ln2_599, at2_568, fk2_600, nd1, sy1, na1, vi, A 3 (ln2_599).toNat, rfl, rfl, hW601, hF606, hP607, hS608, hV609, (e603), ((hF602.1 10 rfl).trans (e574)), (e604), ((hF602.1 31 rfl).trans ((hF572.1 31 rfl).trans ((hF556.1 31 rfl).trans ((hF60.1 31 rfl).trans ((hF33.1 31 rfl).trans ((hF7.1 31 rfl).trans (ex_nd1))))))), ((hF602.1 19 rfl).trans ((hF572.1 19 rfl).trans ((hF556.1 19 rfl).trans ((hF60.1 19 rfl).trans ((hF33.1 19 rfl).trans ((hF7.1 19 rfl).trans (ex_sy1))))))), ((hF602.1 28 rfl).trans ((hF572.1 28 rfl).trans ((hF556.1 28 rfl).trans ((hF60.1 28 rfl).trans ((hF33.1 28 rfl).trans ((hF7.1 28 rfl).trans (ex_na1))))))), ((hF602.1 29 rfl).trans ((hF572.1 29 rfl).trans ((hF556.1 29 rfl).trans ((hF60.1 29 rfl).trans ((hF33.1 29 rfl).trans ((hF7.1 29 rfl).trans (fx_29))))))), (congrFun ((hF602.2 3 rfl).trans ((hF572.2 3 rfl).trans ((hF556.2 3 rfl).trans ((hF60.2 3 rfl).trans ((hF33.2 3 rfl).trans ((hF7.2 3 rfl).trans (hFx.2 3 rfl))))))) _), by omega, by omega, by omega, by omega, by omega, by omega, by first | exact Or.inl (by omega)⟩
                            · have _q : True := trivial
                              exfalso
                              omega
                        · have _q : True := trivial
                          exfalso
                          omega
                  · have _q : True := trivial
                    refine jx_if_eq (pc' := 68) (tg := 89) rfl rfl rfl (by decide) (by decide) (fun h624 => ?_) (fun h624 => ?_)
                    · have _q := h624
                      refine jx_ld (pc' := 90) (l' := L) (st' := [.ref 66]) rfl (jl_aloadn gL_0) ?_
                      refine jx_ar (pc' := 91) (st' := [.int (i32 (0)), .ref 66]) rfl rfl rfl rfl ?_
                      refine jx_ar (pc' := 92) (st' := [.int (i32 (5)), .int (i32 (0)), .ref 66]) rfl rfl rfl rfl ?_
                      refine jx_vr (pc' := 95) (as := [.int (i32 (0)), .int (i32 (5))]) (st := []) rfl rfl rfl rfl ⟨rfl, rfl, Nat.le_of_ble_eq_true rfl⟩ rfl rfl (c_needNumber2 (dd := d) (hd := by omega) (hW := hW59) (lo := 0) (hi := 5) (ln := ln1) (e_ln := show G54 9 = ln1 from ((hF60.1 9 rfl).trans ((hF33.1 9 rfl).trans ((hF7.1 9 rfl).trans (ex_ln1))))) (le := A 4 (ln1).toNat) (e_le := show A55 4 (ln1).toNat = A 4 (ln1).toNat from (congrFun ((hF60.2 4 rfl).trans ((hF33.2 4 rfl).trans ((hF7.2 4 rfl).trans (hFx.2 4 rfl)))) _)) (at0 := at2_56) (e_at0 := show G54 10 = at2_56 from (e61)) (fk := fk2_58) (e_fk := show G54 16 = fk2_58 from (e63)) (tk0 := tk2_57) (e_tk0 := show G54 11 = tk2_57 from (e62)) (tn := G54 13) (e_tn := show G54 13 = G54 13 from rfl)  (h_lo := ⟨(by decide), (by decide)⟩) (h_hi := ⟨(by decide), (by decide)⟩)  (p_0 := by omega)) (fun o V' hq => ?_)
                      obtain ⟨G625, A626, r627, at2_628, tk2_629, fk2_630, rfl, rfl, hW631, hF632, b633, e634, e635, e636, p637, p638, q639⟩ := hq
                      have hF640 := Fr_tr hF67 hF632 (Fr_sub (by decide)) (Fr_sub (by decide))
                      have hP641 := Pf_f hP68 hF632 (by decide)
                      have hS642 := Fx_f hS69 hF632 (by decide)
                      have hV643 := Fx_f hV70 hF632 (by decide)
                      have sf644 : wB A626 Vs pb (nd) (nd1) (sy) (sy1) := (show A626 = A55 from funext (fun k => hF632.2 k rfl)) ▸ sf71
                      have bat2_628 : (0 : Int) ≤ at2_628 ∧ at2_628 ≤ 3002 := e634 ▸ hW631.1 10
                      have ztk2_629 := tz_b tk2_629
                      have btk2_629 : (0 : Int) ≤ tk2_629 ∧ tk2_629 ≤ 5 := e635 ▸ hW631.1 11
                      have bfk2_630 : (0 : Int) ≤ fk2_630 ∧ fk2_630 ≤ 6 := e636 ▸ hW631.1 16
                      refine .inr ⟨_, rfl, ?_⟩
                      rcases q639 with ⟨a645, a646, a647, a648⟩ | ⟨a649, a650, a651, a652, a653, a654, a655⟩
                      · have _q : True := trivial
                        refine jx_ld (pc' := 96) (l' := jSto1 L 2 (.int (i32 (r627)))) (st' := []) rfl rfl ?_
                        obtain ⟨L656, eL656⟩ : ∃ q, q = jSto1 L 2 (.int (i32 (r627))) := ⟨_, rfl⟩
                        rw [← eL656]
                        have gL656_0 : jGet L656 0 = some (.ref 66) := eL656 ▸ jg_ne (by decide) gL_0 rfl
                        have gL656_1 : jGet L656 1 = some (.int (i32 (many))) := eL656 ▸ jg_ne (by decide) gL_1 rfl
                        have gL656_2 : jGet L656 2 = some (.int (i32 (r627))) := eL656 ▸ jg_eq
                        refine jx_ld (pc' := 97) (l' := L656) (st' := [.ref 66]) rfl (jl_aloadn gL656_0) ?_
                        refine jx_vr (pc' := 100) (as := []) (st := []) rfl rfl rfl rfl ⟨rfl, rfl, Nat.le_of_ble_eq_true rfl⟩ rfl rfl (c_endLine (dd := d) (hd := by omega) (hW := hW631)  (ln := ln1) (e_ln := show G625 9 = ln1 from ((hF632.1 9 rfl).trans ((hF60.1 9 rfl).trans ((hF33.1 9 rfl).trans ((hF7.1 9 rfl).trans (ex_ln1)))))) (li := li) (e_li := show G625 3 = li from ((hF632.1 3 rfl).trans ((hF60.1 3 rfl).trans ((hF33.1 3 rfl).trans ((hF7.1 3 rfl).trans ((hFx.1 3 rfl).trans (e_li))))))) (fk := fk2_630) (e_fk := show G625 16 = fk2_630 from (e636)) (tk0 := tk2_629) (e_tk0 := show G625 11 = tk2_629 from (e635))    (p_0 := by omega)) (fun o V' hq => ?_)
                        obtain ⟨G657, A658, ln2_659, fk2_660, rfl, rfl, hW661, hF662, e663, e664, q665⟩ := hq
                        have hF666 := Fr_tr hF640 hF662 (Fr_sub (by decide)) (Fr_sub (by decide))
                        have hP667 := Pf_f hP641 hF662 (by decide)
                        have hS668 := Fx_f hS642 hF662 (by decide)
                        have hV669 := Fx_f hV643 hF662 (by decide)
                        have sf670 : wB A658 Vs pb (nd) (nd1) (sy) (sy1) := (show A658 = A626 from funext (fun k => hF662.2 k rfl)) ▸ sf644
                        have bln2_659 : (0 : Int) ≤ ln2_659 ∧ ln2_659 ≤ 3000 := e663 ▸ hW661.1 9
                        have bfk2_660 : (0 : Int) ≤ fk2_660 ∧ fk2_660 ≤ 6 := e664 ▸ hW661.1 16
                        refine .inl ⟨rfl, ?_⟩
                        rcases q665 with ⟨a671, a672, a673, a674, a675⟩ | ⟨a676, a677⟩
                        · have _q : True := trivial
                          exfalso
                          omega
                        · have _q : True := trivial
                          refine jx_ld (pc' := 101) (l' := L656) (st' := [.ref 66]) rfl (jl_aloadn gL656_0) ?_
                          refine jx_vr (pc' := 104) (as := []) (st := []) rfl rfl rfl rfl ⟨rfl, rfl, Nat.le_of_ble_eq_true rfl⟩ rfl rfl (c_bad (dd := d) (hd := by omega) (hW := hW661)  (fk := fk2_660) (e_fk := show G657 16 = fk2_660 from (e664))    ) (fun o V' hq => ?_)
                          obtain ⟨r678, rfl, rfl, b679, q680⟩ := hq
                          refine .inr ⟨_, rfl, ?_⟩
                          rcases q680 with ⟨rfl, a681⟩ | ⟨rfl, a682⟩
                          · have _q : True := trivial
                            refine jx_if_eq (pc' := 107) (tg := 108) rfl rfl rfl (by decide) (by decide) (fun h683 => ?_) (fun h683 => ?_)
                            · have _q := h683
                              exact absurd h683 (by omega)
                            · have _q := h683
                              refine jx_rt (v := none) rfl rfl rfl rfl rfl rfl ?_
                              exact ⟨_, _, ln2_659, at2_628, fk2_660, nd1, sy1, na1, vi, A 3 (ln2_659).toNat, rfl, rfl, hW661, hF666, hP667, hS668, hV669, (e663), ((hF662.1 10 rfl).trans (e634)), (e664), ((hF662.1 31 rfl).trans ((hF632.1 31 rfl).trans ((hF60.1 31 rfl).trans ((hF33.1 31 rfl).trans ((hF7.1 31 rfl).trans (ex_nd1)))))), ((hF662.1 19 rfl).trans ((hF632.1 19 rfl).trans ((hF60.1 19 rfl).trans ((hF33.1 19 rfl).trans ((hF7.1 19 rfl).trans (ex_sy1)))))), ((hF662.1 28 rfl).trans ((hF632.1 28 rfl).trans ((hF60.1 28 rfl).trans ((hF33.1 28 rfl).trans ((hF7.1 28 rfl).trans (ex_na1)))))), ((hF662.1 29 rfl).trans ((hF632.1 29 rfl).trans ((hF60.1 29 rfl).trans ((hF33.1 29 rfl).trans ((hF7.1 29 rfl).trans (fx_29)))))), (congrFun ((hF662.2 3 rfl).trans ((hF632.2 3 rfl).trans ((hF60.2 3 rfl).trans ((hF33.2 3 rfl).trans ((hF7.2 3 rfl).trans (hFx.2 3 rfl)))))) _), by omega, by omega, by omega, by omega, by omega, by omega, by first | exact Or.inl (by omega)⟩
                          · have _q : True := trivial
                            exfalso
                            omega
                      · have _q : True := trivial
                        refine jx_ld (pc' := 96) (l' := jSto1 L 2 (.int (i32 (r627)))) (st' := []) rfl rfl ?_
                        obtain ⟨L684, eL684⟩ : ∃ q, q = jSto1 L 2 (.int (i32 (r627))) := ⟨_, rfl⟩
                        rw [← eL684]
                        have gL684_0 : jGet L684 0 = some (.ref 66) := eL684 ▸ jg_ne (by decide) gL_0 rfl
                        have gL684_1 : jGet L684 1 = some (.int (i32 (many))) := eL684 ▸ jg_ne (by decide) gL_1 rfl
                        have gL684_2 : jGet L684 2 = some (.int (i32 (r627))) := eL684 ▸ jg_eq
                        refine jx_ld (pc' := 97) (l' := L684) (st' := [.ref 66]) rfl (jl_aloadn gL684_0) ?_
                        refine jx_vr (pc' := 100) (as := []) (st := []) rfl rfl rfl rfl ⟨rfl, rfl, Nat.le_of_ble_eq_true rfl⟩ rfl rfl (c_endLine (dd := d) (hd := by omega) (hW := hW631)  (ln := ln1) (e_ln := show G625 9 = ln1 from ((hF632.1 9 rfl).trans ((hF60.1 9 rfl).trans ((hF33.1 9 rfl).trans ((hF7.1 9 rfl).trans (ex_ln1)))))) (li := li) (e_li := show G625 3 = li from ((hF632.1 3 rfl).trans ((hF60.1 3 rfl).trans ((hF33.1 3 rfl).trans ((hF7.1 3 rfl).trans ((hFx.1 3 rfl).trans (e_li))))))) (fk := fk2_630) (e_fk := show G625 16 = fk2_630 from (e636)) (tk0 := tk2_629) (e_tk0 := show G625 11 = tk2_629 from (e635))    (p_0 := by omega)) (fun o V' hq => ?_)
                        obtain ⟨G685, A686, ln2_687, fk2_688, rfl, rfl, hW689, hF690, e691, e692, q693⟩ := hq
                        have hF694 := Fr_tr hF640 hF690 (Fr_sub (by decide)) (Fr_sub (by decide))
                        have hP695 := Pf_f hP641 hF690 (by decide)
                        have hS696 := Fx_f hS642 hF690 (by decide)
                        have hV697 := Fx_f hV643 hF690 (by decide)
                        have sf698 : wB A686 Vs pb (nd) (nd1) (sy) (sy1) := (show A686 = A626 from funext (fun k => hF690.2 k rfl)) ▸ sf644
                        have bln2_687 : (0 : Int) ≤ ln2_687 ∧ ln2_687 ≤ 3000 := e691 ▸ hW689.1 9
                        have bfk2_688 : (0 : Int) ≤ fk2_688 ∧ fk2_688 ≤ 6 := e692 ▸ hW689.1 16
                        refine .inl ⟨rfl, ?_⟩
                        rcases q693 with ⟨a699, a700, a701, a702, a703⟩ | ⟨a704, a705⟩
                        · have _q : True := trivial
                          have b706 : (0 : Int) ≤ A 3 (ln2_687).toNat ∧ A 3 (ln2_687).toNat ≤ 3000 := hW.2 3 _
                          have lt707 : ln2_687 < li → A 4 (ln1).toNat < A 3 (ln2_687).toNat := fun hh => LT_nx (LT_ext (((hF690.1 3 rfl).trans ((hF632.1 3 rfl).trans ((hF60.1 3 rfl).trans ((hF33.1 3 rfl).trans ((hF7.1 3 rfl).trans (hFx.1 3 rfl))))))) (((hF690.2 3 rfl).trans ((hF632.2 3 rfl).trans ((hF60.2 3 rfl).trans ((hF33.2 3 rfl).trans ((hF7.2 3 rfl).trans (hFx.2 3 rfl))))))) (((hF690.2 4 rfl).trans ((hF632.2 4 rfl).trans ((hF60.2 4 rfl).trans ((hF33.2 4 rfl).trans ((hF7.2 4 rfl).trans (hFx.2 4 rfl))))))) i_LT) (show G685 3 = li from ((hF690.1 3 rfl).trans ((hF632.1 3 rfl).trans ((hF60.1 3 rfl).trans ((hF33.1 3 rfl).trans ((hF7.1 3 rfl).trans ((hFx.1 3 rfl).trans (e_li)))))))) (show A686 4 (ln1).toNat = A 4 (ln1).toNat from (congrFun ((hF690.2 4 rfl).trans ((hF632.2 4 rfl).trans ((hF60.2 4 rfl).trans ((hF33.2 4 rfl).trans ((hF7.2 4 rfl).trans (hFx.2 4 rfl)))))) _)) (show A686 3 (ln2_687).toNat = A 3 (ln2_687).toNat from (congrFun ((hF690.2 3 rfl).trans ((hF632.2 3 rfl).trans ((hF60.2 3 rfl).trans ((hF33.2 3 rfl).trans ((hF7.2 3 rfl).trans (hFx.2 3 rfl)))))) _)) (show ln2_687 = ln1 + 1 by omega) (by omega) hh
                          refine jx_ld (pc' := 101) (l' := L684) (st' := [.ref 66]) rfl (jl_aloadn gL684_0) ?_
                          refine jx_vr (pc' := 104) (as := []) (st := []) rfl rfl rfl rfl ⟨rfl, rfl, Nat.le_of_ble_eq_true rfl⟩ rfl rfl (c_bad (dd := d) (hd := by omega) (hW := hW689)  (fk := fk2_688) (e_fk := show G685 16 = fk2_688 from (e692))    ) (fun o V' hq => ?_)
                          obtain ⟨r708, rfl, rfl, b709, q710⟩ := hq
                          refine .inr ⟨_, rfl, ?_⟩
                          rcases q710 with ⟨rfl, a711⟩ | ⟨rfl, a712⟩
                          · have _q : True := trivial
                            exfalso
                            omega
                          · have _q : True := trivial
                            refine jx_if_eq (pc' := 107) (tg := 108) rfl rfl rfl (by decide) (by decide) (fun h713 => ?_) (fun h713 => ?_)
                            · have _q := h713
                              refine jx_ld (pc' := 109) (l' := L684) (st' := [.ref 66]) rfl (jl_aloadn gL684_0) ?_
                              refine jr_get (pc' := 112) (i := 55) (v := .ref 103) rfl rfl (by decide) rfl rfl ?_
                              refine jx_ld (pc' := 113) (l' := L684) (st' := [.int (i32 (r627)), .ref 103]) rfl (jl_iloadn gL684_2) ?_
                              refine jx_ld (pc' := 114) (l' := L684) (st' := [.ref 66, .int (i32 (r627)), .ref 103]) rfl (jl_aloadn gL684_0) ?_
                              refine jx_ar (pc' := 115) (st' := [.int (i32 (2)), .ref 66, .int (i32 (r627)), .ref 103]) rfl rfl rfl rfl ?_
                              refine jx_vr (pc' := 118) (as := [.int (i32 (2))]) (st := [.int (i32 (r627)), .ref 103]) rfl rfl rfl rfl ⟨rfl, rfl, Nat.le_of_ble_eq_true rfl⟩ rfl rfl (RP_all X 18 (dd := d) (hd := by omega) (hW := hW689) (lv := 2) (at0 := at2_628) (ln := ln2_687) (e_ln := show G685 9 = ln2_687 from (e691)) (li := li) (e_li := show G685 3 = li from ((hF690.1 3 rfl).trans ((hF632.1 3 rfl).trans ((hF60.1 3 rfl).trans ((hF33.1 3 rfl).trans ((hF7.1 3 rfl).trans ((hFx.1 3 rfl).trans (e_li)))))))) (fk := fk2_688) (e_fk := show G685 16 = fk2_688 from (e692)) (nd := nd1) (e_nd := show G685 31 = nd1 from ((hF690.1 31 rfl).trans ((hF632.1 31 rfl).trans ((hF60.1 31 rfl).trans ((hF33.1 31 rfl).trans ((hF7.1 31 rfl).trans (ex_nd1))))))) (sy := sy1) (e_sy := show G685 19 = sy1 from ((hF690.1 19 rfl).trans ((hF632.1 19 rfl).trans ((hF60.1 19 rfl).trans ((hF33.1 19 rfl).trans ((hF7.1 19 rfl).trans (ex_sy1))))))) (na := na1) (e_na := show G685 28 = na1 from ((hF690.1 28 rfl).trans ((hF632.1 28 rfl).trans ((hF60.1 28 rfl).trans ((hF33.1 28 rfl).trans ((hF7.1 28 rfl).trans (ex_na1))))))) (vi := vi) (e_vi := show G685 29 = vi from ((hF690.1 29 rfl).trans ((hF632.1 29 rfl).trans ((hF60.1 29 rfl).trans ((hF33.1 29 rfl).trans ((hF7.1 29 rfl).trans (fx_29))))))) (lf := A 3 (ln2_687).toNat) (e_lf := show A686 3 (ln2_687).toNat = A 3 (ln2_687).toNat from (congrFun ((hF690.2 3 rfl).trans ((hF632.2 3 rfl).trans ((hF60.2 3 rfl).trans ((hF33.2 3 rfl).trans ((hF7.2 3 rfl).trans (hFx.2 3 rfl)))))) _)) (ac := at2_628) (e_ac := show G685 10 = at2_628 from ((hF690.1 10 rfl).trans (e634))) (i_LT := (LT_ext (((hF690.1 3 rfl).trans ((hF632.1 3 rfl).trans ((hF60.1 3 rfl).trans ((hF33.1 3 rfl).trans ((hF7.1 3 rfl).trans (hFx.1 3 rfl))))))) (((hF690.2 3 rfl).trans ((hF632.2 3 rfl).trans ((hF60.2 3 rfl).trans ((hF33.2 3 rfl).trans ((hF7.2 3 rfl).trans (hFx.2 3 rfl))))))) (((hF690.2 4 rfl).trans ((hF632.2 4 rfl).trans ((hF60.2 4 rfl).trans ((hF33.2 4 rfl).trans ((hF7.2 4 rfl).trans (hFx.2 4 rfl))))))) i_LT)) (i_SV := (SV_fx i_SV e_vi (show G685 29 = vi from ((hF690.1 29 rfl).trans ((hF632.1 29 rfl).trans ((hF60.1 29 rfl).trans ((hF33.1 29 rfl).trans ((hF7.1 29 rfl).trans (fx_29))))))) (by omega) hV697)) (i_PQ := (PQ_fx i_PQ hS696 (by omega) (hF694.2 29 rfl) (hF694.2 30 rfl))) (hvb := hvb) (h_lv := ⟨(by decide), (by decide)⟩)  (p_0 := by omega) (p_1 := by omega) (p_2 := by omega) (p_3 := by omega) (p_4 := by omega) (p_5 := by omega) (p_6 := by omega) (p_7 := by omega) (p_8 := by omega) (p_9 := by omega) (p_10 := by omega)) (fun o V' hq => ?_)
                              obtain ⟨G714, A715, r716, ln2_717, at2_718, fk2_719, nd2_720, sy2_721, na2_722, vi2_723, lf2_724, rfl, rfl, hW725, hF726, hQ727, hQ728, hQ729, b730, e731, e732, e733, e734, e735, e736, e737, e738, p739, p740, p741, p742, p743, p744, p745, p746, p747, q748⟩ := hq
                              have hF749 := Fr_tr hF694 hF726 (Fr_sub (by decide)) (Fr_sub (by decide))
                              have hP750 := Pf_tr hP695 hQ727 (by omega)
                              have hS751 := Fx_tr hS696 hQ728 (by omega)
                              have hV752 := Fx_tr hV697 hQ729 (by omega)
                              have sf753 : wB A715 Vs pb (nd) (nd1) (sy) (sy1) := wB_fx (fun k j hk hj => hQ727 k j hk (by omega)) (Fx_su hQ728 (by omega)) (Qg_fx (Fx_f (w := pb) Fx_rf hF726 (by decide)) (by omega)) (hF726.2 36 rfl) (by omega) sf698
                              have bln2_717 : (0 : Int) ≤ ln2_717 ∧ ln2_717 ≤ 3000 := e731 ▸ hW725.1 9
                              have bat2_718 : (0 : Int) ≤ at2_718 ∧ at2_718 ≤ 3002 := e732 ▸ hW725.1 10
                              have bfk2_719 : (0 : Int) ≤ fk2_719 ∧ fk2_719 ≤ 6 := e733 ▸ hW725.1 16
                              have bnd2_720 : (0 : Int) ≤ nd2_720 ∧ nd2_720 ≤ 6999 := e734 ▸ hW725.1 31
                              have bsy2_721 : (0 : Int) ≤ sy2_721 ∧ sy2_721 ≤ 202 := e735 ▸ hW725.1 19
                              have bna2_722 : (0 : Int) ≤ na2_722 ∧ na2_722 ≤ 200 := e736 ▸ hW725.1 28
                              have bvi2_723 : (0 : Int) ≤ vi2_723 ∧ vi2_723 ≤ 202 := e737 ▸ hW725.1 29
                              have blf2_724 : (0 : Int) ≤ lf2_724 ∧ lf2_724 ≤ 3000 := e738 ▸ hW725.2 3 _
                              refine .inr ⟨_, rfl, ?_⟩
                              rcases q748 with ⟨a754, a755⟩ | ⟨a756, a757, a758, a759, a760, a761, a762, a763⟩
                              · have _q : True := trivial
                                refine jr_st (pc' := 119) (i := 36) (m := 6) (z := r627) (y := r716) rfl (by decide) rfl (by decide) (by omega) (by omega) rfl ?_
                                have hW765 : Wk G714 (uA A715 36 (r627).toNat (r716)) := Wk_a hW725 (show (-2147483648 : Int) ≤ r716 by omega) (show r716 ≤ (2147483647 : Int) by omega)
                                have hF766 := Fr_a (z := r716) (k := 36) (n := (r627).toNat) hF749 (by decide)
                                obtain ⟨A764, eA764⟩ : ∃ q, q = uA A715 36 (r627).toNat (r716) := ⟨_, rfl⟩
                                rw [← eA764]
                                rw [← eA764] at hW765 hF766
                                have q767 : A764 36 (r627).toNat = r716 := by rw [eA764]; exact uA_eq
                                have hP768 : Pf nd A A764 := eA764 ▸ Pf_n hP750 rfl
                                have hS769 : Fx sr (sy) A A764 := eA764 ▸ Fx_n hS751 rfl
                                have hV770 : Fx [14] (vi) A A764 := eA764 ▸ Fx_n hV752 rfl
                                refine jx_inc (pc' := 122) (l' := jSto1 L684 1 (.int (i32 ((many + (1)))))) (x := many) rfl gL684_1 (by decide) rfl rfl ?_
                                obtain ⟨L771, eL771⟩ : ∃ q, q = jSto1 L684 1 (.int (i32 ((many + (1))))) := ⟨_, rfl⟩
                                rw [← eL771]
                                have gL771_0 : jGet L771 0 = some (.ref 66) := eL771 ▸ jg_ne (by decide) gL684_0 rfl
                                have gL771_2 : jGet L771 2 = some (.int (i32 (r627))) := eL771 ▸ jg_ne (by decide) gL684_2 rfl
                                have gL771_1 : jGet L771 1 = some (.int (i32 ((many + (1))))) := eL771 ▸ jg_eq
                                refine jx_go (tg := 19) rfl rfl ?_
                                refine jx_ld (pc' := 20) (l' := L771) (st' := [.ref 66]) rfl (jl_aloadn gL771_0) ?_
                                refine jx_ar (pc' := 21) (st' := [.int (i32 (0)), .ref 66]) rfl rfl rfl rfl ?_
                                have b772 : (-1 : Int) ≤ A 5 (ln2_717).toNat ∧ A 5 (ln2_717).toNat ≤ 15 := hW.2 5 _
                                refine jx_vr (pc' := 24) (as := [.int (i32 (0))]) (st := []) rfl rfl rfl rfl ⟨rfl, rfl, Nat.le_of_ble_eq_true rfl⟩ rfl rfl (c_isBelow (dd := d) (hd := by omega) (hW := hW765) (lv := 0) (ln := ln2_717) (e_ln := show G714 9 = ln2_717 from (e731)) (li := li) (e_li := show G714 3 = li from ((hF726.1 3 rfl).trans ((hF690.1 3 rfl).trans ((hF632.1 3 rfl).trans ((hF60.1 3 rfl).trans ((hF33.1 3 rfl).trans ((hF7.1 3 rfl).trans ((hFx.1 3 rfl).trans (e_li))))))))) (fk := fk2_719) (e_fk := show G714 16 = fk2_719 from (e733)) (ll := A 5 (ln2_717).toNat) (e_ll := show A764 5 (ln2_717).toNat = A 5 (ln2_717).toNat from (congrFun (((congrFun eA764 5).trans (uA_ne (by decide))).trans ((hF726.2 5 rfl).trans ((hF690.2 5 rfl).trans ((hF632.2 5 rfl).trans ((hF60.2 5 rfl).trans ((hF33.2 5 rfl).trans ((hF7.2 5 rfl).trans (hFx.2 5 rfl)))))))) _))  (h_lv := ⟨(by decide), (by decide)⟩)  (p_0 := by omega)) (fun o V' hq => ?_)
                                obtain ⟨G773, A774, r775, fk2_776, rfl, rfl, hW777, hF778, b779, e780, q781⟩ := hq
                                have hF782 := Fr_tr hF766 hF778 (Fr_sub (by decide)) (Fr_sub (by decide))
                                have hP783 := Pf_f hP768 hF778 (by decide)
                                have hS784 := Fx_f hS769 hF778 (by decide)
                                have hV785 := Fx_f hV770 hF778 (by decide)
                                have bfk2_776 : (0 : Int) ≤ fk2_776 ∧ fk2_776 ≤ 6 := e780 ▸ hW777.1 16
                                refine .inr ⟨_, rfl, ?_⟩
                                rcases q781 with ⟨rfl, a786, a787, a788, a789⟩ | ⟨rfl, a790⟩ | ⟨rfl, a791, a792, a793⟩
                                · have _q : True := trivial
                                  exfalso
                                  omega
                                · have _q : True := trivial
                                  refine jx_if_eq (pc' := 27) (tg := 125) rfl rfl rfl (by decide) (by decide) (fun h794 => ?_) (fun h794 => ?_)
                                  · have _q := h794
                                    refine jx_ld (pc' := 126) (l' := L771) (st' := [.ref 66]) rfl (jl_aloadn gL771_0) ?_
                                    refine jx_vr (pc' := 129) (as := []) (st := []) rfl rfl rfl rfl ⟨rfl, rfl, Nat.le_of_ble_eq_true rfl⟩ rfl rfl (c_bad (dd := d) (hd := by omega) (hW := hW777)  (fk := fk2_776) (e_fk := show G773 16 = fk2_776 from (e780))    ) (fun o V' hq => ?_)
                                    obtain ⟨r795, rfl, rfl, b796, q797⟩ := hq
                                    refine .inr ⟨_, rfl, ?_⟩
                                    rcases q797 with ⟨rfl, a798⟩ | ⟨rfl, a799⟩
                                    · have _q : True := trivial
                                      refine jx_if_ne (pc' := 132) (tg := 142) rfl rfl rfl (by decide) (by decide) (fun h800 => ?_) (fun h800 => ?_)
                                      · have _q := h800
                                        refine jx_rt (v := none) rfl rfl rfl rfl rfl rfl ?_
                                        exact ⟨_, _, ln2_717, at2_718, fk2_776, nd2_720, sy2_721, na2_722, vi2_723, lf2_724, rfl, rfl, hW777, hF782, hP783, hS784, hV785, ((hF778.1 9 rfl).trans (e731)), ((hF778.1 10 rfl).trans (e732)), (e780), ((hF778.1 31 rfl).trans (e734)), ((hF778.1 19 rfl).trans (e735)), ((hF778.1 28 rfl).trans (e736)), ((hF778.1 29 rfl).trans (e737)), (congrFun ((hF778.2 3 rfl).trans ((congrFun eA764 3).trans (uA_ne (by decide)))) _).trans (e738), by omega, by omega, by omega, by omega, by omega, by omega, by first | exact Or.inl (by omega)⟩
                                      · have _q := h800
                                        exact absurd h800 (by omega)
                                    · have _q : True := trivial
                                      exfalso
                                      omega
                                  · have _q := h794
                                    exact absurd h794 (by omega)
                                · have _q : True := trivial
                                  exfalso
                                  omega
                              · have _q : True := trivial
                                refine jr_st (pc' := 119) (i := 36) (m := 6) (z := r627) (y := r716) rfl (by decide) rfl (by decide) (by omega) (by omega) rfl ?_
                                have hW802 : Wk G714 (uA A715 36 (r627).toNat (r716)) := Wk_a hW725 (show (-2147483648 : Int) ≤ r716 by omega) (show r716 ≤ (2147483647 : Int) by omega)
                                have hF803 := Fr_a (z := r716) (k := 36) (n := (r627).toNat) hF749 (by decide)
                                obtain ⟨A801, eA801⟩ : ∃ q, q = uA A715 36 (r627).toNat (r716) := ⟨_, rfl⟩
                                rw [← eA801]
                                rw [← eA801] at hW802 hF803
                                have q804 : A801 36 (r627).toNat = r716 := by rw [eA801]; exact uA_eq
                                have hP805 : Pf nd A A801 := eA801 ▸ Pf_n hP750 rfl
                                have hS806 : Fx sr (sy) A A801 := eA801 ▸ Fx_n hS751 rfl
                                have hV807 : Fx [14] (vi) A A801 := eA801 ▸ Fx_n hV752 rfl
                                have sf808 : wB A801 Vs pb (nd) (nd2_720) (sy) (sy2_721) := wB_add eA801 sf753 (by omega) (by omega) (by omega) a762 (by omega) (by omega) rfl (by omega) (by omega) (by omega) (by omega) rfl
                                have sf809 : wP A801 (sy2_721) pb (18) (Vs) (r716) (nd1) (nd2_720) (sy1) (sy2_721) := wP_ag (Sg_ne eA801 rfl) (Qg_ne eA801 rfl) (by omega) (by omega) (Ax_ag (Ag_ne eA801 rfl)) a762
                                have sf810 : NX A801 (r716) := NX_r eA801 (by decide) a763
                                refine jx_inc (pc' := 122) (l' := jSto1 L684 1 (.int (i32 ((many + (1)))))) (x := many) rfl gL684_1 (by decide) rfl rfl ?_
                                obtain ⟨L811, eL811⟩ : ∃ q, q = jSto1 L684 1 (.int (i32 ((many + (1))))) := ⟨_, rfl⟩
                                rw [← eL811]
                                have gL811_0 : jGet L811 0 = some (.ref 66) := eL811 ▸ jg_ne (by decide) gL684_0 rfl
                                have gL811_2 : jGet L811 2 = some (.int (i32 (r627))) := eL811 ▸ jg_ne (by decide) gL684_2 rfl
                                have gL811_1 : jGet L811 1 = some (.int (i32 ((many + (1))))) := eL811 ▸ jg_eq
                                refine jx_go (tg := 19) rfl rfl ?_
                                exact ih19 _ (by omega) L811 G714 A801 ((many + (1))) (ln2_717) (at2_718) (fk2_719) (nd2_720) (sy2_721) (na2_722) (lf2_724) rfl gL811_0 gL811_1 hW802 hF803 hP805 hS806 hV807 ((e731)) ((e732)) ((e733)) ((e734)) ((e735)) ((e736)) ((congrFun ((congrFun eA801 3).trans (uA_ne (by decide))) _).trans (e738)) (Eq.trans (show G714 29 = vi2_723 from (e737)) (by omega)) (by omega) (by omega) (by omega) (by omega) (by omega) (by omega) (by omega) (by omega) (by omega) (by omega) (by omega) (by omega) (sf808)
                            · have _q := h713
                              exact absurd h713 (by omega)
                        · have _q : True := trivial
                          refine jx_ld (pc' := 101) (l' := L684) (st' := [.ref 66]) rfl (jl_aloadn gL684_0) ?_
                          refine jx_vr (pc' := 104) (as := []) (st := []) rfl rfl rfl rfl ⟨rfl, rfl, Nat.le_of_ble_eq_true rfl⟩ rfl rfl (c_bad (dd := d) (hd := by omega) (hW := hW689)  (fk := fk2_688) (e_fk := show G685 16 = fk2_688 from (e692))    ) (fun o V' hq => ?_)
                          obtain ⟨r812, rfl, rfl, b813, q814⟩ := hq
                          refine .inr ⟨_, rfl, ?_⟩
                          rcases q814 with ⟨rfl, a815⟩ | ⟨rfl, a816⟩
                          · have _q : True := trivial
                            refine jx_if_eq (pc' := 107) (tg := 108) rfl rfl rfl (by decide) (by decide) (fun h817 => ?_) (fun h817 => ?_)
                            · have _q := h817
                              exact absurd h817 (by omega)
                            · have _q := h817
                              refine jx_rt (v := none) rfl rfl rfl rfl rfl rfl ?_
                              exact ⟨_, _, ln2_687, at2_628, fk2_688, nd1, sy1, na1, vi, A 3 (ln2_687).toNat, rfl, rfl, hW689, hF694, hP695, hS696, hV697, (e691), ((hF690.1 10 rfl).trans (e634)), (e692), ((hF690.1 31 rfl).trans ((hF632.1 31 rfl).trans ((hF60.1 31 rfl).trans ((hF33.1 31 rfl).trans ((hF7.1 31 rfl).trans (ex_nd1)))))), ((hF690.1 19 rfl).trans ((hF632.1 19 rfl).trans ((hF60.1 19 rfl).trans ((hF33.1 19 rfl).trans ((hF7.1 19 rfl).trans (ex_sy1)))))), ((hF690.1 28 rfl).trans ((hF632.1 28 rfl).trans ((hF60.1 28 rfl).trans ((hF33.1 28 rfl).trans ((hF7.1 28 rfl).trans (ex_na1)))))), ((hF690.1 29 rfl).trans ((hF632.1 29 rfl).trans ((hF60.1 29 rfl).trans ((hF33.1 29 rfl).trans ((hF7.1 29 rfl).trans (fx_29)))))), (congrFun ((hF690.2 3 rfl).trans ((hF632.2 3 rfl).trans ((hF60.2 3 rfl).trans ((hF33.2 3 rfl).trans ((hF7.2 3 rfl).trans (hFx.2 3 rfl)))))) _), by omega, by omega, by omega, by omega, by omega, by omega, by first | exact Or.inl (by omega)⟩
                          · have _q : True := trivial
                            exfalso
                            omega
                    · have _q := h624
                      exact absurd h624 (by omega)
        · have _q : True := trivial
          refine jx_vr (pc' := 41) (as := [.int (i32 (0))]) (st := []) rfl rfl rfl rfl ⟨rfl, rfl, Nat.le_of_ble_eq_true rfl⟩ rfl rfl (c_need (dd := d) (hd := by omega) (hW := hW32) (g := 0) (ln := ln1) (e_ln := show G27 9 = ln1 from ((hF33.1 9 rfl).trans ((hF7.1 9 rfl).trans (ex_ln1)))) (le := A 4 (ln1).toNat) (e_le := show A28 4 (ln1).toNat = A 4 (ln1).toNat from (congrFun ((hF33.2 4 rfl).trans ((hF7.2 4 rfl).trans (hFx.2 4 rfl))) _)) (at0 := at2_29) (e_at0 := show G27 10 = at2_29 from (e34)) (fk := fk2_5) (e_fk := show G27 16 = fk2_5 from ((hF33.1 16 rfl).trans (e9))) (tk0 := tk2_30) (e_tk0 := show G27 11 = tk2_30 from (e35))  (h_g := ⟨(by decide), (by decide)⟩)  (p_0 := by omega)) (fun o V' hq => ?_)
          obtain ⟨G818, A819, at2_820, tk2_821, fk2_822, rfl, rfl, hW823, hF824, e825, e826, e827, p828, p829, q830⟩ := hq
          have hF831 := Fr_tr hF42 hF824 (Fr_sub (by decide)) (Fr_sub (by decide))
          have hP832 := Pf_f hP43 hF824 (by decide)
          have hS833 := Fx_f hS44 hF824 (by decide)
          have hV834 := Fx_f hV45 hF824 (by decide)
          have sf835 : wB A819 Vs pb (nd) (nd1) (sy) (sy1) := (show A819 = A28 from funext (fun k => hF824.2 k rfl)) ▸ sf46
          have bat2_820 : (0 : Int) ≤ at2_820 ∧ at2_820 ≤ 3002 := e825 ▸ hW823.1 10
          have ztk2_821 := tz_b tk2_821
          have btk2_821 : (0 : Int) ≤ tk2_821 ∧ tk2_821 ≤ 5 := e826 ▸ hW823.1 11
          have bfk2_822 : (0 : Int) ≤ fk2_822 ∧ fk2_822 ≤ 6 := e827 ▸ hW823.1 16
          refine .inl ⟨rfl, ?_⟩
          rcases q830 with ⟨a836, a837, a838, a839⟩ | ⟨a840, a841, a842, a843⟩
          · have _q : True := trivial
            refine jx_ld (pc' := 42) (l' := L) (st' := [.ref 66]) rfl (jl_aloadn gL_0) ?_
            refine jx_vr (pc' := 45) (as := []) (st := []) rfl rfl rfl rfl ⟨rfl, rfl, Nat.le_of_ble_eq_true rfl⟩ rfl rfl (c_bad (dd := d) (hd := by omega) (hW := hW823)  (fk := fk2_822) (e_fk := show G818 16 = fk2_822 from (e827))    ) (fun o V' hq => ?_)
            obtain ⟨r844, rfl, rfl, b845, q846⟩ := hq
            refine .inr ⟨_, rfl, ?_⟩
            rcases q846 with ⟨rfl, a847⟩ | ⟨rfl, a848⟩
            · have _q : True := trivial
              refine jx_if_ne (pc' := 48) (tg := 89) rfl rfl rfl (by decide) (by decide) (fun h849 => ?_) (fun h849 => ?_)
              · have _q := h849
                refine jx_ld (pc' := 90) (l' := L) (st' := [.ref 66]) rfl (jl_aloadn gL_0) ?_
                refine jx_ar (pc' := 91) (st' := [.int (i32 (0)), .ref 66]) rfl rfl rfl rfl ?_
                refine jx_ar (pc' := 92) (st' := [.int (i32 (5)), .int (i32 (0)), .ref 66]) rfl rfl rfl rfl ?_
                have b850 : (-2147483648 : Int) ≤ G818 13 ∧ G818 13 ≤ 2147483647 := hW823.1 13
                refine jx_vr (pc' := 95) (as := [.int (i32 (0)), .int (i32 (5))]) (st := []) rfl rfl rfl rfl ⟨rfl, rfl, Nat.le_of_ble_eq_true rfl⟩ rfl rfl (c_needNumber2 (dd := d) (hd := by omega) (hW := hW823) (lo := 0) (hi := 5) (ln := ln1) (e_ln := show G818 9 = ln1 from ((hF824.1 9 rfl).trans ((hF33.1 9 rfl).trans ((hF7.1 9 rfl).trans (ex_ln1))))) (le := A 4 (ln1).toNat) (e_le := show A819 4 (ln1).toNat = A 4 (ln1).toNat from (congrFun ((hF824.2 4 rfl).trans ((hF33.2 4 rfl).trans ((hF7.2 4 rfl).trans (hFx.2 4 rfl)))) _)) (at0 := at2_820) (e_at0 := show G818 10 = at2_820 from (e825)) (fk := fk2_822) (e_fk := show G818 16 = fk2_822 from (e827)) (tk0 := tk2_821) (e_tk0 := show G818 11 = tk2_821 from (e826)) (tn := G818 13) (e_tn := show G818 13 = G818 13 from rfl)  (h_lo := ⟨(by decide), (by decide)⟩) (h_hi := ⟨(by decide), (by decide)⟩)  (p_0 := by omega)) (fun o V' hq => ?_)
                obtain ⟨G851, A852, r853, at2_854, tk2_855, fk2_856, rfl, rfl, hW857, hF858, b859, e860, e861, e862, p863, p864, q865⟩ := hq
                have hF866 := Fr_tr hF831 hF858 (Fr_sub (by decide)) (Fr_sub (by decide))
                have hP867 := Pf_f hP832 hF858 (by decide)
                have hS868 := Fx_f hS833 hF858 (by decide)
                have hV869 := Fx_f hV834 hF858 (by decide)
                have sf870 : wB A852 Vs pb (nd) (nd1) (sy) (sy1) := (show A852 = A819 from funext (fun k => hF858.2 k rfl)) ▸ sf835
                have bat2_854 : (0 : Int) ≤ at2_854 ∧ at2_854 ≤ 3002 := e860 ▸ hW857.1 10
                have ztk2_855 := tz_b tk2_855
                have btk2_855 : (0 : Int) ≤ tk2_855 ∧ tk2_855 ≤ 5 := e861 ▸ hW857.1 11
                have bfk2_856 : (0 : Int) ≤ fk2_856 ∧ fk2_856 ≤ 6 := e862 ▸ hW857.1 16
                refine .inr ⟨_, rfl, ?_⟩
                rcases q865 with ⟨a871, a872, a873, a874⟩ | ⟨a875, a876, a877, a878, a879, a880, a881⟩
                · have _q : True := trivial
                  refine jx_ld (pc' := 96) (l' := jSto1 L 2 (.int (i32 (r853)))) (st' := []) rfl rfl ?_
                  obtain ⟨L882, eL882⟩ : ∃ q, q = jSto1 L 2 (.int (i32 (r853))) := ⟨_, rfl⟩
                  rw [← eL882]
                  have gL882_0 : jGet L882 0 = some (.ref 66) := eL882 ▸ jg_ne (by decide) gL_0 rfl
                  have gL882_1 : jGet L882 1 = some (.int (i32 (many))) := eL882 ▸ jg_ne (by decide) gL_1 rfl
                  have gL882_2 : jGet L882 2 = some (.int (i32 (r853))) := eL882 ▸ jg_eq
                  refine jx_ld (pc' := 97) (l' := L882) (st' := [.ref 66]) rfl (jl_aloadn gL882_0) ?_
                  refine jx_vr (pc' := 100) (as := []) (st := []) rfl rfl rfl rfl ⟨rfl, rfl, Nat.le_of_ble_eq_true rfl⟩ rfl rfl (c_endLine (dd := d) (hd := by omega) (hW := hW857)  (ln := ln1) (e_ln := show G851 9 = ln1 from ((hF858.1 9 rfl).trans ((hF824.1 9 rfl).trans ((hF33.1 9 rfl).trans ((hF7.1 9 rfl).trans (ex_ln1)))))) (li := li) (e_li := show G851 3 = li from ((hF858.1 3 rfl).trans ((hF824.1 3 rfl).trans ((hF33.1 3 rfl).trans ((hF7.1 3 rfl).trans ((hFx.1 3 rfl).trans (e_li))))))) (fk := fk2_856) (e_fk := show G851 16 = fk2_856 from (e862)) (tk0 := tk2_855) (e_tk0 := show G851 11 = tk2_855 from (e861))    (p_0 := by omega)) (fun o V' hq => ?_)
                  obtain ⟨G883, A884, ln2_885, fk2_886, rfl, rfl, hW887, hF888, e889, e890, q891⟩ := hq
                  have hF892 := Fr_tr hF866 hF888 (Fr_sub (by decide)) (Fr_sub (by decide))
                  have hP893 := Pf_f hP867 hF888 (by decide)
                  have hS894 := Fx_f hS868 hF888 (by decide)
                  have hV895 := Fx_f hV869 hF888 (by decide)
                  have sf896 : wB A884 Vs pb (nd) (nd1) (sy) (sy1) := (show A884 = A852 from funext (fun k => hF888.2 k rfl)) ▸ sf870
                  have bln2_885 : (0 : Int) ≤ ln2_885 ∧ ln2_885 ≤ 3000 := e889 ▸ hW887.1 9
                  have bfk2_886 : (0 : Int) ≤ fk2_886 ∧ fk2_886 ≤ 6 := e890 ▸ hW887.1 16
                  refine .inl ⟨rfl, ?_⟩
                  rcases q891 with ⟨a897, a898, a899, a900, a901⟩ | ⟨a902, a903⟩
                  · have _q : True := trivial
                    exfalso
                    omega
                  · have _q : True := trivial
                    refine jx_ld (pc' := 101) (l' := L882) (st' := [.ref 66]) rfl (jl_aloadn gL882_0) ?_
                    refine jx_vr (pc' := 104) (as := []) (st := []) rfl rfl rfl rfl ⟨rfl, rfl, Nat.le_of_ble_eq_true rfl⟩ rfl rfl (c_bad (dd := d) (hd := by omega) (hW := hW887)  (fk := fk2_886) (e_fk := show G883 16 = fk2_886 from (e890))    ) (fun o V' hq => ?_)
                    obtain ⟨r904, rfl, rfl, b905, q906⟩ := hq
                    refine .inr ⟨_, rfl, ?_⟩
                    rcases q906 with ⟨rfl, a907⟩ | ⟨rfl, a908⟩
                    · have _q : True := trivial
                      refine jx_if_eq (pc' := 107) (tg := 108) rfl rfl rfl (by decide) (by decide) (fun h909 => ?_) (fun h909 => ?_)
                      · have _q := h909
                        exact absurd h909 (by omega)
                      · have _q := h909
                        refine jx_rt (v := none) rfl rfl rfl rfl rfl rfl ?_
                        exact ⟨_, _, ln2_885, at2_854, fk2_886, nd1, sy1, na1, vi, A 3 (ln2_885).toNat, rfl, rfl, hW887, hF892, hP893, hS894, hV895, (e889), ((hF888.1 10 rfl).trans (e860)), (e890), ((hF888.1 31 rfl).trans ((hF858.1 31 rfl).trans ((hF824.1 31 rfl).trans ((hF33.1 31 rfl).trans ((hF7.1 31 rfl).trans (ex_nd1)))))), ((hF888.1 19 rfl).trans ((hF858.1 19 rfl).trans ((hF824.1 19 rfl).trans ((hF33.1 19 rfl).trans ((hF7.1 19 rfl).trans (ex_sy1)))))), ((hF888.1 28 rfl).trans ((hF858.1 28 rfl).trans ((hF824.1 28 rfl).trans ((hF33.1 28 rfl).trans ((hF7.1 28 rfl).trans (ex_na1)))))), ((hF888.1 29 rfl).trans ((hF858.1 29 rfl).trans ((hF824.1 29 rfl).trans ((hF33.1 29 rfl).trans ((hF7.1 29 rfl).trans (fx_29)))))), (congrFun ((hF888.2 3 rfl).trans ((hF858.2 3 rfl).trans ((hF824.2 3 rfl).trans ((hF33.2 3 rfl).trans ((hF7.2 3 rfl).trans (hFx.2 3 rfl)))))) _), by omega, by omega, by omega, by omega, by omega, by omega, by first | exact Or.inl (by omega)⟩
                    · have _q : True := trivial
                      exfalso
                      omega
                · have _q : True := trivial
                  exfalso
                  omega
              · have _q := h849
                exact absurd h849 (by omega)
            · have _q : True := trivial
              exfalso
              omega
          · have _q : True := trivial
            exfalso
            omega
    · have _q : True := trivial
      refine jx_if_eq (pc' := 27) (tg := 125) rfl rfl rfl (by decide) (by decide) (fun h910 => ?_) (fun h910 => ?_)
      · have _q := h910
        refine jx_ld (pc' := 126) (l' := L) (st' := [.ref 66]) rfl (jl_aloadn gL_0) ?_
        refine jx_vr (pc' := 129) (as := []) (st := []) rfl rfl rfl rfl ⟨rfl, rfl, Nat.le_of_ble_eq_true rfl⟩ rfl rfl (c_bad (dd := d) (hd := by omega) (hW := hW6)  (fk := fk2_5) (e_fk := show G2 16 = fk2_5 from (e9))    ) (fun o V' hq => ?_)
        obtain ⟨r911, rfl, rfl, b912, q913⟩ := hq
        refine .inr ⟨_, rfl, ?_⟩
        rcases q913 with ⟨rfl, a914⟩ | ⟨rfl, a915⟩
        · have _q : True := trivial
          refine jx_if_ne (pc' := 132) (tg := 142) rfl rfl rfl (by decide) (by decide) (fun h916 => ?_) (fun h916 => ?_)
          · have _q := h916
            refine jx_rt (v := none) rfl rfl rfl rfl rfl rfl ?_
            exact ⟨_, _, ln1, at1, fk2_5, nd1, sy1, na1, vi, lf1, rfl, rfl, hW6, hF11, hP12, hS13, hV14, ((hF7.1 9 rfl).trans (ex_ln1)), ((hF7.1 10 rfl).trans (ex_at1)), (e9), ((hF7.1 31 rfl).trans (ex_nd1)), ((hF7.1 19 rfl).trans (ex_sy1)), ((hF7.1 28 rfl).trans (ex_na1)), ((hF7.1 29 rfl).trans (fx_29)), (congrFun (hF7.2 3 rfl) _).trans (ex_lf1), by omega, by omega, by omega, by omega, by omega, by omega, by first | exact Or.inl (by omega)⟩
          · have _q := h916
            exact absurd h916 (by omega)
        · have _q : True := trivial
          exfalso
          omega
      · have _q := h910
        exact absurd h910 (by omega)
    · have _q : True := trivial
      refine jx_if_eq (pc' := 27) (tg := 125) rfl rfl rfl (by decide) (by decide) (fun h917 => ?_) (fun h917 => ?_)
      · have _q := h917
        refine jx_ld (pc' := 126) (l' := L) (st' := [.ref 66]) rfl (jl_aloadn gL_0) ?_
        refine jx_vr (pc' := 129) (as := []) (st := []) rfl rfl rfl rfl ⟨rfl, rfl, Nat.le_of_ble_eq_true rfl⟩ rfl rfl (c_bad (dd := d) (hd := by omega) (hW := hW6)  (fk := fk2_5) (e_fk := show G2 16 = fk2_5 from (e9))    ) (fun o V' hq => ?_)
        obtain ⟨r918, rfl, rfl, b919, q920⟩ := hq
        refine .inr ⟨_, rfl, ?_⟩
        rcases q920 with ⟨rfl, a921⟩ | ⟨rfl, a922⟩
        · have _q : True := trivial
          exfalso
          omega
        · have _q : True := trivial
          refine jx_if_ne (pc' := 132) (tg := 142) rfl rfl rfl (by decide) (by decide) (fun h923 => ?_) (fun h923 => ?_)
          · have _q := h923
            exact absurd h923 (by omega)
          · have _q := h923
            refine jx_ld (pc' := 133) (l' := L) (st' := [.int (i32 (many))]) rfl (jl_iloadn gL_1) ?_
            refine jx_if_ne (pc' := 136) (tg := 142) rfl rfl rfl (Int.le_trans (by decide : (-2147483648 : Int) ≤ -2147483648) rx_many.1) (Int.le_trans rx_many.2 (by decide : (2147483647 : Int) ≤ 2147483647)) (fun h924 => ?_) (fun h924 => ?_)
            · have _q := h924
              refine jx_rt (v := none) rfl rfl rfl rfl rfl rfl ?_
              exact ⟨_, _, ln1, at1, fk2_5, nd1, sy1, na1, vi, lf1, rfl, rfl, hW6, hF11, hP12, hS13, hV14, ((hF7.1 9 rfl).trans (ex_ln1)), ((hF7.1 10 rfl).trans (ex_at1)), (e9), ((hF7.1 31 rfl).trans (ex_nd1)), ((hF7.1 19 rfl).trans (ex_sy1)), ((hF7.1 28 rfl).trans (ex_na1)), ((hF7.1 29 rfl).trans (fx_29)), (congrFun (hF7.2 3 rfl) _).trans (ex_lf1), by omega, by omega, by omega, by omega, by omega, by omega, by first | exact Or.inr ((⟨by omega, sf15⟩))⟩
            · have _q := h924
              refine jx_ld (pc' := 137) (l' := L) (st' := [.ref 66]) rfl (jl_aloadn gL_0) ?_
              refine jx_ar (pc' := 138) (st' := [.int (i32 (1)), .ref 66]) rfl rfl rfl rfl ?_
              refine jx_vr (pc' := 141) (as := [.int (i32 (1))]) (st := []) rfl rfl rfl rfl ⟨rfl, rfl, Nat.le_of_ble_eq_true rfl⟩ rfl rfl (c_needLevel (dd := d) (hd := by omega) (hW := hW6) (lv := 1) (ln := ln1) (e_ln := show G2 9 = ln1 from ((hF7.1 9 rfl).trans (ex_ln1))) (li := li) (e_li := show G2 3 = li from ((hF7.1 3 rfl).trans ((hFx.1 3 rfl).trans (e_li)))) (fk := fk2_5) (e_fk := show G2 16 = fk2_5 from (e9)) (ll := A 5 (ln1).toNat) (e_ll := show A3 5 (ln1).toNat = A 5 (ln1).toNat from (congrFun ((hF7.2 5 rfl).trans (hFx.2 5 rfl)) _))  (h_lv := ⟨(by decide), (by decide)⟩)  ) (fun o V' hq => ?_)
              obtain ⟨G925, A926, r927, fk2_928, rfl, rfl, hW929, hF930, b931, e932, q933⟩ := hq
              have hF934 := Fr_tr hF11 hF930 (Fr_sub (by decide)) (Fr_sub (by decide))
              have hP935 := Pf_f hP12 hF930 (by decide)
              have hS936 := Fx_f hS13 hF930 (by decide)
              have hV937 := Fx_f hV14 hF930 (by decide)
              have sf938 : wB A926 Vs pb (nd) (nd1) (sy) (sy1) := (show A926 = A3 from funext (fun k => hF930.2 k rfl)) ▸ sf15
              have bfk2_928 : (0 : Int) ≤ fk2_928 ∧ fk2_928 ≤ 6 := e932 ▸ hW929.1 16
              refine .inr ⟨_, rfl, ?_⟩
              rcases q933 with ⟨rfl, a939, a940, a941, a942⟩ | ⟨rfl, a943⟩
              · have _q : True := trivial
                have b944 : (0 : Int) ≤ A 4 (ln1).toNat ∧ A 4 (ln1).toNat ≤ 3000 := hW.2 4 _
                have lt945 : lf1 < A 4 (ln1).toNat := LT_at (LT_ext (((hF930.1 3 rfl).trans ((hF7.1 3 rfl).trans (hFx.1 3 rfl)))) (((hF930.2 3 rfl).trans ((hF7.2 3 rfl).trans (hFx.2 3 rfl)))) (((hF930.2 4 rfl).trans ((hF7.2 4 rfl).trans (hFx.2 4 rfl)))) i_LT) (show G925 3 = li from ((hF930.1 3 rfl).trans ((hF7.1 3 rfl).trans ((hFx.1 3 rfl).trans (e_li))))) (show A926 3 (ln1).toNat = lf1 from (congrFun ((hF930.2 3 rfl).trans (hF7.2 3 rfl)) _).trans (ex_lf1)) (show A926 4 (ln1).toNat = A 4 (ln1).toNat from (congrFun ((hF930.2 4 rfl).trans ((hF7.2 4 rfl).trans (hFx.2 4 rfl))) _)) (by omega) (by omega)
                refine jx_ar (pc' := 142) (st' := []) rfl rfl rfl rfl ?_
                refine jx_rt (v := none) rfl rfl rfl rfl rfl rfl ?_
                exact ⟨_, _, ln1, at1, fk2_928, nd1, sy1, na1, vi, lf1, rfl, rfl, hW929, hF934, hP935, hS936, hV937, ((hF930.1 9 rfl).trans ((hF7.1 9 rfl).trans (ex_ln1))), ((hF930.1 10 rfl).trans ((hF7.1 10 rfl).trans (ex_at1))), (e932), ((hF930.1 31 rfl).trans ((hF7.1 31 rfl).trans (ex_nd1))), ((hF930.1 19 rfl).trans ((hF7.1 19 rfl).trans (ex_sy1))), ((hF930.1 28 rfl).trans ((hF7.1 28 rfl).trans (ex_na1))), ((hF930.1 29 rfl).trans ((hF7.1 29 rfl).trans (fx_29))), (congrFun ((hF930.2 3 rfl).trans (hF7.2 3 rfl)) _).trans (ex_lf1), by omega, by omega, by omega, by omega, by omega, by omega, by first | exact Or.inr ((⟨by omega, sf938⟩))⟩
              · have _q : True := trivial
                refine jx_ar (pc' := 142) (st' := []) rfl rfl rfl rfl ?_
                refine jx_rt (v := none) rfl rfl rfl rfl rfl rfl ?_
                exact ⟨_, _, ln1, at1, fk2_928, nd1, sy1, na1, vi, lf1, rfl, rfl, hW929, hF934, hP935, hS936, hV937, ((hF930.1 9 rfl).trans ((hF7.1 9 rfl).trans (ex_ln1))), ((hF930.1 10 rfl).trans ((hF7.1 10 rfl).trans (ex_at1))), (e932), ((hF930.1 31 rfl).trans ((hF7.1 31 rfl).trans (ex_nd1))), ((hF930.1 19 rfl).trans ((hF7.1 19 rfl).trans (ex_sy1))), ((hF930.1 28 rfl).trans ((hF7.1 28 rfl).trans (ex_na1))), ((hF930.1 29 rfl).trans ((hF7.1 29 rfl).trans (fx_29))), (congrFun ((hF930.2 3 rfl).trans (hF7.2 3 rfl)) _).trans (ex_lf1), by omega, by omega, by omega, by omega, by omega, by omega, by first | exact Or.inl (by omega)⟩
      · have _q := h917
        exact absurd h917 (by omega)
set_option maxRecDepth 20000 in
set_option maxHeartbeats 4000000 in
theorem c_readPlaced {X : jX} {dd : Nat} {Vs : Nat → Prop} {sb pb : Int} (hvb : VB Vs sb) {c0 c1 : jC} {G : Nat → Int} {A : Nat → Nat → Int} {T : jH} {ln li at0 fk nd sy na vi le op0 tk0 : Int} (hd : 8 * 18 + 81 ≤ dd) (hW : Wk G A) (e_ln : G 9 = ln) (e_li : G 3 = li) (e_at0 : G 10 = at0) (e_fk : G 16 = fk) (e_nd : G 31 = nd) (e_sy : G 19 = sy) (e_na : G 28 = na) (e_vi : G 29 = vi) (e_le : A 4 (ln).toNat = le) (e_op0 : G 15 = op0) (e_tk0 : G 11 = tk0) (i_LT : LT G A) (i_SV : SV Vs sb G A) (i_PQ : PQ Vs sb pb G A) (p_0 : fk = 0) (p_1 : 1 ≤ nd) (p_2 : ln < li) (p_3 : at0 ≤ le) (p_4 : nd ≤ 2 * at0 - tz tk0 + 30) (p_5 : sy ≤ na + 2) (p_6 : vi ≤ sy) (p_7 : sb ≤ sy) (p_8 : PZ A) : wk X dd 311 [.ref 66] (rV c0 c1 G A T) (fun o V' => ∃ (G' : Nat → Int) (A' : Nat → Nat → Int) (ln2 : Int) (at2 : Int) (fk2 : Int) (nd2 : Int) (sy2 : Int) (na2 : Int) (vi2 : Int) (lf2 : Int), V' = rV c0 c1 G' A' T ∧ o = .inl none ∧ Wk G' A' ∧ Fr [9, 10, 11, 12, 13, 14, 15, 16, 17, 18, 19, 28, 29, 31] [6, 7, 8, 9, 10, 11, 12, 14, 15, 16, 17, 18, 19, 20, 21, 22, 23, 24, 28, 36] G A G' A' ∧ Pf nd A A' ∧ Fx sr (sy) A A' ∧ Fx [14] (vi) A A' ∧ G' 9 = ln2 ∧ G' 10 = at2 ∧ G' 16 = fk2 ∧ G' 31 = nd2 ∧ G' 19 = sy2 ∧ G' 28 = na2 ∧ G' 29 = vi2 ∧ A' 3 (ln2).toNat = lf2 ∧ (nd ≤ nd2) ∧ (sy ≤ sy2) ∧ (sy2 ≤ na2 + 2) ∧ (vi2 = vi) ∧ (ln ≤ ln2) ∧ (ln2 ≤ li) ∧ (((1 ≤ fk2)) ∨ ((fk2 = 0) ∧ (wB A' Vs pb (nd) (nd2) (sy) (sy2))))) := by
  obtain ⟨d, rfl⟩ : ∃ d, dd = d + 1 := ⟨dd - 1, by omega⟩
  refine wk_of (e := jm311) rfl (Nat.le_of_ble_eq_true rfl) ?_
  show wj X d jm311 (0, [(0, .ref 66)], [], rV c0 c1 G A T) _
  have hF0 : Fr [9, 10, 11, 12, 13, 14, 15, 16, 17, 18, 19, 28, 29, 31] [6, 7, 8, 9, 10, 11, 12, 14, 15, 16, 17, 18, 19, 20, 21, 22, 23, 24, 28, 36] G A G A := Fr_rf
  have hP0 : Pf nd A A := Pf_rf
  have hS0 : Fx sr (sy) A A := Fx_rf
  have hV0 : Fx [14] (vi) A A := Fx_rf
  have b_ln : (0 : Int) ≤ ln ∧ ln ≤ 3000 := e_ln ▸ hW.1 9
  have b_li : (0 : Int) ≤ li ∧ li ≤ 3000 := e_li ▸ hW.1 3
  have b_at0 : (0 : Int) ≤ at0 ∧ at0 ≤ 3002 := e_at0 ▸ hW.1 10
  have b_fk : (0 : Int) ≤ fk ∧ fk ≤ 6 := e_fk ▸ hW.1 16
  have b_nd : (0 : Int) ≤ nd ∧ nd ≤ 6999 := e_nd ▸ hW.1 31
  have b_sy : (0 : Int) ≤ sy ∧ sy ≤ 202 := e_sy ▸ hW.1 19
  have b_na : (0 : Int) ≤ na ∧ na ≤ 200 := e_na ▸ hW.1 28
  have b_vi : (0 : Int) ≤ vi ∧ vi ≤ 202 := e_vi ▸ hW.1 29
  have b_le : (0 : Int) ≤ le ∧ le ≤ 3000 := e_le ▸ hW.2 4 _
  have b_op0 : (-2147483648 : Int) ≤ op0 ∧ op0 ≤ 2147483647 := e_op0 ▸ hW.1 15
  have z_tk0 := tz_f tk0
  have b_tk0 : (0 : Int) ≤ tk0 ∧ tk0 ≤ 5 := e_tk0 ▸ hW.1 11
  refine jx_ld (pc' := 1) (l' := [(0, .ref 66)]) (st' := [.ref 66]) rfl (jl_aloadn rfl) ?_
  refine jx_vr (pc' := 4) (as := []) (st := []) rfl rfl rfl rfl ⟨rfl, rfl, Nat.le_of_ble_eq_true rfl⟩ rfl rfl (c_next (dd := d) (hd := by omega) (hW := hW)  (ln := ln) (e_ln := show G 9 = ln from (e_ln)) (le := le) (e_le := show A 4 (ln).toNat = le from (e_le)) (at0 := at0) (e_at0 := show G 10 = at0 from (e_at0))    (p_0 := by omega)) (fun o V' hq => ?_)
  obtain ⟨G946, A947, at2_948, tk2_949, rfl, rfl, hW950, hF951, e952, e953, p954, p955, p956, -⟩ := hq
  have hF958 := Fr_tr hF0 hF951 (Fr_sub (by decide)) (Fr_sub (by decide))
  have hP959 := Pf_f hP0 hF951 (by decide)
  have hS960 := Fx_f hS0 hF951 (by decide)
  have hV961 := Fx_f hV0 hF951 (by decide)
  have sf962 : PZ A947 := (show A947 = A from funext (fun k => hF951.2 k rfl)) ▸ p_8
  have bat2_948 : (0 : Int) ≤ at2_948 ∧ at2_948 ≤ 3002 := e952 ▸ hW950.1 10
  have ztk2_949 := tz_b tk2_949
  have btk2_949 : (0 : Int) ≤ tk2_949 ∧ tk2_949 ≤ 5 := e953 ▸ hW950.1 11
  refine .inl ⟨rfl, ?_⟩
  refine jx_ld (pc' := 5) (l' := [(0, .ref 66)]) (st' := [.ref 66]) rfl (jl_aloadn rfl) ?_
  refine jx_ld (pc' := 6) (l' := [(0, .ref 66)]) (st' := [.ref 66, .ref 66]) rfl (jl_aloadn rfl) ?_
  refine jx_ar (pc' := 7) (st' := [.int (i32 (2)), .ref 66, .ref 66]) rfl rfl rfl rfl ?_
  have b963 : (-2147483648 : Int) ≤ G946 13 ∧ G946 13 ≤ 2147483647 := hW950.1 13
  refine jx_vr (pc' := 10) (as := [.int (i32 (2))]) (st := [.ref 66]) rfl rfl rfl rfl ⟨rfl, rfl, Nat.le_of_ble_eq_true rfl⟩ rfl rfl (c_isKey (dd := d) (hd := by omega) (hW := hW950) (k := 2) (tk := tk2_949) (e_tk := show G946 11 = tk2_949 from (e953)) (tn := G946 13) (e_tn := show G946 13 = G946 13 from rfl)  (h_k := ⟨(by decide), (by decide)⟩)  ) (fun o V' hq => ?_)
  obtain ⟨r964, rfl, rfl, b965, q966⟩ := hq
  refine .inr ⟨_, rfl, ?_⟩
  rcases q966 with ⟨rfl, a967, a968, a969⟩ | rfl
  · have _q : True := trivial
    refine jx_vr (pc' := 13) (as := [.int (i32 (1))]) (st := []) rfl rfl rfl rfl ⟨rfl, rfl, Nat.le_of_ble_eq_true rfl⟩ rfl rfl (c_need (dd := d) (hd := by omega) (hW := hW950) (g := 1) (ln := ln) (e_ln := show G946 9 = ln from ((hF951.1 9 rfl).trans (e_ln))) (le := le) (e_le := show A947 4 (ln).toNat = le from (congrFun (hF951.2 4 rfl) _).trans (e_le)) (at0 := at2_948) (e_at0 := show G946 10 = at2_948 from (e952)) (fk := fk) (e_fk := show G946 16 = fk from ((hF951.1 16 rfl).trans (e_fk))) (tk0 := tk2_949) (e_tk0 := show G946 11 = tk2_949 from (e953))  (h_g := ⟨(by decide), (by decide)⟩)  (p_0 := by omega)) (fun o V' hq => ?_)
    obtain ⟨G970, A971, at2_972, tk2_973, fk2_974, rfl, rfl, hW975, hF976, e977, e978, e979, p980, p981, q982⟩ := hq
    have hF983 := Fr_tr hF958 hF976 (Fr_sub (by decide)) (Fr_sub (by decide))
    have hP984 := Pf_f hP959 hF976 (by decide)
    have hS985 := Fx_f hS960 hF976 (by decide)
    have hV986 := Fx_f hV961 hF976 (by decide)
    have sf987 : PZ A971 := (show A971 = A947 from funext (fun k => hF976.2 k rfl)) ▸ sf962
    have bat2_972 : (0 : Int) ≤ at2_972 ∧ at2_972 ≤ 3002 := e977 ▸ hW975.1 10
    have ztk2_973 := tz_b tk2_973
    have btk2_973 : (0 : Int) ≤ tk2_973 ∧ tk2_973 ≤ 5 := e978 ▸ hW975.1 11
    have bfk2_974 : (0 : Int) ≤ fk2_974 ∧ fk2_974 ≤ 6 := e979 ▸ hW975.1 16
    refine .inl ⟨rfl, ?_⟩
    rcases q982 with ⟨a988, a989, a990, a991⟩ | ⟨a992, a993, a994, a995⟩
    · have _q : True := trivial
      refine jx_ld (pc' := 14) (l' := [(0, .ref 66)]) (st' := [.ref 66]) rfl (jl_aloadn rfl) ?_
      refine jx_vr (pc' := 17) (as := []) (st := []) rfl rfl rfl rfl ⟨rfl, rfl, Nat.le_of_ble_eq_true rfl⟩ rfl rfl (c_endLine (dd := d) (hd := by omega) (hW := hW975)  (ln := ln) (e_ln := show G970 9 = ln from ((hF976.1 9 rfl).trans ((hF951.1 9 rfl).trans (e_ln)))) (li := li) (e_li := show G970 3 = li from ((hF976.1 3 rfl).trans ((hF951.1 3 rfl).trans (e_li)))) (fk := fk2_974) (e_fk := show G970 16 = fk2_974 from (e979)) (tk0 := tk2_973) (e_tk0 := show G970 11 = tk2_973 from (e978))    (p_0 := by omega)) (fun o V' hq => ?_)
      obtain ⟨G996, A997, ln2_998, fk2_999, rfl, rfl, hW1000, hF1001, e1002, e1003, q1004⟩ := hq
      have hF1005 := Fr_tr hF983 hF1001 (Fr_sub (by decide)) (Fr_sub (by decide))
      have hP1006 := Pf_f hP984 hF1001 (by decide)
      have hS1007 := Fx_f hS985 hF1001 (by decide)
      have hV1008 := Fx_f hV986 hF1001 (by decide)
      have sf1009 : PZ A997 := (show A997 = A971 from funext (fun k => hF1001.2 k rfl)) ▸ sf987
      have bln2_998 : (0 : Int) ≤ ln2_998 ∧ ln2_998 ≤ 3000 := e1002 ▸ hW1000.1 9
      have bfk2_999 : (0 : Int) ≤ fk2_999 ∧ fk2_999 ≤ 6 := e1003 ▸ hW1000.1 16
      refine .inl ⟨rfl, ?_⟩
      rcases q1004 with ⟨a1010, a1011, a1012, a1013, a1014⟩ | ⟨a1015, a1016⟩
      · have _q : True := trivial
        exfalso
        omega
      · have _q : True := trivial
        refine jx_ar (pc' := 18) (st' := [.int (i32 (0))]) rfl rfl rfl rfl ?_
        refine jx_ld (pc' := 19) (l' := jSto1 [(0, .ref 66)] 1 (.int (i32 (0)))) (st' := []) rfl rfl ?_
        obtain ⟨L1017, eL1017⟩ : ∃ q, q = jSto1 [(0, .ref 66)] 1 (.int (i32 (0))) := ⟨_, rfl⟩
        rw [← eL1017]
        have gL1017_0 : jGet L1017 0 = some (.ref 66) := eL1017 ▸ jg_ne (by decide) (rfl : jGet [(0, .ref 66)] 0 = some (.ref 66)) rfl
        have gL1017_1 : jGet L1017 1 = some (.int (i32 (0))) := eL1017 ▸ jg_eq
        refine jx_ld (pc' := 20) (l' := L1017) (st' := [.ref 66]) rfl (jl_aloadn gL1017_0) ?_
        refine jx_ar (pc' := 21) (st' := [.int (i32 (0)), .ref 66]) rfl rfl rfl rfl ?_
        have b1018 : (-1 : Int) ≤ A 5 (ln2_998).toNat ∧ A 5 (ln2_998).toNat ≤ 15 := hW.2 5 _
        refine jx_vr (pc' := 24) (as := [.int (i32 (0))]) (st := []) rfl rfl rfl rfl ⟨rfl, rfl, Nat.le_of_ble_eq_true rfl⟩ rfl rfl (c_isBelow (dd := d) (hd := by omega) (hW := hW1000) (lv := 0) (ln := ln2_998) (e_ln := show G996 9 = ln2_998 from (e1002)) (li := li) (e_li := show G996 3 = li from ((hF1001.1 3 rfl).trans ((hF976.1 3 rfl).trans ((hF951.1 3 rfl).trans (e_li))))) (fk := fk2_999) (e_fk := show G996 16 = fk2_999 from (e1003)) (ll := A 5 (ln2_998).toNat) (e_ll := show A997 5 (ln2_998).toNat = A 5 (ln2_998).toNat from (congrFun ((hF1001.2 5 rfl).trans ((hF976.2 5 rfl).trans (hF951.2 5 rfl))) _))  (h_lv := ⟨(by decide), (by decide)⟩)  (p_0 := by omega)) (fun o V' hq => ?_)
        obtain ⟨G1019, A1020, r1021, fk2_1022, rfl, rfl, hW1023, hF1024, b1025, e1026, q1027⟩ := hq
        have hF1028 := Fr_tr hF1005 hF1024 (Fr_sub (by decide)) (Fr_sub (by decide))
        have hP1029 := Pf_f hP1006 hF1024 (by decide)
        have hS1030 := Fx_f hS1007 hF1024 (by decide)
        have hV1031 := Fx_f hV1008 hF1024 (by decide)
        have sf1032 : PZ A1020 := (show A1020 = A997 from funext (fun k => hF1024.2 k rfl)) ▸ sf1009
        have bfk2_1022 : (0 : Int) ≤ fk2_1022 ∧ fk2_1022 ≤ 6 := e1026 ▸ hW1023.1 16
        refine .inr ⟨_, rfl, ?_⟩
        rcases q1027 with ⟨rfl, a1033, a1034, a1035, a1036⟩ | ⟨rfl, a1037⟩ | ⟨rfl, a1038, a1039, a1040⟩
        · have _q : True := trivial
          exfalso
          omega
        · have _q : True := trivial
          refine jx_if_eq (pc' := 27) (tg := 125) rfl rfl rfl (by decide) (by decide) (fun h1041 => ?_) (fun h1041 => ?_)
          · have _q := h1041
            refine jx_ld (pc' := 126) (l' := L1017) (st' := [.ref 66]) rfl (jl_aloadn gL1017_0) ?_
            refine jx_vr (pc' := 129) (as := []) (st := []) rfl rfl rfl rfl ⟨rfl, rfl, Nat.le_of_ble_eq_true rfl⟩ rfl rfl (c_bad (dd := d) (hd := by omega) (hW := hW1023)  (fk := fk2_1022) (e_fk := show G1019 16 = fk2_1022 from (e1026))    ) (fun o V' hq => ?_)
            obtain ⟨r1042, rfl, rfl, b1043, q1044⟩ := hq
            refine .inr ⟨_, rfl, ?_⟩
            rcases q1044 with ⟨rfl, a1045⟩ | ⟨rfl, a1046⟩
            · have _q : True := trivial
              refine jx_if_ne (pc' := 132) (tg := 142) rfl rfl rfl (by decide) (by decide) (fun h1047 => ?_) (fun h1047 => ?_)
              · have _q := h1047
                refine jx_rt (v := none) rfl rfl rfl rfl rfl rfl ?_
                exact ⟨_, _, ln2_998, at2_972, fk2_1022, nd, sy, na, vi, A 3 (ln2_998).toNat, rfl, rfl, hW1023, hF1028, hP1029, hS1030, hV1031, ((hF1024.1 9 rfl).trans (e1002)), ((hF1024.1 10 rfl).trans ((hF1001.1 10 rfl).trans (e977))), (e1026), ((hF1024.1 31 rfl).trans ((hF1001.1 31 rfl).trans ((hF976.1 31 rfl).trans ((hF951.1 31 rfl).trans (e_nd))))), ((hF1024.1 19 rfl).trans ((hF1001.1 19 rfl).trans ((hF976.1 19 rfl).trans ((hF951.1 19 rfl).trans (e_sy))))), ((hF1024.1 28 rfl).trans ((hF1001.1 28 rfl).trans ((hF976.1 28 rfl).trans ((hF951.1 28 rfl).trans (e_na))))), ((hF1024.1 29 rfl).trans ((hF1001.1 29 rfl).trans ((hF976.1 29 rfl).trans ((hF951.1 29 rfl).trans (e_vi))))), (congrFun ((hF1024.2 3 rfl).trans ((hF1001.2 3 rfl).trans ((hF976.2 3 rfl).trans (hF951.2 3 rfl)))) _), by omega, by omega, by omega, by omega, by omega, by omega, by first | exact Or.inl (by omega)⟩
              · have _q := h1047
                exact absurd h1047 (by omega)
            · have _q : True := trivial
              exfalso
              omega
          · have _q := h1041
            exact absurd h1041 (by omega)
        · have _q : True := trivial
          exfalso
          omega
    · have _q : True := trivial
      refine jx_ld (pc' := 14) (l' := [(0, .ref 66)]) (st' := [.ref 66]) rfl (jl_aloadn rfl) ?_
      refine jx_vr (pc' := 17) (as := []) (st := []) rfl rfl rfl rfl ⟨rfl, rfl, Nat.le_of_ble_eq_true rfl⟩ rfl rfl (c_endLine (dd := d) (hd := by omega) (hW := hW975)  (ln := ln) (e_ln := show G970 9 = ln from ((hF976.1 9 rfl).trans ((hF951.1 9 rfl).trans (e_ln)))) (li := li) (e_li := show G970 3 = li from ((hF976.1 3 rfl).trans ((hF951.1 3 rfl).trans (e_li)))) (fk := fk2_974) (e_fk := show G970 16 = fk2_974 from (e979)) (tk0 := tk2_973) (e_tk0 := show G970 11 = tk2_973 from (e978))    (p_0 := by omega)) (fun o V' hq => ?_)
      obtain ⟨G1048, A1049, ln2_1050, fk2_1051, rfl, rfl, hW1052, hF1053, e1054, e1055, q1056⟩ := hq
      have hF1057 := Fr_tr hF983 hF1053 (Fr_sub (by decide)) (Fr_sub (by decide))
      have hP1058 := Pf_f hP984 hF1053 (by decide)
      have hS1059 := Fx_f hS985 hF1053 (by decide)
      have hV1060 := Fx_f hV986 hF1053 (by decide)
      have sf1061 : PZ A1049 := (show A1049 = A971 from funext (fun k => hF1053.2 k rfl)) ▸ sf987
      have bln2_1050 : (0 : Int) ≤ ln2_1050 ∧ ln2_1050 ≤ 3000 := e1054 ▸ hW1052.1 9
      have bfk2_1051 : (0 : Int) ≤ fk2_1051 ∧ fk2_1051 ≤ 6 := e1055 ▸ hW1052.1 16
      refine .inl ⟨rfl, ?_⟩
      rcases q1056 with ⟨a1062, a1063, a1064, a1065, a1066⟩ | ⟨a1067, a1068⟩
      · have _q : True := trivial
        have b1069 : (0 : Int) ≤ A 3 (ln2_1050).toNat ∧ A 3 (ln2_1050).toNat ≤ 3000 := hW.2 3 _
        have lt1070 : ln2_1050 < li → le < A 3 (ln2_1050).toNat := fun hh => LT_nx (LT_ext (((hF1053.1 3 rfl).trans ((hF976.1 3 rfl).trans (hF951.1 3 rfl)))) (((hF1053.2 3 rfl).trans ((hF976.2 3 rfl).trans (hF951.2 3 rfl)))) (((hF1053.2 4 rfl).trans ((hF976.2 4 rfl).trans (hF951.2 4 rfl)))) i_LT) (show G1048 3 = li from ((hF1053.1 3 rfl).trans ((hF976.1 3 rfl).trans ((hF951.1 3 rfl).trans (e_li))))) (show A1049 4 (ln).toNat = le from (congrFun ((hF1053.2 4 rfl).trans ((hF976.2 4 rfl).trans (hF951.2 4 rfl))) _).trans (e_le)) (show A1049 3 (ln2_1050).toNat = A 3 (ln2_1050).toNat from (congrFun ((hF1053.2 3 rfl).trans ((hF976.2 3 rfl).trans (hF951.2 3 rfl))) _)) (show ln2_1050 = ln + 1 by omega) (by omega) hh
        refine jx_ar (pc' := 18) (st' := [.int (i32 (0))]) rfl rfl rfl rfl ?_
        refine jx_ld (pc' := 19) (l' := jSto1 [(0, .ref 66)] 1 (.int (i32 (0)))) (st' := []) rfl rfl ?_
        obtain ⟨L1071, eL1071⟩ : ∃ q, q = jSto1 [(0, .ref 66)] 1 (.int (i32 (0))) := ⟨_, rfl⟩
        rw [← eL1071]
        have gL1071_0 : jGet L1071 0 = some (.ref 66) := eL1071 ▸ jg_ne (by decide) (rfl : jGet [(0, .ref 66)] 0 = some (.ref 66)) rfl
        have gL1071_1 : jGet L1071 1 = some (.int (i32 (0))) := eL1071 ▸ jg_eq
        exact c_readPlaced_at_19 (X := X) (d := d) (Vs := Vs) (sb := sb) (pb := pb) (hvb := hvb) (c0 := c0) (c1 := c1) (G := G) (A := A) (T := T) (ln := ln) (li := li) (at0 := at0) (fk := fk) (nd := nd) (sy := sy) (na := na) (vi := vi) (le := le) (op0 := op0) (tk0 := tk0) (hd := hd) (hW := hW) (e_ln := e_ln) (e_li := e_li) (e_at0 := e_at0) (e_fk := e_fk) (e_nd := e_nd) (e_sy := e_sy) (e_na := e_na) (e_vi := e_vi) (e_le := e_le) (e_op0 := e_op0) (e_tk0 := e_tk0) (i_LT := i_LT) (i_SV := i_SV) (i_PQ := i_PQ) (p_0 := p_0) (p_1 := p_1) (p_2 := p_2) (p_3 := p_3) (p_4 := p_4) (p_5 := p_5) (p_6 := p_6) (p_7 := p_7) (p_8 := p_8) _ L1071 G1048 A1049 (0) (ln2_1050) (at2_972) (fk2_1051) (nd) (sy) (na) (A 3 (ln2_1050).toNat) rfl gL1071_0 gL1071_1 hW1052 hF1057 hP1058 hS1059 hV1060 ((e1054)) (((hF1053.1 10 rfl).trans (e977))) ((e1055)) (((hF1053.1 31 rfl).trans ((hF976.1 31 rfl).trans ((hF951.1 31 rfl).trans (e_nd))))) (((hF1053.1 19 rfl).trans ((hF976.1 19 rfl).trans ((hF951.1 19 rfl).trans (e_sy))))) (((hF1053.1 28 rfl).trans ((hF976.1 28 rfl).trans ((hF951.1 28 rfl).trans (e_na))))) ((congrFun ((hF1053.2 3 rfl).trans ((hF976.2 3 rfl).trans (hF951.2 3 rfl))) _)) (((hF1053.1 29 rfl).trans ((hF976.1 29 rfl).trans ((hF951.1 29 rfl).trans (e_vi))))) (by omega) (by omega) (by omega) (by omega) (by omega) (by omega) (by omega) (by omega) (by omega) (by omega) (by omega) (by omega) ((wB_nil sf1061 (by omega) (by omega)))
      · have _q : True := trivial
        refine jx_ar (pc' := 18) (st' := [.int (i32 (0))]) rfl rfl rfl rfl ?_
        refine jx_ld (pc' := 19) (l' := jSto1 [(0, .ref 66)] 1 (.int (i32 (0)))) (st' := []) rfl rfl ?_
        obtain ⟨L1072, eL1072⟩ : ∃ q, q = jSto1 [(0, .ref 66)] 1 (.int (i32 (0))) := ⟨_, rfl⟩
        rw [← eL1072]
        have gL1072_0 : jGet L1072 0 = some (.ref 66) := eL1072 ▸ jg_ne (by decide) (rfl : jGet [(0, .ref 66)] 0 = some (.ref 66)) rfl
        have gL1072_1 : jGet L1072 1 = some (.int (i32 (0))) := eL1072 ▸ jg_eq
        refine jx_ld (pc' := 20) (l' := L1072) (st' := [.ref 66]) rfl (jl_aloadn gL1072_0) ?_
        refine jx_ar (pc' := 21) (st' := [.int (i32 (0)), .ref 66]) rfl rfl rfl rfl ?_
        have b1073 : (-1 : Int) ≤ A 5 (ln2_1050).toNat ∧ A 5 (ln2_1050).toNat ≤ 15 := hW.2 5 _
        refine jx_vr (pc' := 24) (as := [.int (i32 (0))]) (st := []) rfl rfl rfl rfl ⟨rfl, rfl, Nat.le_of_ble_eq_true rfl⟩ rfl rfl (c_isBelow (dd := d) (hd := by omega) (hW := hW1052) (lv := 0) (ln := ln2_1050) (e_ln := show G1048 9 = ln2_1050 from (e1054)) (li := li) (e_li := show G1048 3 = li from ((hF1053.1 3 rfl).trans ((hF976.1 3 rfl).trans ((hF951.1 3 rfl).trans (e_li))))) (fk := fk2_1051) (e_fk := show G1048 16 = fk2_1051 from (e1055)) (ll := A 5 (ln2_1050).toNat) (e_ll := show A1049 5 (ln2_1050).toNat = A 5 (ln2_1050).toNat from (congrFun ((hF1053.2 5 rfl).trans ((hF976.2 5 rfl).trans (hF951.2 5 rfl))) _))  (h_lv := ⟨(by decide), (by decide)⟩)  (p_0 := by omega)) (fun o V' hq => ?_)
        obtain ⟨G1074, A1075, r1076, fk2_1077, rfl, rfl, hW1078, hF1079, b1080, e1081, q1082⟩ := hq
        have hF1083 := Fr_tr hF1057 hF1079 (Fr_sub (by decide)) (Fr_sub (by decide))
        have hP1084 := Pf_f hP1058 hF1079 (by decide)
        have hS1085 := Fx_f hS1059 hF1079 (by decide)
        have hV1086 := Fx_f hV1060 hF1079 (by decide)
        have sf1087 : PZ A1075 := (show A1075 = A1049 from funext (fun k => hF1079.2 k rfl)) ▸ sf1061
        have bfk2_1077 : (0 : Int) ≤ fk2_1077 ∧ fk2_1077 ≤ 6 := e1081 ▸ hW1078.1 16
        refine .inr ⟨_, rfl, ?_⟩
        rcases q1082 with ⟨rfl, a1088, a1089, a1090, a1091⟩ | ⟨rfl, a1092⟩ | ⟨rfl, a1093, a1094, a1095⟩
        · have _q : True := trivial
          exfalso
          omega
        · have _q : True := trivial
          refine jx_if_eq (pc' := 27) (tg := 125) rfl rfl rfl (by decide) (by decide) (fun h1096 => ?_) (fun h1096 => ?_)
          · have _q := h1096
            refine jx_ld (pc' := 126) (l' := L1072) (st' := [.ref 66]) rfl (jl_aloadn gL1072_0) ?_
            refine jx_vr (pc' := 129) (as := []) (st := []) rfl rfl rfl rfl ⟨rfl, rfl, Nat.le_of_ble_eq_true rfl⟩ rfl rfl (c_bad (dd := d) (hd := by omega) (hW := hW1078)  (fk := fk2_1077) (e_fk := show G1074 16 = fk2_1077 from (e1081))    ) (fun o V' hq => ?_)
            obtain ⟨r1097, rfl, rfl, b1098, q1099⟩ := hq
            refine .inr ⟨_, rfl, ?_⟩
            rcases q1099 with ⟨rfl, a1100⟩ | ⟨rfl, a1101⟩
            · have _q : True := trivial
              refine jx_if_ne (pc' := 132) (tg := 142) rfl rfl rfl (by decide) (by decide) (fun h1102 => ?_) (fun h1102 => ?_)
              · have _q := h1102
                refine jx_rt (v := none) rfl rfl rfl rfl rfl rfl ?_
                exact ⟨_, _, ln2_1050, at2_972, fk2_1077, nd, sy, na, vi, A 3 (ln2_1050).toNat, rfl, rfl, hW1078, hF1083, hP1084, hS1085, hV1086, ((hF1079.1 9 rfl).trans (e1054)), ((hF1079.1 10 rfl).trans ((hF1053.1 10 rfl).trans (e977))), (e1081), ((hF1079.1 31 rfl).trans ((hF1053.1 31 rfl).trans ((hF976.1 31 rfl).trans ((hF951.1 31 rfl).trans (e_nd))))), ((hF1079.1 19 rfl).trans ((hF1053.1 19 rfl).trans ((hF976.1 19 rfl).trans ((hF951.1 19 rfl).trans (e_sy))))), ((hF1079.1 28 rfl).trans ((hF1053.1 28 rfl).trans ((hF976.1 28 rfl).trans ((hF951.1 28 rfl).trans (e_na))))), ((hF1079.1 29 rfl).trans ((hF1053.1 29 rfl).trans ((hF976.1 29 rfl).trans ((hF951.1 29 rfl).trans (e_vi))))), (congrFun ((hF1079.2 3 rfl).trans ((hF1053.2 3 rfl).trans ((hF976.2 3 rfl).trans (hF951.2 3 rfl)))) _), by omega, by omega, by omega, by omega, by omega, by omega, by first | exact Or.inl (by omega)⟩
              · have _q := h1102
                exact absurd h1102 (by omega)
            · have _q : True := trivial
              exfalso
              omega
          · have _q := h1096
            exact absurd h1096 (by omega)
        · have _q : True := trivial
          exfalso
          omega
  · have _q : True := trivial
    refine jx_vr (pc' := 13) (as := [.int (i32 (0))]) (st := []) rfl rfl rfl rfl ⟨rfl, rfl, Nat.le_of_ble_eq_true rfl⟩ rfl rfl (c_need (dd := d) (hd := by omega) (hW := hW950) (g := 0) (ln := ln) (e_ln := show G946 9 = ln from ((hF951.1 9 rfl).trans (e_ln))) (le := le) (e_le := show A947 4 (ln).toNat = le from (congrFun (hF951.2 4 rfl) _).trans (e_le)) (at0 := at2_948) (e_at0 := show G946 10 = at2_948 from (e952)) (fk := fk) (e_fk := show G946 16 = fk from ((hF951.1 16 rfl).trans (e_fk))) (tk0 := tk2_949) (e_tk0 := show G946 11 = tk2_949 from (e953))  (h_g := ⟨(by decide), (by decide)⟩)  (p_0 := by omega)) (fun o V' hq => ?_)
    obtain ⟨G1103, A1104, at2_1105, tk2_1106, fk2_1107, rfl, rfl, hW1108, hF1109, e1110, e1111, e1112, p1113, p1114, q1115⟩ := hq
    have hF1116 := Fr_tr hF958 hF1109 (Fr_sub (by decide)) (Fr_sub (by decide))
    have hP1117 := Pf_f hP959 hF1109 (by decide)
    have hS1118 := Fx_f hS960 hF1109 (by decide)
    have hV1119 := Fx_f hV961 hF1109 (by decide)
    have sf1120 : PZ A1104 := (show A1104 = A947 from funext (fun k => hF1109.2 k rfl)) ▸ sf962
    have bat2_1105 : (0 : Int) ≤ at2_1105 ∧ at2_1105 ≤ 3002 := e1110 ▸ hW1108.1 10
    have ztk2_1106 := tz_b tk2_1106
    have btk2_1106 : (0 : Int) ≤ tk2_1106 ∧ tk2_1106 ≤ 5 := e1111 ▸ hW1108.1 11
    have bfk2_1107 : (0 : Int) ≤ fk2_1107 ∧ fk2_1107 ≤ 6 := e1112 ▸ hW1108.1 16
    refine .inl ⟨rfl, ?_⟩
    rcases q1115 with ⟨a1121, a1122, a1123, a1124⟩ | ⟨a1125, a1126, a1127, a1128⟩
    · have _q : True := trivial
      refine jx_ld (pc' := 14) (l' := [(0, .ref 66)]) (st' := [.ref 66]) rfl (jl_aloadn rfl) ?_
      refine jx_vr (pc' := 17) (as := []) (st := []) rfl rfl rfl rfl ⟨rfl, rfl, Nat.le_of_ble_eq_true rfl⟩ rfl rfl (c_endLine (dd := d) (hd := by omega) (hW := hW1108)  (ln := ln) (e_ln := show G1103 9 = ln from ((hF1109.1 9 rfl).trans ((hF951.1 9 rfl).trans (e_ln)))) (li := li) (e_li := show G1103 3 = li from ((hF1109.1 3 rfl).trans ((hF951.1 3 rfl).trans (e_li)))) (fk := fk2_1107) (e_fk := show G1103 16 = fk2_1107 from (e1112)) (tk0 := tk2_1106) (e_tk0 := show G1103 11 = tk2_1106 from (e1111))    (p_0 := by omega)) (fun o V' hq => ?_)
      obtain ⟨G1129, A1130, ln2_1131, fk2_1132, rfl, rfl, hW1133, hF1134, e1135, e1136, q1137⟩ := hq
      have hF1138 := Fr_tr hF1116 hF1134 (Fr_sub (by decide)) (Fr_sub (by decide))
      have hP1139 := Pf_f hP1117 hF1134 (by decide)
      have hS1140 := Fx_f hS1118 hF1134 (by decide)
      have hV1141 := Fx_f hV1119 hF1134 (by decide)
      have sf1142 : PZ A1130 := (show A1130 = A1104 from funext (fun k => hF1134.2 k rfl)) ▸ sf1120
      have bln2_1131 : (0 : Int) ≤ ln2_1131 ∧ ln2_1131 ≤ 3000 := e1135 ▸ hW1133.1 9
      have bfk2_1132 : (0 : Int) ≤ fk2_1132 ∧ fk2_1132 ≤ 6 := e1136 ▸ hW1133.1 16
      refine .inl ⟨rfl, ?_⟩
      rcases q1137 with ⟨a1143, a1144, a1145, a1146, a1147⟩ | ⟨a1148, a1149⟩
      · have _q : True := trivial
        exfalso
        omega
      · have _q : True := trivial
        refine jx_ar (pc' := 18) (st' := [.int (i32 (0))]) rfl rfl rfl rfl ?_
        refine jx_ld (pc' := 19) (l' := jSto1 [(0, .ref 66)] 1 (.int (i32 (0)))) (st' := []) rfl rfl ?_
        obtain ⟨L1150, eL1150⟩ : ∃ q, q = jSto1 [(0, .ref 66)] 1 (.int (i32 (0))) := ⟨_, rfl⟩
        rw [← eL1150]
        have gL1150_0 : jGet L1150 0 = some (.ref 66) := eL1150 ▸ jg_ne (by decide) (rfl : jGet [(0, .ref 66)] 0 = some (.ref 66)) rfl
        have gL1150_1 : jGet L1150 1 = some (.int (i32 (0))) := eL1150 ▸ jg_eq
        refine jx_ld (pc' := 20) (l' := L1150) (st' := [.ref 66]) rfl (jl_aloadn gL1150_0) ?_
        refine jx_ar (pc' := 21) (st' := [.int (i32 (0)), .ref 66]) rfl rfl rfl rfl ?_
        have b1151 : (-1 : Int) ≤ A 5 (ln2_1131).toNat ∧ A 5 (ln2_1131).toNat ≤ 15 := hW.2 5 _
        refine jx_vr (pc' := 24) (as := [.int (i32 (0))]) (st := []) rfl rfl rfl rfl ⟨rfl, rfl, Nat.le_of_ble_eq_true rfl⟩ rfl rfl (c_isBelow (dd := d) (hd := by omega) (hW := hW1133) (lv := 0) (ln := ln2_1131) (e_ln := show G1129 9 = ln2_1131 from (e1135)) (li := li) (e_li := show G1129 3 = li from ((hF1134.1 3 rfl).trans ((hF1109.1 3 rfl).trans ((hF951.1 3 rfl).trans (e_li))))) (fk := fk2_1132) (e_fk := show G1129 16 = fk2_1132 from (e1136)) (ll := A 5 (ln2_1131).toNat) (e_ll := show A1130 5 (ln2_1131).toNat = A 5 (ln2_1131).toNat from (congrFun ((hF1134.2 5 rfl).trans ((hF1109.2 5 rfl).trans (hF951.2 5 rfl))) _))  (h_lv := ⟨(by decide), (by decide)⟩)  (p_0 := by omega)) (fun o V' hq => ?_)
        obtain ⟨G1152, A1153, r1154, fk2_1155, rfl, rfl, hW1156, hF1157, b1158, e1159, q1160⟩ := hq
        have hF1161 := Fr_tr hF1138 hF1157 (Fr_sub (by decide)) (Fr_sub (by decide))
        have hP1162 := Pf_f hP1139 hF1157 (by decide)
        have hS1163 := Fx_f hS1140 hF1157 (by decide)
        have hV1164 := Fx_f hV1141 hF1157 (by decide)
        have sf1165 : PZ A1153 := (show A1153 = A1130 from funext (fun k => hF1157.2 k rfl)) ▸ sf1142
        have bfk2_1155 : (0 : Int) ≤ fk2_1155 ∧ fk2_1155 ≤ 6 := e1159 ▸ hW1156.1 16
        refine .inr ⟨_, rfl, ?_⟩
        rcases q1160 with ⟨rfl, a1166, a1167, a1168, a1169⟩ | ⟨rfl, a1170⟩ | ⟨rfl, a1171, a1172, a1173⟩
        · have _q : True := trivial
          exfalso
          omega
        · have _q : True := trivial
          refine jx_if_eq (pc' := 27) (tg := 125) rfl rfl rfl (by decide) (by decide) (fun h1174 => ?_) (fun h1174 => ?_)
          · have _q := h1174
            refine jx_ld (pc' := 126) (l' := L1150) (st' := [.ref 66]) rfl (jl_aloadn gL1150_0) ?_
            refine jx_vr (pc' := 129) (as := []) (st := []) rfl rfl rfl rfl ⟨rfl, rfl, Nat.le_of_ble_eq_true rfl⟩ rfl rfl (c_bad (dd := d) (hd := by omega) (hW := hW1156)  (fk := fk2_1155) (e_fk := show G1152 16 = fk2_1155 from (e1159))    ) (fun o V' hq => ?_)
            obtain ⟨r1175, rfl, rfl, b1176, q1177⟩ := hq
            refine .inr ⟨_, rfl, ?_⟩
            rcases q1177 with ⟨rfl, a1178⟩ | ⟨rfl, a1179⟩
            · have _q : True := trivial
              refine jx_if_ne (pc' := 132) (tg := 142) rfl rfl rfl (by decide) (by decide) (fun h1180 => ?_) (fun h1180 => ?_)
              · have _q := h1180
                refine jx_rt (v := none) rfl rfl rfl rfl rfl rfl ?_
                exact ⟨_, _, ln2_1131, at2_1105, fk2_1155, nd, sy, na, vi, A 3 (ln2_1131).toNat, rfl, rfl, hW1156, hF1161, hP1162, hS1163, hV1164, ((hF1157.1 9 rfl).trans (e1135)), ((hF1157.1 10 rfl).trans ((hF1134.1 10 rfl).trans (e1110))), (e1159), ((hF1157.1 31 rfl).trans ((hF1134.1 31 rfl).trans ((hF1109.1 31 rfl).trans ((hF951.1 31 rfl).trans (e_nd))))), ((hF1157.1 19 rfl).trans ((hF1134.1 19 rfl).trans ((hF1109.1 19 rfl).trans ((hF951.1 19 rfl).trans (e_sy))))), ((hF1157.1 28 rfl).trans ((hF1134.1 28 rfl).trans ((hF1109.1 28 rfl).trans ((hF951.1 28 rfl).trans (e_na))))), ((hF1157.1 29 rfl).trans ((hF1134.1 29 rfl).trans ((hF1109.1 29 rfl).trans ((hF951.1 29 rfl).trans (e_vi))))), (congrFun ((hF1157.2 3 rfl).trans ((hF1134.2 3 rfl).trans ((hF1109.2 3 rfl).trans (hF951.2 3 rfl)))) _), by omega, by omega, by omega, by omega, by omega, by omega, by first | exact Or.inl (by omega)⟩
              · have _q := h1180
                exact absurd h1180 (by omega)
            · have _q : True := trivial
              exfalso
              omega
          · have _q := h1174
            exact absurd h1174 (by omega)
        · have _q : True := trivial
          exfalso
          omega
    · have _q : True := trivial
      exfalso
      omega
set_option maxRecDepth 20000 in
set_option maxHeartbeats 4000000 in
theorem c_isKey2 {X : jX} {dd : Nat} {c0 c1 : jC} {G : Nat → Int} {A : Nat → Nat → Int} {T : jH} {k : Int} {tk tn : Int} (hd : 1 ≤ dd) (hW : Wk G A) (e_tk : G 11 = tk) (e_tn : G 13 = tn) (h_k : (-2147483648 : Int) ≤ k ∧ k ≤ 2147483647) : wk X dd 267 [.ref 66, .int (i32 k)] (rV c0 c1 G A T) (fun o V' => ∃ (r : Int), V' = rV c0 c1 G A T ∧ o = .inl (some (.int (i32 r))) ∧ ((0 : Int) ≤ r ∧ r ≤ 1) ∧ ((r = 1 ∧ (tk = 2) ∧ (tn = k) ∧ (tz tk = 1)) ∨ (r = 0 ∧ (tk ≠ 2 ∨ tn ≠ k)))) := by
  obtain ⟨d, rfl⟩ : ∃ d, dd = d + 1 := ⟨dd - 1, by omega⟩
  refine wk_of (e := jm267) rfl (Nat.le_of_ble_eq_true rfl) ?_
  show wj X d jm267 (0, [(0, .ref 66), (1, .int (i32 (k)))], [], rV c0 c1 G A T) _
  have z_tk := tz_f tk
  have b_tk : (0 : Int) ≤ tk ∧ tk ≤ 5 := e_tk ▸ hW.1 11
  have b_tn : (-2147483648 : Int) ≤ tn ∧ tn ≤ 2147483647 := e_tn ▸ hW.1 13
  refine jx_ld (pc' := 1) (l' := [(0, .ref 66), (1, .int (i32 (k)))]) (st' := [.ref 66]) rfl (jl_aloadn rfl) ?_
  have z1 := tz_f (tk)
  refine jr_get (pc' := 4) (i := 11) (v := .int (i32 (tk))) rfl rfl (by decide) (rFv_eq (by decide) (show G 11 = tk from (e_tk))) rfl ?_
  refine jx_ar (pc' := 5) (st' := [.int (i32 (2)), .int (i32 (tk))]) rfl rfl rfl rfl ?_
  refine jx_icmp_ne (pc' := 8) (tg := 20) rfl rfl rfl (Int.le_trans (by decide : (-2147483648 : Int) ≤ 0) b_tk.1) (Int.le_trans b_tk.2 (by decide : (5 : Int) ≤ 2147483647)) (by decide) (by decide) (fun h2 => ?_) (fun h2 => ?_)
  · have _q := h2
    refine jx_ar (pc' := 21) (st' := [.int (i32 (0))]) rfl rfl rfl rfl ?_
    refine jx_rt (v := some (.int (i32 (0)))) rfl rfl rfl rfl rfl (by first | rfl | exact jRet_b (by omega)) ?_
    exact ⟨_, rfl, rfl, by omega, by first | exact Or.inl (⟨by omega, by omega, by omega, by omega⟩) | exact Or.inr ((⟨by omega, by omega⟩))⟩
  · have _q := h2
    refine jx_ld (pc' := 9) (l' := [(0, .ref 66), (1, .int (i32 (k)))]) (st' := [.ref 66]) rfl (jl_aloadn rfl) ?_
    refine jr_get (pc' := 12) (i := 13) (v := .int (i32 (tn))) rfl rfl (by decide) (rFv_eq (by decide) (show G 13 = tn from (e_tn))) rfl ?_
    refine jx_ld (pc' := 13) (l' := [(0, .ref 66), (1, .int (i32 (k)))]) (st' := [.int (i32 (k)), .int (i32 (tn))]) rfl (jl_iloadn rfl) ?_
    refine jx_icmp_ne (pc' := 16) (tg := 20) rfl rfl rfl (Int.le_trans (by decide : (-2147483648 : Int) ≤ -2147483648) b_tn.1) (Int.le_trans b_tn.2 (by decide : (2147483647 : Int) ≤ 2147483647)) (Int.le_trans (by decide : (-2147483648 : Int) ≤ -2147483648) h_k.1) (Int.le_trans h_k.2 (by decide : (2147483647 : Int) ≤ 2147483647)) (fun h3 => ?_) (fun h3 => ?_)
    · have _q := h3
      refine jx_ar (pc' := 21) (st' := [.int (i32 (0))]) rfl rfl rfl rfl ?_
      refine jx_rt (v := some (.int (i32 (0)))) rfl rfl rfl rfl rfl (by first | rfl | exact jRet_b (by omega)) ?_
      exact ⟨_, rfl, rfl, by omega, by first | exact Or.inl (⟨by omega, by omega, by omega, by omega⟩) | exact Or.inr ((⟨by omega, by omega⟩))⟩
    · have _q := h3
      refine jx_ar (pc' := 17) (st' := [.int (i32 (1))]) rfl rfl rfl rfl ?_
      refine jx_go (tg := 21) rfl rfl ?_
      refine jx_rt (v := some (.int (i32 (1)))) rfl rfl rfl rfl rfl (by first | rfl | exact jRet_b (by omega)) ?_
      exact ⟨_, rfl, rfl, by omega, by first | exact Or.inl (⟨by omega, by omega, by omega, by omega⟩) | exact Or.inr ((⟨by omega, by omega⟩))⟩
set_option maxRecDepth 20000 in
set_option maxHeartbeats 4000000 in
theorem c_readProgram_at_141_1 {X : jX} {d : Nat} {c0 c1 : jC} {G : Nat → Int} {A : Nat → Nat → Int} {T : jH} {ln li fk nd sy na vi lf pc lk : Int} (hd : 8 * 18 + 82 ≤ d + 1) (hW : Wk G A) (e_ln : G 9 = ln) (e_li : G 3 = li) (e_fk : G 16 = fk) (e_nd : G 31 = nd) (e_sy : G 19 = sy) (e_na : G 28 = na) (e_vi : G 29 = vi) (e_lf : A 3 (ln).toNat = lf) (e_pc : G 46 = pc) (e_lk : G 52 = lk) (i_LT : LT G A) (p_0 : fk = 0) (p_1 : ln = 0) (p_2 : nd = 1) (p_3 : sy = 0) (p_4 : na = 0) (p_5 : vi = 0) (p_6 : pc = 0) (p_7 : lk = 0) (p_8 : PZ A) : ∀ (L : jL) (Gx : Nat → Int) (Ax : Nat → Nat → Int) (ln1 at1 tk1 fk1 op1 nd1 sy1 na1 vi1 lf1 le1 pc1 lk1 : Int), jGet L 0 = some (.ref 66) → jGet L 2 = some (.int (i32 (1))) → Wk Gx Ax → Fr [9, 10, 11, 12, 13, 14, 15, 16, 17, 18, 19, 28, 29, 31, 46, 52] [6, 7, 8, 9, 10, 11, 12, 14, 15, 16, 17, 18, 19, 20, 21, 22, 23, 24, 28, 29, 30, 31, 34, 35, 36] G A Gx Ax → Gx 9 = ln1 → Gx 10 = at1 → Gx 11 = tk1 → Gx 16 = fk1 → Gx 15 = op1 → Gx 31 = nd1 → Gx 19 = sy1 → Gx 28 = na1 → Gx 29 = vi1 → Ax 3 (ln1).toNat = lf1 → Ax 4 (ln1).toNat = le1 → Gx 46 = pc1 → Gx 52 = lk1 → (fk1 = 0) → (0 ≤ lf1) → (ln1 < li) → (lf1 < le1) → (2 * lf1 ≤ 2 * at1 - tz tk1) → (lf1 ≤ at1) → (at1 ≤ le1) → (nd1 ≤ 2 * lf1 + 2) → (op1 = 0) → (sy1 ≤ na1 + 2) → (vi1 ≤ sy1) → (PZ Ax) → (TL Ax (pc1) (nd1) (sy1) (lk1) (vi1)) → wj X d jm312 (141, L, [], rV c0 c1 Gx Ax T) (fun o V' => ∃ (G' : Nat → Int) (A' : Nat → Nat → Int) (ln2 : Int) (fk2 : Int) (nd2 : Int) (sy2 : Int) (na2 : Int) (vi2 : Int) (pc2 : Int) (lk2 : Int), V' = rV c0 c1 G' A' T ∧ o = .inl none ∧ Wk G' A' ∧ Fr [9, 10, 11, 12, 13, 14, 15, 16, 17, 18, 19, 28, 29, 31, 46, 52] [6, 7, 8, 9, 10, 11, 12, 14, 15, 16, 17, 18, 19, 20, 21, 22, 23, 24, 28, 29, 30, 31, 34, 35, 36] G A G' A' ∧ G' 9 = ln2 ∧ G' 16 = fk2 ∧ G' 31 = nd2 ∧ G' 19 = sy2 ∧ G' 28 = na2 ∧ G' 29 = vi2 ∧ G' 46 = pc2 ∧ G' 52 = lk2 ∧ (((1 ≤ fk2)) ∨ ((fk2 = 0) ∧ (TT A' (pc2) (nd2) (sy2) (lk2))))) := by
  have hF0 : Fr [9, 10, 11, 12, 13, 14, 15, 16, 17, 18, 19, 28, 29, 31, 46, 52] [6, 7, 8, 9, 10, 11, 12, 14, 15, 16, 17, 18, 19, 20, 21, 22, 23, 24, 28, 29, 30, 31, 34, 35, 36] G A G A := Fr_rf
  have b_ln : (0 : Int) ≤ ln ∧ ln ≤ 3000 := e_ln ▸ hW.1 9
  have b_li : (0 : Int) ≤ li ∧ li ≤ 3000 := e_li ▸ hW.1 3
  have b_fk : (0 : Int) ≤ fk ∧ fk ≤ 6 := e_fk ▸ hW.1 16
  have b_nd : (0 : Int) ≤ nd ∧ nd ≤ 6999 := e_nd ▸ hW.1 31
  have b_sy : (0 : Int) ≤ sy ∧ sy ≤ 202 := e_sy ▸ hW.1 19
  have b_na : (0 : Int) ≤ na ∧ na ≤ 200 := e_na ▸ hW.1 28
  have b_vi : (0 : Int) ≤ vi ∧ vi ≤ 202 := e_vi ▸ hW.1 29
  have b_lf : (0 : Int) ≤ lf ∧ lf ≤ 3000 := e_lf ▸ hW.2 3 _
  have b_pc : (0 : Int) ≤ pc ∧ pc ≤ 24 := e_pc ▸ hW.1 46
  have b_lk : (0 : Int) ≤ lk ∧ lk ≤ 12 := e_lk ▸ hW.1 52
  intro L Gx Ax ln1 at1 tk1 fk1 op1 nd1 sy1 na1 vi1 lf1 le1 pc1 lk1 gL_0 gL_2 hWx hFx ex_ln1 ex_at1 ex_tk1 ex_fk1 ex_op1 ex_nd1 ex_sy1 ex_na1 ex_vi1 ex_lf1 ex_le1 ex_pc1 ex_lk1 iv_0 iv_1 iv_2 iv_3 iv_4 iv_5 iv_6 iv_7 iv_8 iv_9 iv_10 iv_11 iv_12
  have b_ln1 : (0 : Int) ≤ ln1 ∧ ln1 ≤ 3000 := ex_ln1 ▸ hWx.1 9
  have b_at1 : (0 : Int) ≤ at1 ∧ at1 ≤ 3002 := ex_at1 ▸ hWx.1 10
  have z_tk1 := tz_f tk1
  have b_tk1 : (0 : Int) ≤ tk1 ∧ tk1 ≤ 5 := ex_tk1 ▸ hWx.1 11
  have b_fk1 : (0 : Int) ≤ fk1 ∧ fk1 ≤ 6 := ex_fk1 ▸ hWx.1 16
  have b_op1 : (-2147483648 : Int) ≤ op1 ∧ op1 ≤ 2147483647 := ex_op1 ▸ hWx.1 15
  have b_nd1 : (0 : Int) ≤ nd1 ∧ nd1 ≤ 6999 := ex_nd1 ▸ hWx.1 31
  have b_sy1 : (0 : Int) ≤ sy1 ∧ sy1 ≤ 202 := ex_sy1 ▸ hWx.1 19
  have b_na1 : (0 : Int) ≤ na1 ∧ na1 ≤ 200 := ex_na1 ▸ hWx.1 28
  have b_vi1 : (0 : Int) ≤ vi1 ∧ vi1 ≤ 202 := ex_vi1 ▸ hWx.1 29
  have b_pc1 : (0 : Int) ≤ pc1 ∧ pc1 ≤ 24 := ex_pc1 ▸ hWx.1 46
  have b_lk1 : (0 : Int) ≤ lk1 ∧ lk1 ≤ 12 := ex_lk1 ▸ hWx.1 52
  obtain ⟨Vs, s0, hs0, hlk0, h2s, hvb, hSW0, hPW0, hVL0, hwQ0, hwK0⟩ := iv_12; obtain ⟨sb, hsb⟩ : ∃ z : Int, z = sy1 := ⟨_, rfl⟩; obtain ⟨pb, hpb⟩ : ∃ z : Int, z = pc1 := ⟨_, rfl⟩; rw [← hsb] at hvb hSW0 hPW0 hVL0; rw [← hpb] at hPW0; have hle0 := wQ_le hwQ0
  refine jx_ld (pc' := 142) (l' := L) (st' := [.int (i32 (1))]) rfl (jl_iloadn gL_2) ?_
  refine jx_if_eq (pc' := 145) (tg := 184) rfl rfl rfl (by decide) (by decide) (fun h1 => ?_) (fun h1 => ?_)
  · have _q := h1
    exact absurd h1 (by omega)
  · have _q := h1
    refine jx_ld (pc' := 146) (l' := L) (st' := [.ref 66]) rfl (jl_aloadn gL_0) ?_
    refine jx_vr (pc' := 149) (as := []) (st := []) rfl rfl rfl rfl ⟨rfl, rfl, Nat.le_of_ble_eq_true rfl⟩ rfl rfl (c_bad (dd := d) (hd := by omega) (hW := hWx)  (fk := fk1) (e_fk := show Gx 16 = fk1 from (ex_fk1))    ) (fun o V' hq => ?_)
    obtain ⟨r2, rfl, rfl, b3, q4⟩ := hq
    refine .inr ⟨_, rfl, ?_⟩
    rcases q4 with ⟨rfl, a5⟩ | ⟨rfl, a6⟩
    · have _q : True := trivial
      exfalso
      omega
    · have _q : True := trivial
      refine jx_if_ne (pc' := 152) (tg := 170) rfl rfl rfl (by decide) (by decide) (fun h7 => ?_) (fun h7 => ?_)
      · have _q := h7
        exact absurd h7 (by omega)
      · have _q := h7
        refine jx_ld (pc' := 153) (l' := L) (st' := [.ref 66]) rfl (jl_aloadn gL_0) ?_
        refine jx_ar (pc' := 155) (st' := [.int (i32 (19)), .ref 66]) rfl rfl rfl rfl ?_
        have b8 : (-2147483648 : Int) ≤ Gx 13 ∧ Gx 13 ≤ 2147483647 := hWx.1 13
        refine jx_vr (pc' := 158) (as := [.int (i32 (19))]) (st := []) rfl rfl rfl rfl ⟨rfl, rfl, Nat.le_of_ble_eq_true rfl⟩ rfl rfl (c_isKey (dd := d) (hd := by omega) (hW := hWx) (k := 19) (tk := tk1) (e_tk := show Gx 11 = tk1 from (ex_tk1)) (tn := Gx 13) (e_tn := show Gx 13 = Gx 13 from rfl)  (h_k := ⟨(by decide), (by decide)⟩)  ) (fun o V' hq => ?_)
        obtain ⟨r9, rfl, rfl, b10, q11⟩ := hq
        refine .inr ⟨_, rfl, ?_⟩
        rcases q11 with ⟨rfl, a12, a13, a14⟩ | rfl
        · have _q : True := trivial
          refine jx_if_ne (pc' := 161) (tg := 170) rfl rfl rfl (by decide) (by decide) (fun h15 => ?_) (fun h15 => ?_)
          · have _q := h15
            refine jx_ld (pc' := 171) (l' := L) (st' := [.ref 66]) rfl (jl_aloadn gL_0) ?_
            refine jx_vr (pc' := 174) (as := []) (st := []) rfl rfl rfl rfl ⟨rfl, rfl, Nat.le_of_ble_eq_true rfl⟩ rfl rfl (c_bad (dd := d) (hd := by omega) (hW := hWx)  (fk := fk1) (e_fk := show Gx 16 = fk1 from (ex_fk1))    ) (fun o V' hq => ?_)
            obtain ⟨r16, rfl, rfl, b17, q18⟩ := hq
            refine .inr ⟨_, rfl, ?_⟩
            rcases q18 with ⟨rfl, a19⟩ | ⟨rfl, a20⟩
            · have _q : True := trivial
              exfalso
              omega
            · have _q : True := trivial
              refine jx_if_ne (pc' := 177) (tg := 195) rfl rfl rfl (by decide) (by decide) (fun h21 => ?_) (fun h21 => ?_)
              · have _q := h21
                exact absurd h21 (by omega)
              · have _q := h21
                refine jx_ld (pc' := 178) (l' := L) (st' := [.ref 66]) rfl (jl_aloadn gL_0) ?_
                refine jx_vr (pc' := 181) (as := []) (st := []) rfl rfl rfl rfl ⟨rfl, rfl, Nat.le_of_ble_eq_true rfl⟩ rfl rfl (c_readPlaced (dd := d) (hd := by omega) (hW := hWx)  (ln := ln1) (e_ln := show Gx 9 = ln1 from (ex_ln1)) (li := li) (e_li := show Gx 3 = li from ((hFx.1 3 rfl).trans (e_li))) (at0 := at1) (e_at0 := show Gx 10 = at1 from (ex_at1)) (fk := fk1) (e_fk := show Gx 16 = fk1 from (ex_fk1)) (nd := nd1) (e_nd := show Gx 31 = nd1 from (ex_nd1)) (sy := sy1) (e_sy := show Gx 19 = sy1 from (ex_sy1)) (na := na1) (e_na := show Gx 28 = na1 from (ex_na1)) (vi := vi1) (e_vi := show Gx 29 = vi1 from (ex_vi1)) (le := le1) (e_le := show Ax 4 (ln1).toNat = le1 from (ex_le1)) (op0 := op1) (e_op0 := show Gx 15 = op1 from (ex_op1)) (tk0 := tk1) (e_tk0 := show Gx 11 = tk1 from (ex_tk1)) (i_LT := (LT_ext ((hFx.1 3 rfl)) ((hFx.2 3 rfl)) ((hFx.2 4 rfl)) i_LT)) (i_SV := (SW_sv hSW0 ((show Gx 29 = vi1 from (ex_vi1)).trans (by omega)))) (i_PQ := hPW0) (hvb := hvb)   (p_0 := by omega) (p_1 := by omega) (p_2 := by omega) (p_3 := by omega) (p_4 := by omega) (p_5 := by omega) (p_6 := by omega) (p_7 := by omega) (p_8 := iv_11)) (fun o V' hq => ?_)
                obtain ⟨G22, A23, ln2_24, at2_25, fk2_26, nd2_27, sy2_28, na2_29, vi2_30, lf2_31, rfl, rfl, hW32, hF33, hQ34, hQ35, hQ36, e37, e38, e39, e40, e41, e42, e43, e44, p45, p46, p47, p48, p49, p50, q51⟩ := hq
                have hF52 := Fr_tr hFx hF33 (Fr_sub (by decide)) (Fr_sub (by decide))
                have sf53 : SW (Vs) (sb) (vi1) A23 := SW_fx hQ36 (by omega) hSW0
                have sf54 : PQ (Vs) (sb) (pb) (fun _ => 0) A23 := PQ_fxq hPW0 hQ35 (by omega) (Fx_f (w := pb) Fx_rf hF33 (by decide)) (by omega)
                have sf55 : VL (Vs) A23 (s0) (sb) := VL_fx hQ35 (by omega) hVL0
                have sf56 : wQ A23 (pc1).toNat (nd1) (s0) := wQ_fx (fun k j hk hj => hQ34 k j hk (by omega)) (Fx_su hQ35 (by omega)) (Fx_su (Fx_f (w := pc1) Fx_rf hF33 (by decide)) (by omega)) hwQ0
                have sf57 : wK A23 (s0) (lk1) := wK_fx hQ35 (Fx_f (w := lk1) Fx_rf hF33 (by decide)) (by omega) (by omega) (by omega) hwK0
                have bln2_24 : (0 : Int) ≤ ln2_24 ∧ ln2_24 ≤ 3000 := e37 ▸ hW32.1 9
                have bat2_25 : (0 : Int) ≤ at2_25 ∧ at2_25 ≤ 3002 := e38 ▸ hW32.1 10
                have bfk2_26 : (0 : Int) ≤ fk2_26 ∧ fk2_26 ≤ 6 := e39 ▸ hW32.1 16
                have bnd2_27 : (0 : Int) ≤ nd2_27 ∧ nd2_27 ≤ 6999 := e40 ▸ hW32.1 31
                have bsy2_28 : (0 : Int) ≤ sy2_28 ∧ sy2_28 ≤ 202 := e41 ▸ hW32.1 19
                have bna2_29 : (0 : Int) ≤ na2_29 ∧ na2_29 ≤ 200 := e42 ▸ hW32.1 28
                have bvi2_30 : (0 : Int) ≤ vi2_30 ∧ vi2_30 ≤ 202 := e43 ▸ hW32.1 29
                have blf2_31 : (0 : Int) ≤ lf2_31 ∧ lf2_31 ≤ 3000 := e44 ▸ hW32.2 3 _
                refine .inl ⟨rfl, ?_⟩
                rcases q51 with a58 | ⟨a59, a60⟩
                · have _q : True := trivial
                  refine jx_go (tg := 195) rfl rfl ?_
                  refine jx_ld (pc' := 196) (l' := L) (st' := [.ref 66]) rfl (jl_aloadn gL_0) ?_
                  refine jx_vr (pc' := 199) (as := []) (st := []) rfl rfl rfl rfl ⟨rfl, rfl, Nat.le_of_ble_eq_true rfl⟩ rfl rfl (c_bad (dd := d) (hd := by omega) (hW := hW32)  (fk := fk2_26) (e_fk := show G22 16 = fk2_26 from (e39))    ) (fun o V' hq => ?_)
                  obtain ⟨r61, rfl, rfl, b62, q63⟩ := hq
                  refine .inr ⟨_, rfl, ?_⟩
                  rcases q63 with ⟨rfl, a64⟩ | ⟨rfl, a65⟩
                  · have _q : True := trivial
                    refine jx_if_ne (pc' := 202) (tg := 237) rfl rfl rfl (by decide) (by decide) (fun h66 => ?_) (fun h66 => ?_)
                    · have _q := h66
                      refine jx_rt (v := none) rfl rfl rfl rfl rfl rfl ?_
                      exact ⟨_, _, ln2_24, fk2_26, nd2_27, sy2_28, na2_29, vi2_30, pc1, lk1, rfl, rfl, hW32, hF52, (e37), (e39), (e40), (e41), (e42), (e43), ((hF33.1 46 rfl).trans (ex_pc1)), ((hF33.1 52 rfl).trans (ex_lk1)), by first | exact Or.inl (by omega)⟩
                    · have _q := h66
                      exact absurd h66 (by omega)
                  · have _q : True := trivial
                    exfalso
                    omega
                · have _q : True := trivial
                  refine jx_go (tg := 195) rfl rfl ?_
                  refine jx_ld (pc' := 196) (l' := L) (st' := [.ref 66]) rfl (jl_aloadn gL_0) ?_
                  refine jx_vr (pc' := 199) (as := []) (st := []) rfl rfl rfl rfl ⟨rfl, rfl, Nat.le_of_ble_eq_true rfl⟩ rfl rfl (c_bad (dd := d) (hd := by omega) (hW := hW32)  (fk := fk2_26) (e_fk := show G22 16 = fk2_26 from (e39))    ) (fun o V' hq => ?_)
                  obtain ⟨r67, rfl, rfl, b68, q69⟩ := hq
                  refine .inr ⟨_, rfl, ?_⟩
                  rcases q69 with ⟨rfl, a70⟩ | ⟨rfl, a71⟩
                  · have _q : True := trivial
                    exfalso
                    omega
                  · have _q : True := trivial
                    refine jx_if_ne (pc' := 202) (tg := 237) rfl rfl rfl (by decide) (by decide) (fun h72 => ?_) (fun h72 => ?_)
                    · have _q := h72
                      exact absurd h72 (by omega)
                    · have _q := h72
                      refine jx_ld (pc' := 203) (l' := L) (st' := [.ref 66]) rfl (jl_aloadn gL_0) ?_
                      refine jr_get (pc' := 206) (i := 9) (v := .int (i32 (ln2_24))) rfl rfl (by decide) (rFv_eq (by decide) (show G22 9 = ln2_24 from (e37))) rfl ?_
                      refine jx_ld (pc' := 207) (l' := L) (st' := [.ref 66, .int (i32 (ln2_24))]) rfl (jl_aloadn gL_0) ?_
                      refine jr_get (pc' := 210) (i := 3) (v := .int (i32 (li))) rfl rfl (by decide) (rFv_eq (by decide) (show G22 3 = li from ((hF33.1 3 rfl).trans ((hFx.1 3 rfl).trans (e_li))))) rfl ?_
                      refine jx_icmp_ge (pc' := 213) (tg := 237) rfl rfl rfl (Int.le_trans (by decide : (-2147483648 : Int) ≤ 0) bln2_24.1) (Int.le_trans bln2_24.2 (by decide : (3000 : Int) ≤ 2147483647)) (Int.le_trans (by decide : (-2147483648 : Int) ≤ 0) b_li.1) (Int.le_trans b_li.2 (by decide : (3000 : Int) ≤ 2147483647)) (fun h73 => ?_) (fun h73 => ?_)
                      · have _q := h73
                        refine jx_rt (v := none) rfl rfl rfl rfl rfl rfl ?_
                        exact ⟨_, _, ln2_24, fk2_26, nd2_27, sy2_28, na2_29, vi2_30, pc1, lk1, rfl, rfl, hW32, hF52, (e37), (e39), (e40), (e41), (e42), (e43), ((hF33.1 46 rfl).trans (ex_pc1)), ((hF33.1 52 rfl).trans (ex_lk1)), by first | exact Or.inr ((⟨by omega, (TT_mk (V := Vs) (lo := nd1) (s0 := s0) (t0 := sb) (by omega) (by omega) (by omega) hvb sf55 sf56 sf57 a60 (by omega) (by omega) (by omega) (by omega) (by omega) (by omega) (by omega) (by omega) (by omega) (by omega) (by omega))⟩))⟩
                      · have _q := h73
                        refine jx_ld (pc' := 214) (l' := L) (st' := [.ref 66]) rfl (jl_aloadn gL_0) ?_
                        refine jx_ar (pc' := 215) (st' := [.int (i32 (1)), .ref 66]) rfl rfl rfl rfl ?_
                        refine jx_ld (pc' := 216) (l' := L) (st' := [.ref 66, .int (i32 (1)), .ref 66]) rfl (jl_aloadn gL_0) ?_
                        refine jr_get (pc' := 219) (i := 6) (v := .ref 70) rfl rfl (by decide) rfl rfl ?_
                        refine jx_ld (pc' := 220) (l' := L) (st' := [.ref 66, .ref 70, .int (i32 (1)), .ref 66]) rfl (jl_aloadn gL_0) ?_
                        refine jr_get (pc' := 223) (i := 9) (v := .int (i32 (ln2_24))) rfl rfl (by decide) (rFv_eq (by decide) (show G22 9 = ln2_24 from (e37))) rfl ?_
                        refine jr_ldv (pc' := 224) (i := 3) (m := 3001) (z := ln2_24) (y := lf2_31) rfl (by decide) rfl (by decide) (Int.le_trans (by decide : (0 : Int) ≤ 0) bln2_24.1) (Int.lt_of_le_of_lt bln2_24.2 (by decide : (3000 : Int) < ((3001 : Nat) : Int))) rfl (show A23 3 (ln2_24).toNat = lf2_31 from (e44)) ?_
                        refine jx_ld (pc' := 225) (l' := L) (st' := [.ref 66, .int (i32 (lf2_31)), .int (i32 (1)), .ref 66]) rfl (jl_aloadn gL_0) ?_
                        refine jr_get (pc' := 228) (i := 5) (v := .ref 69) rfl rfl (by decide) rfl rfl ?_
                        refine jx_ld (pc' := 229) (l' := L) (st' := [.ref 66, .ref 69, .int (i32 (lf2_31)), .int (i32 (1)), .ref 66]) rfl (jl_aloadn gL_0) ?_
                        refine jr_get (pc' := 232) (i := 9) (v := .int (i32 (ln2_24))) rfl rfl (by decide) (rFv_eq (by decide) (show G22 9 = ln2_24 from (e37))) rfl ?_
                        have b74 : (0 : Int) ≤ A 2 (ln2_24).toNat ∧ A 2 (ln2_24).toNat ≤ 3000 := hW.2 2 _
                        refine jr_ldv (pc' := 233) (i := 2) (m := 3001) (z := ln2_24) (y := A 2 (ln2_24).toNat) rfl (by decide) rfl (by decide) (Int.le_trans (by decide : (0 : Int) ≤ 0) bln2_24.1) (Int.lt_of_le_of_lt bln2_24.2 (by decide : (3000 : Int) < ((3001 : Nat) : Int))) rfl (show A23 2 (ln2_24).toNat = A 2 (ln2_24).toNat from (congrFun ((hF33.2 2 rfl).trans (hFx.2 2 rfl)) _)) ?_
                        refine jx_sub (pc' := 234) rfl rfl ?_
                        refine jx_vr (pc' := 237) (as := [.int (i32 (1)), .int (i32 ((lf2_31 - A 2 (ln2_24).toNat)))]) (st := []) rfl rfl rfl rfl ⟨rfl, rfl, Nat.le_of_ble_eq_true rfl⟩ rfl rfl (c_fail (dd := d) (hd := by omega) (hW := hW32) (kind := 1) (place := (lf2_31 - A 2 (ln2_24).toNat)) (fk := fk2_26) (e_fk := show G22 16 = fk2_26 from (e39))  (h_kind := ⟨(by decide), (by decide)⟩) (h_place := ⟨(by omega), (by omega)⟩)  (p_0 := by omega) (p_1 := by omega)) (fun o V' hq => ?_)
                        obtain ⟨G75, A76, fk2_77, rfl, rfl, hW78, hF79, e80, p81, -⟩ := hq
                        have hF83 := Fr_tr hF52 hF79 (Fr_sub (by decide)) (Fr_sub (by decide))
                        have sf84 : SW (Vs) (sb) (vi1) A76 := (show A76 = A23 from funext (fun k => hF79.2 k rfl)) ▸ sf53
                        have sf85 : PQ (Vs) (sb) (pb) (fun _ => 0) A76 := (show A76 = A23 from funext (fun k => hF79.2 k rfl)) ▸ sf54
                        have sf86 : VL (Vs) A76 (s0) (sb) := (show A76 = A23 from funext (fun k => hF79.2 k rfl)) ▸ sf55
                        have sf87 : wQ A76 (pc1).toNat (nd1) (s0) := (show A76 = A23 from funext (fun k => hF79.2 k rfl)) ▸ sf56
                        have sf88 : wK A76 (s0) (lk1) := (show A76 = A23 from funext (fun k => hF79.2 k rfl)) ▸ sf57
                        have sf89 : wB A76 Vs pb (nd1) (nd2_27) (sy1) (sy2_28) := (show A76 = A23 from funext (fun k => hF79.2 k rfl)) ▸ a60
                        have bfk2_77 : (0 : Int) ≤ fk2_77 ∧ fk2_77 ≤ 6 := e80 ▸ hW78.1 16
                        refine .inl ⟨rfl, ?_⟩
                        refine jx_rt (v := none) rfl rfl rfl rfl rfl rfl ?_
                        exact ⟨_, _, ln2_24, fk2_77, nd2_27, sy2_28, na2_29, vi2_30, pc1, lk1, rfl, rfl, hW78, hF83, ((hF79.1 9 rfl).trans (e37)), (e80), ((hF79.1 31 rfl).trans (e40)), ((hF79.1 19 rfl).trans (e41)), ((hF79.1 28 rfl).trans (e42)), ((hF79.1 29 rfl).trans (e43)), ((hF79.1 46 rfl).trans ((hF33.1 46 rfl).trans (ex_pc1))), ((hF79.1 52 rfl).trans ((hF33.1 52 rfl).trans (ex_lk1))), by first | exact Or.inl (by omega)⟩
          · have _q := h15
            exact absurd h15 (by omega)
        · have _q : True := trivial
          refine jx_if_ne (pc' := 161) (tg := 170) rfl rfl rfl (by decide) (by decide) (fun h90 => ?_) (fun h90 => ?_)
          · have _q := h90
            exact absurd h90 (by omega)
          · have _q := h90
            refine jx_ld (pc' := 162) (l' := L) (st' := [.ref 66]) rfl (jl_aloadn gL_0) ?_
            refine jx_ar (pc' := 163) (st' := [.int (i32 (1)), .ref 66]) rfl rfl rfl rfl ?_
            refine jx_ld (pc' := 164) (l' := L) (st' := [.ref 66, .int (i32 (1)), .ref 66]) rfl (jl_aloadn gL_0) ?_
            have b91 : (-3000 : Int) ≤ Gx 12 ∧ Gx 12 ≤ 3002 := hWx.1 12
            refine jr_get (pc' := 167) (i := 12) (v := .int (i32 (Gx 12))) rfl rfl (by decide) rfl rfl ?_
            refine jx_vr (pc' := 170) (as := [.int (i32 (1)), .int (i32 (Gx 12))]) (st := []) rfl rfl rfl rfl ⟨rfl, rfl, Nat.le_of_ble_eq_true rfl⟩ rfl rfl (c_fail (dd := d) (hd := by omega) (hW := hWx) (kind := 1) (place := Gx 12) (fk := fk1) (e_fk := show Gx 16 = fk1 from (ex_fk1))  (h_kind := ⟨(by decide), (by decide)⟩) (h_place := ⟨(Int.le_trans (by decide : (-2147483648 : Int) ≤ -3000) b91.1), (Int.le_trans b91.2 (by decide : (3002 : Int) ≤ 2147483647))⟩)  (p_0 := by omega) (p_1 := by omega)) (fun o V' hq => ?_)
            obtain ⟨G92, A93, fk2_94, rfl, rfl, hW95, hF96, e97, p98, -⟩ := hq
            have hF100 := Fr_tr hFx hF96 (Fr_sub (by decide)) (Fr_sub (by decide))
            have sf101 : PZ A93 := (show A93 = Ax from funext (fun k => hF96.2 k rfl)) ▸ iv_11
            have sf102 : SW (Vs) (sb) (vi1) A93 := (show A93 = Ax from funext (fun k => hF96.2 k rfl)) ▸ hSW0
            have sf103 : PQ (Vs) (sb) (pb) (fun _ => 0) A93 := (show A93 = Ax from funext (fun k => hF96.2 k rfl)) ▸ hPW0
            have sf104 : VL (Vs) A93 (s0) (sb) := (show A93 = Ax from funext (fun k => hF96.2 k rfl)) ▸ hVL0
            have sf105 : wQ A93 (pc1).toNat (nd1) (s0) := (show A93 = Ax from funext (fun k => hF96.2 k rfl)) ▸ hwQ0
            have sf106 : wK A93 (s0) (lk1) := (show A93 = Ax from funext (fun k => hF96.2 k rfl)) ▸ hwK0
            have bfk2_94 : (0 : Int) ≤ fk2_94 ∧ fk2_94 ≤ 6 := e97 ▸ hW95.1 16
            refine .inl ⟨rfl, ?_⟩
            refine jx_ld (pc' := 171) (l' := L) (st' := [.ref 66]) rfl (jl_aloadn gL_0) ?_
            refine jx_vr (pc' := 174) (as := []) (st := []) rfl rfl rfl rfl ⟨rfl, rfl, Nat.le_of_ble_eq_true rfl⟩ rfl rfl (c_bad (dd := d) (hd := by omega) (hW := hW95)  (fk := fk2_94) (e_fk := show G92 16 = fk2_94 from (e97))    ) (fun o V' hq => ?_)
            obtain ⟨r107, rfl, rfl, b108, q109⟩ := hq
            refine .inr ⟨_, rfl, ?_⟩
            rcases q109 with ⟨rfl, a110⟩ | ⟨rfl, a111⟩
            · have _q : True := trivial
              refine jx_if_ne (pc' := 177) (tg := 195) rfl rfl rfl (by decide) (by decide) (fun h112 => ?_) (fun h112 => ?_)
              · have _q := h112
                refine jx_ld (pc' := 196) (l' := L) (st' := [.ref 66]) rfl (jl_aloadn gL_0) ?_
                refine jx_vr (pc' := 199) (as := []) (st := []) rfl rfl rfl rfl ⟨rfl, rfl, Nat.le_of_ble_eq_true rfl⟩ rfl rfl (c_bad (dd := d) (hd := by omega) (hW := hW95)  (fk := fk2_94) (e_fk := show G92 16 = fk2_94 from (e97))    ) (fun o V' hq => ?_)
                obtain ⟨r113, rfl, rfl, b114, q115⟩ := hq
                refine .inr ⟨_, rfl, ?_⟩
                rcases q115 with ⟨rfl, a116⟩ | ⟨rfl, a117⟩
                · have _q : True := trivial
                  refine jx_if_ne (pc' := 202) (tg := 237) rfl rfl rfl (by decide) (by decide) (fun h118 => ?_) (fun h118 => ?_)
                  · have _q := h118
                    refine jx_rt (v := none) rfl rfl rfl rfl rfl rfl ?_
                    exact ⟨_, _, ln1, fk2_94, nd1, sy1, na1, vi1, pc1, lk1, rfl, rfl, hW95, hF100, ((hF96.1 9 rfl).trans (ex_ln1)), (e97), ((hF96.1 31 rfl).trans (ex_nd1)), ((hF96.1 19 rfl).trans (ex_sy1)), ((hF96.1 28 rfl).trans (ex_na1)), ((hF96.1 29 rfl).trans (ex_vi1)), ((hF96.1 46 rfl).trans (ex_pc1)), ((hF96.1 52 rfl).trans (ex_lk1)), by first | exact Or.inl (by omega)⟩
                  · have _q := h118
                    exact absurd h118 (by omega)
                · have _q : True := trivial
                  exfalso
                  omega
              · have _q := h112
                exact absurd h112 (by omega)
            · have _q : True := trivial
              exfalso
              omega
set_option maxRecDepth 20000 in
set_option maxHeartbeats 4000000 in
theorem c_readProgram_at_106_1 {X : jX} {d : Nat} {c0 c1 : jC} {G : Nat → Int} {A : Nat → Nat → Int} {T : jH} {ln li fk nd sy na vi lf pc lk : Int} (hd : 8 * 18 + 82 ≤ d + 1) (hW : Wk G A) (e_ln : G 9 = ln) (e_li : G 3 = li) (e_fk : G 16 = fk) (e_nd : G 31 = nd) (e_sy : G 19 = sy) (e_na : G 28 = na) (e_vi : G 29 = vi) (e_lf : A 3 (ln).toNat = lf) (e_pc : G 46 = pc) (e_lk : G 52 = lk) (i_LT : LT G A) (p_0 : fk = 0) (p_1 : ln = 0) (p_2 : nd = 1) (p_3 : sy = 0) (p_4 : na = 0) (p_5 : vi = 0) (p_6 : pc = 0) (p_7 : lk = 0) (p_8 : PZ A) : ∀ (m : Nat) (L : jL) (Gx : Nat → Int) (Ax : Nat → Nat → Int) (ln1 at1 tk1 fk1 op1 nd1 sy1 na1 vi1 lf1 le1 pc1 lk1 : Int), (li - ln1).toNat = m → jGet L 0 = some (.ref 66) → jGet L 2 = some (.int (i32 (1))) → Wk Gx Ax → Fr [9, 10, 11, 12, 13, 14, 15, 16, 17, 18, 19, 28, 29, 31, 46, 52] [6, 7, 8, 9, 10, 11, 12, 14, 15, 16, 17, 18, 19, 20, 21, 22, 23, 24, 28, 29, 30, 31, 34, 35, 36] G A Gx Ax → Gx 9 = ln1 → Gx 10 = at1 → Gx 11 = tk1 → Gx 16 = fk1 → Gx 15 = op1 → Gx 31 = nd1 → Gx 19 = sy1 → Gx 28 = na1 → Gx 29 = vi1 → Ax 3 (ln1).toNat = lf1 → Ax 4 (ln1).toNat = le1 → Gx 46 = pc1 → Gx 52 = lk1 → (fk1 = 0) → (0 ≤ lf1) → (ln1 < li) → (lf1 < le1) → (2 * lf1 ≤ 2 * at1 - tz tk1) → (lf1 ≤ at1) → (at1 ≤ le1) → (nd1 ≤ 2 * lf1 + 2) → (op1 = 0) → (sy1 ≤ na1 + 2) → (vi1 ≤ sy1) → (PZ Ax) → (TL Ax (pc1) (nd1) (sy1) (lk1) (vi1)) → wj X d jm312 (106, L, [], rV c0 c1 Gx Ax T) (fun o V' => ∃ (G' : Nat → Int) (A' : Nat → Nat → Int) (ln2 : Int) (fk2 : Int) (nd2 : Int) (sy2 : Int) (na2 : Int) (vi2 : Int) (pc2 : Int) (lk2 : Int), V' = rV c0 c1 G' A' T ∧ o = .inl none ∧ Wk G' A' ∧ Fr [9, 10, 11, 12, 13, 14, 15, 16, 17, 18, 19, 28, 29, 31, 46, 52] [6, 7, 8, 9, 10, 11, 12, 14, 15, 16, 17, 18, 19, 20, 21, 22, 23, 24, 28, 29, 30, 31, 34, 35, 36] G A G' A' ∧ G' 9 = ln2 ∧ G' 16 = fk2 ∧ G' 31 = nd2 ∧ G' 19 = sy2 ∧ G' 28 = na2 ∧ G' 29 = vi2 ∧ G' 46 = pc2 ∧ G' 52 = lk2 ∧ (((1 ≤ fk2)) ∨ ((fk2 = 0) ∧ (TT A' (pc2) (nd2) (sy2) (lk2))))) := by
  have hF0 : Fr [9, 10, 11, 12, 13, 14, 15, 16, 17, 18, 19, 28, 29, 31, 46, 52] [6, 7, 8, 9, 10, 11, 12, 14, 15, 16, 17, 18, 19, 20, 21, 22, 23, 24, 28, 29, 30, 31, 34, 35, 36] G A G A := Fr_rf
  have b_ln : (0 : Int) ≤ ln ∧ ln ≤ 3000 := e_ln ▸ hW.1 9
  have b_li : (0 : Int) ≤ li ∧ li ≤ 3000 := e_li ▸ hW.1 3
  have b_fk : (0 : Int) ≤ fk ∧ fk ≤ 6 := e_fk ▸ hW.1 16
  have b_nd : (0 : Int) ≤ nd ∧ nd ≤ 6999 := e_nd ▸ hW.1 31
  have b_sy : (0 : Int) ≤ sy ∧ sy ≤ 202 := e_sy ▸ hW.1 19
  have b_na : (0 : Int) ≤ na ∧ na ≤ 200 := e_na ▸ hW.1 28
  have b_vi : (0 : Int) ≤ vi ∧ vi ≤ 202 := e_vi ▸ hW.1 29
  have b_lf : (0 : Int) ≤ lf ∧ lf ≤ 3000 := e_lf ▸ hW.2 3 _
  have b_pc : (0 : Int) ≤ pc ∧ pc ≤ 24 := e_pc ▸ hW.1 46
  have b_lk : (0 : Int) ≤ lk ∧ lk ≤ 12 := e_lk ▸ hW.1 52
  intro m
  induction m using Nat.strongRecOn with
  | ind m ih106_1 =>
    intro L Gx Ax ln1 at1 tk1 fk1 op1 nd1 sy1 na1 vi1 lf1 le1 pc1 lk1 hm gL_0 gL_2 hWx hFx ex_ln1 ex_at1 ex_tk1 ex_fk1 ex_op1 ex_nd1 ex_sy1 ex_na1 ex_vi1 ex_lf1 ex_le1 ex_pc1 ex_lk1 iv_0 iv_1 iv_2 iv_3 iv_4 iv_5 iv_6 iv_7 iv_8 iv_9 iv_10 iv_11 iv_12
    have b_ln1 : (0 : Int) ≤ ln1 ∧ ln1 ≤ 3000 := ex_ln1 ▸ hWx.1 9
    have b_at1 : (0 : Int) ≤ at1 ∧ at1 ≤ 3002 := ex_at1 ▸ hWx.1 10
    have z_tk1 := tz_f tk1
    have b_tk1 : (0 : Int) ≤ tk1 ∧ tk1 ≤ 5 := ex_tk1 ▸ hWx.1 11
    have b_fk1 : (0 : Int) ≤ fk1 ∧ fk1 ≤ 6 := ex_fk1 ▸ hWx.1 16
    have b_op1 : (-2147483648 : Int) ≤ op1 ∧ op1 ≤ 2147483647 := ex_op1 ▸ hWx.1 15
    have b_nd1 : (0 : Int) ≤ nd1 ∧ nd1 ≤ 6999 := ex_nd1 ▸ hWx.1 31
    have b_sy1 : (0 : Int) ≤ sy1 ∧ sy1 ≤ 202 := ex_sy1 ▸ hWx.1 19
    have b_na1 : (0 : Int) ≤ na1 ∧ na1 ≤ 200 := ex_na1 ▸ hWx.1 28
    have b_vi1 : (0 : Int) ≤ vi1 ∧ vi1 ≤ 202 := ex_vi1 ▸ hWx.1 29
    have b_pc1 : (0 : Int) ≤ pc1 ∧ pc1 ≤ 24 := ex_pc1 ▸ hWx.1 46
    have b_lk1 : (0 : Int) ≤ lk1 ∧ lk1 ≤ 12 := ex_lk1 ▸ hWx.1 52
    obtain ⟨Vs, s0, hs0, hlk0, h2s, hvb, hSW0, hPW0, hVL0, hwQ0, hwK0⟩ := iv_12; obtain ⟨sb, hsb⟩ : ∃ z : Int, z = sy1 := ⟨_, rfl⟩; obtain ⟨pb, hpb⟩ : ∃ z : Int, z = pc1 := ⟨_, rfl⟩; rw [← hsb] at hvb hSW0 hPW0 hVL0; rw [← hpb] at hPW0; have hle0 := wQ_le hwQ0
    refine jx_ld (pc' := 107) (l' := L) (st' := [.ref 66]) rfl (jl_aloadn gL_0) ?_
    refine jx_vr (pc' := 110) (as := []) (st := []) rfl rfl rfl rfl ⟨rfl, rfl, Nat.le_of_ble_eq_true rfl⟩ rfl rfl (c_bad (dd := d) (hd := by omega) (hW := hWx)  (fk := fk1) (e_fk := show Gx 16 = fk1 from (ex_fk1))    ) (fun o V' hq => ?_)
    obtain ⟨r119, rfl, rfl, b120, q121⟩ := hq
    refine .inr ⟨_, rfl, ?_⟩
    rcases q121 with ⟨rfl, a122⟩ | ⟨rfl, a123⟩
    · have _q : True := trivial
      exfalso
      omega
    · have _q : True := trivial
      refine jx_if_ne (pc' := 113) (tg := 141) rfl rfl rfl (by decide) (by decide) (fun h124 => ?_) (fun h124 => ?_)
      · have _q := h124
        exact absurd h124 (by omega)
      · have _q := h124
        refine jx_ld (pc' := 114) (l' := L) (st' := [.ref 66]) rfl (jl_aloadn gL_0) ?_
        refine jx_ar (pc' := 116) (st' := [.int (i32 (21)), .ref 66]) rfl rfl rfl rfl ?_
        have b125 : (-2147483648 : Int) ≤ Gx 13 ∧ Gx 13 ≤ 2147483647 := hWx.1 13
        refine jx_vr (pc' := 119) (as := [.int (i32 (21))]) (st := []) rfl rfl rfl rfl ⟨rfl, rfl, Nat.le_of_ble_eq_true rfl⟩ rfl rfl (c_isKey2 (dd := d) (hd := by omega) (hW := hWx) (k := 21) (tk := tk1) (e_tk := show Gx 11 = tk1 from (ex_tk1)) (tn := Gx 13) (e_tn := show Gx 13 = Gx 13 from rfl)  (h_k := ⟨(by decide), (by decide)⟩)  ) (fun o V' hq => ?_)
        obtain ⟨r126, rfl, rfl, b127, q128⟩ := hq
        refine .inr ⟨_, rfl, ?_⟩
        rcases q128 with ⟨rfl, a129, a130, a131⟩ | ⟨rfl, a132⟩
        · have _q : True := trivial
          refine jx_if_eq (pc' := 122) (tg := 141) rfl rfl rfl (by decide) (by decide) (fun h133 => ?_) (fun h133 => ?_)
          · have _q := h133
            exact absurd h133 (by omega)
          · have _q := h133
            refine jx_ld (pc' := 123) (l' := L) (st' := [.ref 66]) rfl (jl_aloadn gL_0) ?_
            refine jx_vr (pc' := 126) (as := []) (st := []) rfl rfl rfl rfl ⟨rfl, rfl, Nat.le_of_ble_eq_true rfl⟩ rfl rfl (c_readLink (dd := d) (hd := by omega) (hW := hWx)  (ln := ln1) (e_ln := show Gx 9 = ln1 from (ex_ln1)) (le := le1) (e_le := show Ax 4 (ln1).toNat = le1 from (ex_le1)) (at0 := at1) (e_at0 := show Gx 10 = at1 from (ex_at1)) (fk := fk1) (e_fk := show Gx 16 = fk1 from (ex_fk1)) (tk0 := tk1) (e_tk0 := show Gx 11 = tk1 from (ex_tk1)) (sy := sy1) (e_sy := show Gx 19 = sy1 from (ex_sy1)) (na := na1) (e_na := show Gx 28 = na1 from (ex_na1)) (li := li) (e_li := show Gx 3 = li from ((hFx.1 3 rfl).trans (e_li))) (vi := vi1) (e_vi := show Gx 29 = vi1 from (ex_vi1)) (lk0 := lk1) (e_lk0 := show Gx 52 = lk1 from (ex_lk1)) (i_LT := (LT_ext ((hFx.1 3 rfl)) ((hFx.2 3 rfl)) ((hFx.2 4 rfl)) i_LT)) (i_SV := (SW_sv hSW0 ((show Gx 29 = vi1 from (ex_vi1)).trans (by omega)))) (i_PQ := hPW0) (hvb := hvb)   (p_0 := by omega) (p_1 := by omega) (p_2 := by omega) (p_3 := by omega) (p_4 := by omega) (p_5 := by omega)) (fun o V' hq => ?_)
            obtain ⟨G134, A135, ln2_136, at2_137, fk2_138, sy2_139, na2_140, vi2_141, lk2_142, rfl, rfl, hW143, hF144, hQ145, hQ146, hQ147, e148, e149, e150, e151, e152, e153, e154, p155, p156, p157, p158, p159, p160, p161, q162⟩ := hq
            have hF163 := Fr_tr hFx hF144 (Fr_sub (by decide)) (Fr_sub (by decide))
            have sf164 : PZ A135 := PZ_ext (hF144.2 36 rfl) iv_11
            have sf165 : SW (Vs) (sb) (vi1) A135 := SW_fx hQ146 (by omega) hSW0
            have sf166 : PQ (Vs) (sb) (pb) (fun _ => 0) A135 := PQ_fxq hPW0 hQ145 (by omega) (Fx_f (w := pb) Fx_rf hF144 (by decide)) (by omega)
            have sf167 : VL (Vs) A135 (s0) (sb) := VL_fx hQ145 (by omega) hVL0
            have sf168 : wQ A135 (pc1).toNat (nd1) (s0) := wQ_fx (Pf_f Pf_rf hF144 (by decide)) (Fx_su hQ145 (by omega)) (Fx_su (Fx_f (w := pc1) Fx_rf hF144 (by decide)) (by omega)) hwQ0
            have sf169 : wK A135 (s0) (lk1) := wK_fx hQ145 hQ147 (by omega) (by omega) (by omega) hwK0
            have bln2_136 : (0 : Int) ≤ ln2_136 ∧ ln2_136 ≤ 3000 := e148 ▸ hW143.1 9
            have bat2_137 : (0 : Int) ≤ at2_137 ∧ at2_137 ≤ 3002 := e149 ▸ hW143.1 10
            have bfk2_138 : (0 : Int) ≤ fk2_138 ∧ fk2_138 ≤ 6 := e150 ▸ hW143.1 16
            have bsy2_139 : (0 : Int) ≤ sy2_139 ∧ sy2_139 ≤ 202 := e151 ▸ hW143.1 19
            have bna2_140 : (0 : Int) ≤ na2_140 ∧ na2_140 ≤ 200 := e152 ▸ hW143.1 28
            have bvi2_141 : (0 : Int) ≤ vi2_141 ∧ vi2_141 ≤ 202 := e153 ▸ hW143.1 29
            have blk2_142 : (0 : Int) ≤ lk2_142 ∧ lk2_142 ≤ 12 := e154 ▸ hW143.1 52
            refine .inl ⟨rfl, ?_⟩
            rcases q162 with a170 | ⟨a171, a172, a173, a174, a175, a176, a177, a178⟩
            · have _q : True := trivial
              refine jx_ld (pc' := 127) (l' := L) (st' := [.ref 66]) rfl (jl_aloadn gL_0) ?_
              refine jx_ar (pc' := 128) (st' := [.int (i32 (0)), .ref 66]) rfl rfl rfl rfl ?_
              have b179 : (-1 : Int) ≤ A 5 (ln2_136).toNat ∧ A 5 (ln2_136).toNat ≤ 15 := hW.2 5 _
              refine jx_vr (pc' := 131) (as := [.int (i32 (0))]) (st := []) rfl rfl rfl rfl ⟨rfl, rfl, Nat.le_of_ble_eq_true rfl⟩ rfl rfl (c_needLevel (dd := d) (hd := by omega) (hW := hW143) (lv := 0) (ln := ln2_136) (e_ln := show G134 9 = ln2_136 from (e148)) (li := li) (e_li := show G134 3 = li from ((hF144.1 3 rfl).trans ((hFx.1 3 rfl).trans (e_li)))) (fk := fk2_138) (e_fk := show G134 16 = fk2_138 from (e150)) (ll := A 5 (ln2_136).toNat) (e_ll := show A135 5 (ln2_136).toNat = A 5 (ln2_136).toNat from (congrFun ((hF144.2 5 rfl).trans (hFx.2 5 rfl)) _))  (h_lv := ⟨(by decide), (by decide)⟩)  ) (fun o V' hq => ?_)
              obtain ⟨G180, A181, r182, fk2_183, rfl, rfl, hW184, hF185, b186, e187, q188⟩ := hq
              have hF189 := Fr_tr hF163 hF185 (Fr_sub (by decide)) (Fr_sub (by decide))
              have sf190 : PZ A181 := (show A181 = A135 from funext (fun k => hF185.2 k rfl)) ▸ sf164
              have sf191 : SW (Vs) (sb) (vi1) A181 := (show A181 = A135 from funext (fun k => hF185.2 k rfl)) ▸ sf165
              have sf192 : PQ (Vs) (sb) (pb) (fun _ => 0) A181 := (show A181 = A135 from funext (fun k => hF185.2 k rfl)) ▸ sf166
              have sf193 : VL (Vs) A181 (s0) (sb) := (show A181 = A135 from funext (fun k => hF185.2 k rfl)) ▸ sf167
              have sf194 : wQ A181 (pc1).toNat (nd1) (s0) := (show A181 = A135 from funext (fun k => hF185.2 k rfl)) ▸ sf168
              have sf195 : wK A181 (s0) (lk1) := (show A181 = A135 from funext (fun k => hF185.2 k rfl)) ▸ sf169
              have bfk2_183 : (0 : Int) ≤ fk2_183 ∧ fk2_183 ≤ 6 := e187 ▸ hW184.1 16
              refine .inr ⟨_, rfl, ?_⟩
              rcases q188 with ⟨rfl, a196, a197, a198, a199⟩ | ⟨rfl, a200⟩
              · have _q : True := trivial
                exfalso
                omega
              · have _q : True := trivial
                refine jx_if_eq (pc' := 134) (tg := 106) rfl rfl rfl (by decide) (by decide) (fun h201 => ?_) (fun h201 => ?_)
                · have _q := h201
                  refine jx_ld (pc' := 107) (l' := L) (st' := [.ref 66]) rfl (jl_aloadn gL_0) ?_
                  refine jx_vr (pc' := 110) (as := []) (st := []) rfl rfl rfl rfl ⟨rfl, rfl, Nat.le_of_ble_eq_true rfl⟩ rfl rfl (c_bad (dd := d) (hd := by omega) (hW := hW184)  (fk := fk2_183) (e_fk := show G180 16 = fk2_183 from (e187))    ) (fun o V' hq => ?_)
                  obtain ⟨r202, rfl, rfl, b203, q204⟩ := hq
                  refine .inr ⟨_, rfl, ?_⟩
                  rcases q204 with ⟨rfl, a205⟩ | ⟨rfl, a206⟩
                  · have _q : True := trivial
                    refine jx_if_ne (pc' := 113) (tg := 141) rfl rfl rfl (by decide) (by decide) (fun h207 => ?_) (fun h207 => ?_)
                    · have _q := h207
                      refine jx_ld (pc' := 142) (l' := L) (st' := [.int (i32 (1))]) rfl (jl_iloadn gL_2) ?_
                      refine jx_if_eq (pc' := 145) (tg := 184) rfl rfl rfl (by decide) (by decide) (fun h208 => ?_) (fun h208 => ?_)
                      · have _q := h208
                        exact absurd h208 (by omega)
                      · have _q := h208
                        refine jx_ld (pc' := 146) (l' := L) (st' := [.ref 66]) rfl (jl_aloadn gL_0) ?_
                        refine jx_vr (pc' := 149) (as := []) (st := []) rfl rfl rfl rfl ⟨rfl, rfl, Nat.le_of_ble_eq_true rfl⟩ rfl rfl (c_bad (dd := d) (hd := by omega) (hW := hW184)  (fk := fk2_183) (e_fk := show G180 16 = fk2_183 from (e187))    ) (fun o V' hq => ?_)
                        obtain ⟨r209, rfl, rfl, b210, q211⟩ := hq
                        refine .inr ⟨_, rfl, ?_⟩
                        rcases q211 with ⟨rfl, a212⟩ | ⟨rfl, a213⟩
                        · have _q : True := trivial
                          refine jx_if_ne (pc' := 152) (tg := 170) rfl rfl rfl (by decide) (by decide) (fun h214 => ?_) (fun h214 => ?_)
                          · have _q := h214
                            refine jx_ld (pc' := 171) (l' := L) (st' := [.ref 66]) rfl (jl_aloadn gL_0) ?_
                            refine jx_vr (pc' := 174) (as := []) (st := []) rfl rfl rfl rfl ⟨rfl, rfl, Nat.le_of_ble_eq_true rfl⟩ rfl rfl (c_bad (dd := d) (hd := by omega) (hW := hW184)  (fk := fk2_183) (e_fk := show G180 16 = fk2_183 from (e187))    ) (fun o V' hq => ?_)
                            obtain ⟨r215, rfl, rfl, b216, q217⟩ := hq
                            refine .inr ⟨_, rfl, ?_⟩
                            rcases q217 with ⟨rfl, a218⟩ | ⟨rfl, a219⟩
                            · have _q : True := trivial
                              refine jx_if_ne (pc' := 177) (tg := 195) rfl rfl rfl (by decide) (by decide) (fun h220 => ?_) (fun h220 => ?_)
                              · have _q := h220
                                refine jx_ld (pc' := 196) (l' := L) (st' := [.ref 66]) rfl (jl_aloadn gL_0) ?_
                                refine jx_vr (pc' := 199) (as := []) (st := []) rfl rfl rfl rfl ⟨rfl, rfl, Nat.le_of_ble_eq_true rfl⟩ rfl rfl (c_bad (dd := d) (hd := by omega) (hW := hW184)  (fk := fk2_183) (e_fk := show G180 16 = fk2_183 from (e187))    ) (fun o V' hq => ?_)
                                obtain ⟨r221, rfl, rfl, b222, q223⟩ := hq
                                refine .inr ⟨_, rfl, ?_⟩
                                rcases q223 with ⟨rfl, a224⟩ | ⟨rfl, a225⟩
                                · have _q : True := trivial
                                  refine jx_if_ne (pc' := 202) (tg := 237) rfl rfl rfl (by decide) (by decide) (fun h226 => ?_) (fun h226 => ?_)
                                  · have _q := h226
                                    refine jx_rt (v := none) rfl rfl rfl rfl rfl rfl ?_
                                    exact ⟨_, _, ln2_136, fk2_183, nd1, sy2_139, na2_140, vi2_141, pc1, lk2_142, rfl, rfl, hW184, hF189, ((hF185.1 9 rfl).trans (e148)), (e187), ((hF185.1 31 rfl).trans ((hF144.1 31 rfl).trans (ex_nd1))), ((hF185.1 19 rfl).trans (e151)), ((hF185.1 28 rfl).trans (e152)), ((hF185.1 29 rfl).trans (e153)), ((hF185.1 46 rfl).trans ((hF144.1 46 rfl).trans (ex_pc1))), ((hF185.1 52 rfl).trans (e154)), by first | exact Or.inl (by omega)⟩
                                  · have _q := h226
                                    exact absurd h226 (by omega)
                                · have _q : True := trivial
                                  exfalso
                                  omega
                              · have _q := h220
                                exact absurd h220 (by omega)
                            · have _q : True := trivial
                              exfalso
                              omega
                          · have _q := h214
                            exact absurd h214 (by omega)
                        · have _q : True := trivial
                          exfalso
                          omega
                    · have _q := h207
                      exact absurd h207 (by omega)
                  · have _q : True := trivial
                    exfalso
                    omega
                · have _q := h201
                  exact absurd h201 (by omega)
            · have _q : True := trivial
              have b227 : (0 : Int) ≤ A 3 (ln2_136).toNat ∧ A 3 (ln2_136).toNat ≤ 3000 := hW.2 3 _
              have lt228 : ln2_136 < li → le1 < A 3 (ln2_136).toNat := fun hh => LT_nx (LT_ext (((hF144.1 3 rfl).trans (hFx.1 3 rfl))) (((hF144.2 3 rfl).trans (hFx.2 3 rfl))) (((hF144.2 4 rfl).trans (hFx.2 4 rfl))) i_LT) (show G134 3 = li from ((hF144.1 3 rfl).trans ((hFx.1 3 rfl).trans (e_li)))) (show A135 4 (ln1).toNat = le1 from (congrFun (hF144.2 4 rfl) _).trans (ex_le1)) (show A135 3 (ln2_136).toNat = A 3 (ln2_136).toNat from (congrFun ((hF144.2 3 rfl).trans (hFx.2 3 rfl)) _)) (show ln2_136 = ln1 + 1 by omega) (by omega) hh
              refine jx_ld (pc' := 127) (l' := L) (st' := [.ref 66]) rfl (jl_aloadn gL_0) ?_
              refine jx_ar (pc' := 128) (st' := [.int (i32 (0)), .ref 66]) rfl rfl rfl rfl ?_
              have b229 : (-1 : Int) ≤ A 5 (ln2_136).toNat ∧ A 5 (ln2_136).toNat ≤ 15 := hW.2 5 _
              refine jx_vr (pc' := 131) (as := [.int (i32 (0))]) (st := []) rfl rfl rfl rfl ⟨rfl, rfl, Nat.le_of_ble_eq_true rfl⟩ rfl rfl (c_needLevel (dd := d) (hd := by omega) (hW := hW143) (lv := 0) (ln := ln2_136) (e_ln := show G134 9 = ln2_136 from (e148)) (li := li) (e_li := show G134 3 = li from ((hF144.1 3 rfl).trans ((hFx.1 3 rfl).trans (e_li)))) (fk := fk2_138) (e_fk := show G134 16 = fk2_138 from (e150)) (ll := A 5 (ln2_136).toNat) (e_ll := show A135 5 (ln2_136).toNat = A 5 (ln2_136).toNat from (congrFun ((hF144.2 5 rfl).trans (hFx.2 5 rfl)) _))  (h_lv := ⟨(by decide), (by decide)⟩)  ) (fun o V' hq => ?_)
              obtain ⟨G230, A231, r232, fk2_233, rfl, rfl, hW234, hF235, b236, e237, q238⟩ := hq
              have hF239 := Fr_tr hF163 hF235 (Fr_sub (by decide)) (Fr_sub (by decide))
              have sf240 : PZ A231 := (show A231 = A135 from funext (fun k => hF235.2 k rfl)) ▸ sf164
              have sf241 : SW (Vs) (sb) (vi1) A231 := (show A231 = A135 from funext (fun k => hF235.2 k rfl)) ▸ sf165
              have sf242 : PQ (Vs) (sb) (pb) (fun _ => 0) A231 := (show A231 = A135 from funext (fun k => hF235.2 k rfl)) ▸ sf166
              have sf243 : VL (Vs) A231 (s0) (sb) := (show A231 = A135 from funext (fun k => hF235.2 k rfl)) ▸ sf167
              have sf244 : wQ A231 (pc1).toNat (nd1) (s0) := (show A231 = A135 from funext (fun k => hF235.2 k rfl)) ▸ sf168
              have sf245 : wK A231 (s0) (lk1) := (show A231 = A135 from funext (fun k => hF235.2 k rfl)) ▸ sf169
              have sf246 : SW (Vu Vs sy1) (sy2_139) (vi2_141) A231 := (show A231 = A135 from funext (fun k => hF235.2 k rfl)) ▸ a176
              have sf247 : PQ (Vu Vs sy1) (sy2_139) (pb) (fun _ => 0) A231 := (show A231 = A135 from funext (fun k => hF235.2 k rfl)) ▸ a177
              have sf248 : LK A231 (sy1) (lk1) := (show A231 = A135 from funext (fun k => hF235.2 k rfl)) ▸ a178
              have bfk2_233 : (0 : Int) ≤ fk2_233 ∧ fk2_233 ≤ 6 := e237 ▸ hW234.1 16
              refine .inr ⟨_, rfl, ?_⟩
              rcases q238 with ⟨rfl, a249, a250, a251, a252⟩ | ⟨rfl, a253⟩
              · have _q : True := trivial
                have b254 : (0 : Int) ≤ A 4 (ln2_136).toNat ∧ A 4 (ln2_136).toNat ≤ 3000 := hW.2 4 _
                have lt255 : A 3 (ln2_136).toNat < A 4 (ln2_136).toNat := LT_at (LT_ext (((hF235.1 3 rfl).trans ((hF144.1 3 rfl).trans (hFx.1 3 rfl)))) (((hF235.2 3 rfl).trans ((hF144.2 3 rfl).trans (hFx.2 3 rfl)))) (((hF235.2 4 rfl).trans ((hF144.2 4 rfl).trans (hFx.2 4 rfl)))) i_LT) (show G230 3 = li from ((hF235.1 3 rfl).trans ((hF144.1 3 rfl).trans ((hFx.1 3 rfl).trans (e_li))))) (show A231 3 (ln2_136).toNat = A 3 (ln2_136).toNat from (congrFun ((hF235.2 3 rfl).trans ((hF144.2 3 rfl).trans (hFx.2 3 rfl))) _)) (show A231 4 (ln2_136).toNat = A 4 (ln2_136).toNat from (congrFun ((hF235.2 4 rfl).trans ((hF144.2 4 rfl).trans (hFx.2 4 rfl))) _)) (by omega) (by omega)
                refine jx_if_eq (pc' := 134) (tg := 106) rfl rfl rfl (by decide) (by decide) (fun h256 => ?_) (fun h256 => ?_)
                · have _q := h256
                  exact absurd h256 (by omega)
                · have _q := h256
                  refine jx_ld (pc' := 135) (l' := L) (st' := [.ref 66]) rfl (jl_aloadn gL_0) ?_
                  refine jx_vr (pc' := 138) (as := []) (st := []) rfl rfl rfl rfl ⟨rfl, rfl, Nat.le_of_ble_eq_true rfl⟩ rfl rfl (c_openLine (dd := d) (hd := by omega) (hW := hW234)  (ln := ln2_136) (e_ln := show G230 9 = ln2_136 from ((hF235.1 9 rfl).trans (e148))) (le := A 4 (ln2_136).toNat) (e_le := show A231 4 (ln2_136).toNat = A 4 (ln2_136).toNat from (congrFun ((hF235.2 4 rfl).trans ((hF144.2 4 rfl).trans (hFx.2 4 rfl))) _)) (lf := A 3 (ln2_136).toNat) (e_lf := show A231 3 (ln2_136).toNat = A 3 (ln2_136).toNat from (congrFun ((hF235.2 3 rfl).trans ((hF144.2 3 rfl).trans (hFx.2 3 rfl))) _))    (p_0 := by omega)) (fun o V' hq => ?_)
                  obtain ⟨G257, A258, at2_259, tk2_260, op2_261, rfl, rfl, hW262, hF263, e264, e265, e266, p267, p268, p269, p270, -⟩ := hq
                  have hF272 := Fr_tr hF239 hF263 (Fr_sub (by decide)) (Fr_sub (by decide))
                  have sf273 : PZ A258 := (show A258 = A231 from funext (fun k => hF263.2 k rfl)) ▸ sf240
                  have sf274 : SW (Vs) (sb) (vi1) A258 := (show A258 = A231 from funext (fun k => hF263.2 k rfl)) ▸ sf241
                  have sf275 : PQ (Vs) (sb) (pb) (fun _ => 0) A258 := (show A258 = A231 from funext (fun k => hF263.2 k rfl)) ▸ sf242
                  have sf276 : VL (Vs) A258 (s0) (sb) := (show A258 = A231 from funext (fun k => hF263.2 k rfl)) ▸ sf243
                  have sf277 : wQ A258 (pc1).toNat (nd1) (s0) := (show A258 = A231 from funext (fun k => hF263.2 k rfl)) ▸ sf244
                  have sf278 : wK A258 (s0) (lk1) := (show A258 = A231 from funext (fun k => hF263.2 k rfl)) ▸ sf245
                  have sf279 : SW (Vu Vs sy1) (sy2_139) (vi2_141) A258 := (show A258 = A231 from funext (fun k => hF263.2 k rfl)) ▸ sf246
                  have sf280 : PQ (Vu Vs sy1) (sy2_139) (pb) (fun _ => 0) A258 := (show A258 = A231 from funext (fun k => hF263.2 k rfl)) ▸ sf247
                  have sf281 : LK A258 (sy1) (lk1) := (show A258 = A231 from funext (fun k => hF263.2 k rfl)) ▸ sf248
                  have bat2_259 : (0 : Int) ≤ at2_259 ∧ at2_259 ≤ 3002 := e264 ▸ hW262.1 10
                  have ztk2_260 := tz_b tk2_260
                  have btk2_260 : (0 : Int) ≤ tk2_260 ∧ tk2_260 ≤ 5 := e265 ▸ hW262.1 11
                  have bop2_261 : (-2147483648 : Int) ≤ op2_261 ∧ op2_261 ≤ 2147483647 := e266 ▸ hW262.1 15
                  refine .inl ⟨rfl, ?_⟩
                  refine jx_go (tg := 106) rfl rfl ?_
                  have z282 := tz_f (tk2_260)
                  exact ih106_1 _ (by omega) L G257 A258 (ln2_136) (at2_259) (tk2_260) (fk2_233) (op2_261) (nd1) (sy2_139) (na2_140) (vi2_141) (A 3 (ln2_136).toNat) (A 4 (ln2_136).toNat) (pc1) (lk2_142) rfl gL_0 gL_2 hW262 hF272 (((hF263.1 9 rfl).trans ((hF235.1 9 rfl).trans (e148)))) ((e264)) ((e265)) (((hF263.1 16 rfl).trans (e237))) ((e266)) (((hF263.1 31 rfl).trans ((hF235.1 31 rfl).trans ((hF144.1 31 rfl).trans (ex_nd1))))) (((hF263.1 19 rfl).trans ((hF235.1 19 rfl).trans (e151)))) (((hF263.1 28 rfl).trans ((hF235.1 28 rfl).trans (e152)))) (((hF263.1 29 rfl).trans ((hF235.1 29 rfl).trans (e153)))) ((congrFun ((hF263.2 3 rfl).trans ((hF235.2 3 rfl).trans ((hF144.2 3 rfl).trans (hFx.2 3 rfl)))) _)) ((congrFun ((hF263.2 4 rfl).trans ((hF235.2 4 rfl).trans ((hF144.2 4 rfl).trans (hFx.2 4 rfl)))) _)) (((hF263.1 46 rfl).trans ((hF235.1 46 rfl).trans ((hF144.1 46 rfl).trans (ex_pc1))))) (((hF263.1 52 rfl).trans ((hF235.1 52 rfl).trans (e154)))) (by omega) (by omega) (by omega) (by omega) (by omega) (by omega) (by omega) (by omega) (by omega) (by omega) (by omega) (sf273) ((TL_mk (s0 := s0) (by omega) (by omega) (by omega) (VB_u hvb (by omega) (by omega)) sf279 sf280 (VL_u (t1 := sy2_139) sf276 (by omega) (by omega) (by omega)) sf277 (wK_add sf278 sf281 (by omega) (by omega) rfl) (by omega) (by omega) (by omega) (by omega) (by omega) (by omega) (by omega) (by omega) (by omega) (by omega)))
              · have _q : True := trivial
                refine jx_if_eq (pc' := 134) (tg := 106) rfl rfl rfl (by decide) (by decide) (fun h283 => ?_) (fun h283 => ?_)
                · have _q := h283
                  refine jx_ld (pc' := 107) (l' := L) (st' := [.ref 66]) rfl (jl_aloadn gL_0) ?_
                  refine jx_vr (pc' := 110) (as := []) (st := []) rfl rfl rfl rfl ⟨rfl, rfl, Nat.le_of_ble_eq_true rfl⟩ rfl rfl (c_bad (dd := d) (hd := by omega) (hW := hW234)  (fk := fk2_233) (e_fk := show G230 16 = fk2_233 from (e237))    ) (fun o V' hq => ?_)
                  obtain ⟨r284, rfl, rfl, b285, q286⟩ := hq
                  refine .inr ⟨_, rfl, ?_⟩
                  rcases q286 with ⟨rfl, a287⟩ | ⟨rfl, a288⟩
                  · have _q : True := trivial
                    refine jx_if_ne (pc' := 113) (tg := 141) rfl rfl rfl (by decide) (by decide) (fun h289 => ?_) (fun h289 => ?_)
                    · have _q := h289
                      refine jx_ld (pc' := 142) (l' := L) (st' := [.int (i32 (1))]) rfl (jl_iloadn gL_2) ?_
                      refine jx_if_eq (pc' := 145) (tg := 184) rfl rfl rfl (by decide) (by decide) (fun h290 => ?_) (fun h290 => ?_)
                      · have _q := h290
                        exact absurd h290 (by omega)
                      · have _q := h290
                        refine jx_ld (pc' := 146) (l' := L) (st' := [.ref 66]) rfl (jl_aloadn gL_0) ?_
                        refine jx_vr (pc' := 149) (as := []) (st := []) rfl rfl rfl rfl ⟨rfl, rfl, Nat.le_of_ble_eq_true rfl⟩ rfl rfl (c_bad (dd := d) (hd := by omega) (hW := hW234)  (fk := fk2_233) (e_fk := show G230 16 = fk2_233 from (e237))    ) (fun o V' hq => ?_)
                        obtain ⟨r291, rfl, rfl, b292, q293⟩ := hq
                        refine .inr ⟨_, rfl, ?_⟩
                        rcases q293 with ⟨rfl, a294⟩ | ⟨rfl, a295⟩
                        · have _q : True := trivial
                          refine jx_if_ne (pc' := 152) (tg := 170) rfl rfl rfl (by decide) (by decide) (fun h296 => ?_) (fun h296 => ?_)
                          · have _q := h296
                            refine jx_ld (pc' := 171) (l' := L) (st' := [.ref 66]) rfl (jl_aloadn gL_0) ?_
                            refine jx_vr (pc' := 174) (as := []) (st := []) rfl rfl rfl rfl ⟨rfl, rfl, Nat.le_of_ble_eq_true rfl⟩ rfl rfl (c_bad (dd := d) (hd := by omega) (hW := hW234)  (fk := fk2_233) (e_fk := show G230 16 = fk2_233 from (e237))    ) (fun o V' hq => ?_)
                            obtain ⟨r297, rfl, rfl, b298, q299⟩ := hq
                            refine .inr ⟨_, rfl, ?_⟩
                            rcases q299 with ⟨rfl, a300⟩ | ⟨rfl, a301⟩
                            · have _q : True := trivial
                              refine jx_if_ne (pc' := 177) (tg := 195) rfl rfl rfl (by decide) (by decide) (fun h302 => ?_) (fun h302 => ?_)
                              · have _q := h302
                                refine jx_ld (pc' := 196) (l' := L) (st' := [.ref 66]) rfl (jl_aloadn gL_0) ?_
                                refine jx_vr (pc' := 199) (as := []) (st := []) rfl rfl rfl rfl ⟨rfl, rfl, Nat.le_of_ble_eq_true rfl⟩ rfl rfl (c_bad (dd := d) (hd := by omega) (hW := hW234)  (fk := fk2_233) (e_fk := show G230 16 = fk2_233 from (e237))    ) (fun o V' hq => ?_)
                                obtain ⟨r303, rfl, rfl, b304, q305⟩ := hq
                                refine .inr ⟨_, rfl, ?_⟩
                                rcases q305 with ⟨rfl, a306⟩ | ⟨rfl, a307⟩
                                · have _q : True := trivial
                                  refine jx_if_ne (pc' := 202) (tg := 237) rfl rfl rfl (by decide) (by decide) (fun h308 => ?_) (fun h308 => ?_)
                                  · have _q := h308
                                    refine jx_rt (v := none) rfl rfl rfl rfl rfl rfl ?_
                                    exact ⟨_, _, ln2_136, fk2_233, nd1, sy2_139, na2_140, vi2_141, pc1, lk2_142, rfl, rfl, hW234, hF239, ((hF235.1 9 rfl).trans (e148)), (e237), ((hF235.1 31 rfl).trans ((hF144.1 31 rfl).trans (ex_nd1))), ((hF235.1 19 rfl).trans (e151)), ((hF235.1 28 rfl).trans (e152)), ((hF235.1 29 rfl).trans (e153)), ((hF235.1 46 rfl).trans ((hF144.1 46 rfl).trans (ex_pc1))), ((hF235.1 52 rfl).trans (e154)), by first | exact Or.inl (by omega)⟩
                                  · have _q := h308
                                    exact absurd h308 (by omega)
                                · have _q : True := trivial
                                  exfalso
                                  omega
                              · have _q := h302
                                exact absurd h302 (by omega)
                            · have _q : True := trivial
                              exfalso
                              omega
                          · have _q := h296
                            exact absurd h296 (by omega)
                        · have _q : True := trivial
                          exfalso
                          omega
                    · have _q := h289
                      exact absurd h289 (by omega)
                  · have _q : True := trivial
                    exfalso
                    omega
                · have _q := h283
                  exact absurd h283 (by omega)
        · have _q : True := trivial
          refine jx_if_eq (pc' := 122) (tg := 141) rfl rfl rfl (by decide) (by decide) (fun h309 => ?_) (fun h309 => ?_)
          · have _q := h309
            have z310 := tz_f (tk1)
            exact c_readProgram_at_141_1 (X := X) (d := d) (c0 := c0) (c1 := c1) (G := G) (A := A) (T := T) (ln := ln) (li := li) (fk := fk) (nd := nd) (sy := sy) (na := na) (vi := vi) (lf := lf) (pc := pc) (lk := lk) (hd := hd) (hW := hW) (e_ln := e_ln) (e_li := e_li) (e_fk := e_fk) (e_nd := e_nd) (e_sy := e_sy) (e_na := e_na) (e_vi := e_vi) (e_lf := e_lf) (e_pc := e_pc) (e_lk := e_lk) (i_LT := i_LT) (p_0 := p_0) (p_1 := p_1) (p_2 := p_2) (p_3 := p_3) (p_4 := p_4) (p_5 := p_5) (p_6 := p_6) (p_7 := p_7) (p_8 := p_8) L Gx Ax (ln1) (at1) (tk1) (fk1) (op1) (nd1) (sy1) (na1) (vi1) (lf1) (le1) (pc1) (lk1) gL_0 gL_2 hWx hFx ((ex_ln1)) ((ex_at1)) ((ex_tk1)) ((ex_fk1)) ((ex_op1)) ((ex_nd1)) ((ex_sy1)) ((ex_na1)) ((ex_vi1)) ((ex_lf1)) ((ex_le1)) ((ex_pc1)) ((ex_lk1)) (by omega) (by omega) (by omega) (by omega) (by omega) (by omega) (by omega) (by omega) (by omega) (by omega) (by omega) (iv_11) ((TL_mk (s0 := s0) (by omega) (by omega) (by omega) (VB_eq hvb (by omega)) hSW0 hPW0 hVL0 hwQ0 hwK0 (by omega) (by omega) (by omega) (by omega) (by omega) (by omega) (by omega) (by omega) (by omega) (by omega)))
          · have _q := h309
            exact absurd h309 (by omega)
set_option maxRecDepth 20000 in
set_option maxHeartbeats 4000000 in
theorem c_readProgram_at_74 {X : jX} {d : Nat} {c0 c1 : jC} {G : Nat → Int} {A : Nat → Nat → Int} {T : jH} {ln li fk nd sy na vi lf pc lk : Int} (hd : 8 * 18 + 82 ≤ d + 1) (hW : Wk G A) (e_ln : G 9 = ln) (e_li : G 3 = li) (e_fk : G 16 = fk) (e_nd : G 31 = nd) (e_sy : G 19 = sy) (e_na : G 28 = na) (e_vi : G 29 = vi) (e_lf : A 3 (ln).toNat = lf) (e_pc : G 46 = pc) (e_lk : G 52 = lk) (i_LT : LT G A) (p_0 : fk = 0) (p_1 : ln = 0) (p_2 : nd = 1) (p_3 : sy = 0) (p_4 : na = 0) (p_5 : vi = 0) (p_6 : pc = 0) (p_7 : lk = 0) (p_8 : PZ A) : ∀ (L : jL) (Gx : Nat → Int) (Ax : Nat → Nat → Int) (ln1 at1 tk1 fk1 op1 nd1 sy1 na1 vi1 lf1 le1 pc1 : Int), jGet L 0 = some (.ref 66) → Wk Gx Ax → Fr [9, 10, 11, 12, 13, 14, 15, 16, 17, 18, 19, 28, 29, 31, 46, 52] [6, 7, 8, 9, 10, 11, 12, 14, 15, 16, 17, 18, 19, 20, 21, 22, 23, 24, 28, 29, 30, 31, 34, 35, 36] G A Gx Ax → Gx 9 = ln1 → Gx 10 = at1 → Gx 11 = tk1 → Gx 16 = fk1 → Gx 15 = op1 → Gx 31 = nd1 → Gx 19 = sy1 → Gx 28 = na1 → Gx 29 = vi1 → Ax 3 (ln1).toNat = lf1 → Ax 4 (ln1).toNat = le1 → Gx 46 = pc1 → Gx 52 = lk → (fk1 = 0) → (0 ≤ lf1) → (ln1 < li) → (lf1 < le1) → (2 * lf1 ≤ 2 * at1 - tz tk1) → (lf1 ≤ at1) → (at1 ≤ le1) → (nd1 ≤ 2 * lf1 + 2) → (op1 = 0) → (sy1 ≤ na1 + 2) → (vi1 ≤ sy1) → (PZ Ax) → (TP Ax (pc1) (nd1) (sy1) (vi1)) → wj X d jm312 (74, L, [], rV c0 c1 Gx Ax T) (fun o V' => ∃ (G' : Nat → Int) (A' : Nat → Nat → Int) (ln2 : Int) (fk2 : Int) (nd2 : Int) (sy2 : Int) (na2 : Int) (vi2 : Int) (pc2 : Int) (lk2 : Int), V' = rV c0 c1 G' A' T ∧ o = .inl none ∧ Wk G' A' ∧ Fr [9, 10, 11, 12, 13, 14, 15, 16, 17, 18, 19, 28, 29, 31, 46, 52] [6, 7, 8, 9, 10, 11, 12, 14, 15, 16, 17, 18, 19, 20, 21, 22, 23, 24, 28, 29, 30, 31, 34, 35, 36] G A G' A' ∧ G' 9 = ln2 ∧ G' 16 = fk2 ∧ G' 31 = nd2 ∧ G' 19 = sy2 ∧ G' 28 = na2 ∧ G' 29 = vi2 ∧ G' 46 = pc2 ∧ G' 52 = lk2 ∧ (((1 ≤ fk2)) ∨ ((fk2 = 0) ∧ (TT A' (pc2) (nd2) (sy2) (lk2))))) := by
  have hF0 : Fr [9, 10, 11, 12, 13, 14, 15, 16, 17, 18, 19, 28, 29, 31, 46, 52] [6, 7, 8, 9, 10, 11, 12, 14, 15, 16, 17, 18, 19, 20, 21, 22, 23, 24, 28, 29, 30, 31, 34, 35, 36] G A G A := Fr_rf
  have b_ln : (0 : Int) ≤ ln ∧ ln ≤ 3000 := e_ln ▸ hW.1 9
  have b_li : (0 : Int) ≤ li ∧ li ≤ 3000 := e_li ▸ hW.1 3
  have b_fk : (0 : Int) ≤ fk ∧ fk ≤ 6 := e_fk ▸ hW.1 16
  have b_nd : (0 : Int) ≤ nd ∧ nd ≤ 6999 := e_nd ▸ hW.1 31
  have b_sy : (0 : Int) ≤ sy ∧ sy ≤ 202 := e_sy ▸ hW.1 19
  have b_na : (0 : Int) ≤ na ∧ na ≤ 200 := e_na ▸ hW.1 28
  have b_vi : (0 : Int) ≤ vi ∧ vi ≤ 202 := e_vi ▸ hW.1 29
  have b_lf : (0 : Int) ≤ lf ∧ lf ≤ 3000 := e_lf ▸ hW.2 3 _
  have b_pc : (0 : Int) ≤ pc ∧ pc ≤ 24 := e_pc ▸ hW.1 46
  have b_lk : (0 : Int) ≤ lk ∧ lk ≤ 12 := e_lk ▸ hW.1 52
  intro L Gx Ax ln1 at1 tk1 fk1 op1 nd1 sy1 na1 vi1 lf1 le1 pc1 gL_0 hWx hFx ex_ln1 ex_at1 ex_tk1 ex_fk1 ex_op1 ex_nd1 ex_sy1 ex_na1 ex_vi1 ex_lf1 ex_le1 ex_pc1 fx_52 iv_0 iv_1 iv_2 iv_3 iv_4 iv_5 iv_6 iv_7 iv_8 iv_9 iv_10 iv_11 iv_12
  have b_ln1 : (0 : Int) ≤ ln1 ∧ ln1 ≤ 3000 := ex_ln1 ▸ hWx.1 9
  have b_at1 : (0 : Int) ≤ at1 ∧ at1 ≤ 3002 := ex_at1 ▸ hWx.1 10
  have z_tk1 := tz_f tk1
  have b_tk1 : (0 : Int) ≤ tk1 ∧ tk1 ≤ 5 := ex_tk1 ▸ hWx.1 11
  have b_fk1 : (0 : Int) ≤ fk1 ∧ fk1 ≤ 6 := ex_fk1 ▸ hWx.1 16
  have b_op1 : (-2147483648 : Int) ≤ op1 ∧ op1 ≤ 2147483647 := ex_op1 ▸ hWx.1 15
  have b_nd1 : (0 : Int) ≤ nd1 ∧ nd1 ≤ 6999 := ex_nd1 ▸ hWx.1 31
  have b_sy1 : (0 : Int) ≤ sy1 ∧ sy1 ≤ 202 := ex_sy1 ▸ hWx.1 19
  have b_na1 : (0 : Int) ≤ na1 ∧ na1 ≤ 200 := ex_na1 ▸ hWx.1 28
  have b_vi1 : (0 : Int) ≤ vi1 ∧ vi1 ≤ 202 := ex_vi1 ▸ hWx.1 29
  have b_pc1 : (0 : Int) ≤ pc1 ∧ pc1 ≤ 24 := ex_pc1 ▸ hWx.1 46
  obtain ⟨Vs, hvb, hSW0, hPW0, hVT0, hwQ0⟩ := iv_12; obtain ⟨sb, hsb⟩ : ∃ z : Int, z = sy1 := ⟨_, rfl⟩; obtain ⟨pb, hpb⟩ : ∃ z : Int, z = pc1 := ⟨_, rfl⟩; rw [← hsb] at hvb hSW0 hPW0 hVT0 hwQ0; rw [← hpb] at hPW0; have hle0 := wQ_le hwQ0
  refine jx_ld (pc' := 75) (l' := L) (st' := [.ref 66]) rfl (jl_aloadn gL_0) ?_
  refine jx_vr (pc' := 78) (as := []) (st := []) rfl rfl rfl rfl ⟨rfl, rfl, Nat.le_of_ble_eq_true rfl⟩ rfl rfl (c_bad (dd := d) (hd := by omega) (hW := hWx)  (fk := fk1) (e_fk := show Gx 16 = fk1 from (ex_fk1))    ) (fun o V' hq => ?_)
  obtain ⟨r311, rfl, rfl, b312, q313⟩ := hq
  refine .inr ⟨_, rfl, ?_⟩
  rcases q313 with ⟨rfl, a314⟩ | ⟨rfl, a315⟩
  · have _q : True := trivial
    exfalso
    omega
  · have _q : True := trivial
    refine jx_if_eq (pc' := 81) (tg := 82) rfl rfl rfl (by decide) (by decide) (fun h316 => ?_) (fun h316 => ?_)
    · have _q := h316
      refine jx_ld (pc' := 83) (l' := L) (st' := [.ref 66]) rfl (jl_aloadn gL_0) ?_
      refine jx_ar (pc' := 85) (st' := [.int (i32 (21)), .ref 66]) rfl rfl rfl rfl ?_
      have b317 : (-2147483648 : Int) ≤ Gx 13 ∧ Gx 13 ≤ 2147483647 := hWx.1 13
      refine jx_vr (pc' := 88) (as := [.int (i32 (21))]) (st := []) rfl rfl rfl rfl ⟨rfl, rfl, Nat.le_of_ble_eq_true rfl⟩ rfl rfl (c_isKey2 (dd := d) (hd := by omega) (hW := hWx) (k := 21) (tk := tk1) (e_tk := show Gx 11 = tk1 from (ex_tk1)) (tn := Gx 13) (e_tn := show Gx 13 = Gx 13 from rfl)  (h_k := ⟨(by decide), (by decide)⟩)  ) (fun o V' hq => ?_)
      obtain ⟨r318, rfl, rfl, b319, q320⟩ := hq
      refine .inr ⟨_, rfl, ?_⟩
      rcases q320 with ⟨rfl, a321, a322, a323⟩ | ⟨rfl, a324⟩
      · have _q : True := trivial
        refine jx_if_ne (pc' := 91) (tg := 100) rfl rfl rfl (by decide) (by decide) (fun h325 => ?_) (fun h325 => ?_)
        · have _q := h325
          refine jx_ar (pc' := 101) (st' := [.int (i32 (1))]) rfl rfl rfl rfl ?_
          refine jx_go (tg := 105) rfl rfl ?_
          refine jx_ld (pc' := 106) (l' := jSto1 L 2 (.int (i32 (1)))) (st' := []) rfl rfl ?_
          obtain ⟨L326, eL326⟩ : ∃ q, q = jSto1 L 2 (.int (i32 (1))) := ⟨_, rfl⟩
          rw [← eL326]
          have gL326_0 : jGet L326 0 = some (.ref 66) := eL326 ▸ jg_ne (by decide) gL_0 rfl
          have gL326_2 : jGet L326 2 = some (.int (i32 (1))) := eL326 ▸ jg_eq
          have z327 := tz_f (tk1)
          exact c_readProgram_at_106_1 (X := X) (d := d) (c0 := c0) (c1 := c1) (G := G) (A := A) (T := T) (ln := ln) (li := li) (fk := fk) (nd := nd) (sy := sy) (na := na) (vi := vi) (lf := lf) (pc := pc) (lk := lk) (hd := hd) (hW := hW) (e_ln := e_ln) (e_li := e_li) (e_fk := e_fk) (e_nd := e_nd) (e_sy := e_sy) (e_na := e_na) (e_vi := e_vi) (e_lf := e_lf) (e_pc := e_pc) (e_lk := e_lk) (i_LT := i_LT) (p_0 := p_0) (p_1 := p_1) (p_2 := p_2) (p_3 := p_3) (p_4 := p_4) (p_5 := p_5) (p_6 := p_6) (p_7 := p_7) (p_8 := p_8) _ L326 Gx Ax (ln1) (at1) (tk1) (fk1) (op1) (nd1) (sy1) (na1) (vi1) (lf1) (le1) (pc1) (lk) rfl gL326_0 gL326_2 hWx hFx ((ex_ln1)) ((ex_at1)) ((ex_tk1)) ((ex_fk1)) ((ex_op1)) ((ex_nd1)) ((ex_sy1)) ((ex_na1)) ((ex_vi1)) ((ex_lf1)) ((ex_le1)) ((ex_pc1)) ((fx_52)) (by omega) (by omega) (by omega) (by omega) (by omega) (by omega) (by omega) (by omega) (by omega) (by omega) (by omega) (iv_11) ((TL_tp (TP_mk (VB_eq hvb (by omega)) hSW0 hPW0 hVT0 hwQ0 (by omega) (by omega) (by omega) (by omega) (by omega) (by omega) (by omega) (by omega)) (by omega)))
        · have _q := h325
          exact absurd h325 (by omega)
      · have _q : True := trivial
        refine jx_if_ne (pc' := 91) (tg := 100) rfl rfl rfl (by decide) (by decide) (fun h328 => ?_) (fun h328 => ?_)
        · have _q := h328
          exact absurd h328 (by omega)
        · have _q := h328
          refine jx_ld (pc' := 92) (l' := L) (st' := [.ref 66]) rfl (jl_aloadn gL_0) ?_
          refine jx_ar (pc' := 94) (st' := [.int (i32 (19)), .ref 66]) rfl rfl rfl rfl ?_
          refine jx_vr (pc' := 97) (as := [.int (i32 (19))]) (st := []) rfl rfl rfl rfl ⟨rfl, rfl, Nat.le_of_ble_eq_true rfl⟩ rfl rfl (c_isKey2 (dd := d) (hd := by omega) (hW := hWx) (k := 19) (tk := tk1) (e_tk := show Gx 11 = tk1 from (ex_tk1)) (tn := Gx 13) (e_tn := show Gx 13 = Gx 13 from rfl)  (h_k := ⟨(by decide), (by decide)⟩)  ) (fun o V' hq => ?_)
          obtain ⟨r329, rfl, rfl, b330, q331⟩ := hq
          refine .inr ⟨_, rfl, ?_⟩
          rcases q331 with ⟨rfl, a332, a333, a334⟩ | ⟨rfl, a335⟩
          · have _q : True := trivial
            refine jx_if_eq (pc' := 100) (tg := 104) rfl rfl rfl (by decide) (by decide) (fun h336 => ?_) (fun h336 => ?_)
            · have _q := h336
              exact absurd h336 (by omega)
            · have _q := h336
              refine jx_ar (pc' := 101) (st' := [.int (i32 (1))]) rfl rfl rfl rfl ?_
              refine jx_go (tg := 105) rfl rfl ?_
              refine jx_ld (pc' := 106) (l' := jSto1 L 2 (.int (i32 (1)))) (st' := []) rfl rfl ?_
              obtain ⟨L337, eL337⟩ : ∃ q, q = jSto1 L 2 (.int (i32 (1))) := ⟨_, rfl⟩
              rw [← eL337]
              have gL337_0 : jGet L337 0 = some (.ref 66) := eL337 ▸ jg_ne (by decide) gL_0 rfl
              have gL337_2 : jGet L337 2 = some (.int (i32 (1))) := eL337 ▸ jg_eq
              have z338 := tz_f (tk1)
              exact c_readProgram_at_106_1 (X := X) (d := d) (c0 := c0) (c1 := c1) (G := G) (A := A) (T := T) (ln := ln) (li := li) (fk := fk) (nd := nd) (sy := sy) (na := na) (vi := vi) (lf := lf) (pc := pc) (lk := lk) (hd := hd) (hW := hW) (e_ln := e_ln) (e_li := e_li) (e_fk := e_fk) (e_nd := e_nd) (e_sy := e_sy) (e_na := e_na) (e_vi := e_vi) (e_lf := e_lf) (e_pc := e_pc) (e_lk := e_lk) (i_LT := i_LT) (p_0 := p_0) (p_1 := p_1) (p_2 := p_2) (p_3 := p_3) (p_4 := p_4) (p_5 := p_5) (p_6 := p_6) (p_7 := p_7) (p_8 := p_8) _ L337 Gx Ax (ln1) (at1) (tk1) (fk1) (op1) (nd1) (sy1) (na1) (vi1) (lf1) (le1) (pc1) (lk) rfl gL337_0 gL337_2 hWx hFx ((ex_ln1)) ((ex_at1)) ((ex_tk1)) ((ex_fk1)) ((ex_op1)) ((ex_nd1)) ((ex_sy1)) ((ex_na1)) ((ex_vi1)) ((ex_lf1)) ((ex_le1)) ((ex_pc1)) ((fx_52)) (by omega) (by omega) (by omega) (by omega) (by omega) (by omega) (by omega) (by omega) (by omega) (by omega) (by omega) (iv_11) ((TL_tp (TP_mk (VB_eq hvb (by omega)) hSW0 hPW0 hVT0 hwQ0 (by omega) (by omega) (by omega) (by omega) (by omega) (by omega) (by omega) (by omega)) (by omega)))
          · have _q : True := trivial
            refine jx_if_eq (pc' := 100) (tg := 104) rfl rfl rfl (by decide) (by decide) (fun h339 => ?_) (fun h339 => ?_)
            · have _q := h339
              refine jx_ar (pc' := 105) (st' := [.int (i32 (0))]) rfl rfl rfl rfl ?_
              refine jx_ld (pc' := 106) (l' := jSto1 L 2 (.int (i32 (0)))) (st' := []) rfl rfl ?_
              obtain ⟨L340, eL340⟩ : ∃ q, q = jSto1 L 2 (.int (i32 (0))) := ⟨_, rfl⟩
              rw [← eL340]
              have gL340_0 : jGet L340 0 = some (.ref 66) := eL340 ▸ jg_ne (by decide) gL_0 rfl
              have gL340_2 : jGet L340 2 = some (.int (i32 (0))) := eL340 ▸ jg_eq
              refine jx_ld (pc' := 107) (l' := L340) (st' := [.ref 66]) rfl (jl_aloadn gL340_0) ?_
              refine jx_vr (pc' := 110) (as := []) (st := []) rfl rfl rfl rfl ⟨rfl, rfl, Nat.le_of_ble_eq_true rfl⟩ rfl rfl (c_bad (dd := d) (hd := by omega) (hW := hWx)  (fk := fk1) (e_fk := show Gx 16 = fk1 from (ex_fk1))    ) (fun o V' hq => ?_)
              obtain ⟨r341, rfl, rfl, b342, q343⟩ := hq
              refine .inr ⟨_, rfl, ?_⟩
              rcases q343 with ⟨rfl, a344⟩ | ⟨rfl, a345⟩
              · have _q : True := trivial
                exfalso
                omega
              · have _q : True := trivial
                refine jx_if_ne (pc' := 113) (tg := 141) rfl rfl rfl (by decide) (by decide) (fun h346 => ?_) (fun h346 => ?_)
                · have _q := h346
                  exact absurd h346 (by omega)
                · have _q := h346
                  refine jx_ld (pc' := 114) (l' := L340) (st' := [.ref 66]) rfl (jl_aloadn gL340_0) ?_
                  refine jx_ar (pc' := 116) (st' := [.int (i32 (21)), .ref 66]) rfl rfl rfl rfl ?_
                  refine jx_vr (pc' := 119) (as := [.int (i32 (21))]) (st := []) rfl rfl rfl rfl ⟨rfl, rfl, Nat.le_of_ble_eq_true rfl⟩ rfl rfl (c_isKey2 (dd := d) (hd := by omega) (hW := hWx) (k := 21) (tk := tk1) (e_tk := show Gx 11 = tk1 from (ex_tk1)) (tn := Gx 13) (e_tn := show Gx 13 = Gx 13 from rfl)  (h_k := ⟨(by decide), (by decide)⟩)  ) (fun o V' hq => ?_)
                  obtain ⟨r347, rfl, rfl, b348, q349⟩ := hq
                  refine .inr ⟨_, rfl, ?_⟩
                  rcases q349 with ⟨rfl, a350, a351, a352⟩ | ⟨rfl, a353⟩
                  · have _q : True := trivial
                    refine jx_if_eq (pc' := 122) (tg := 141) rfl rfl rfl (by decide) (by decide) (fun h354 => ?_) (fun h354 => ?_)
                    · have _q := h354
                      exact absurd h354 (by omega)
                    · have _q := h354
                      exfalso
                      omega
                  · have _q : True := trivial
                    refine jx_if_eq (pc' := 122) (tg := 141) rfl rfl rfl (by decide) (by decide) (fun h355 => ?_) (fun h355 => ?_)
                    · have _q := h355
                      refine jx_ld (pc' := 142) (l' := L340) (st' := [.int (i32 (0))]) rfl (jl_iloadn gL340_2) ?_
                      refine jx_if_eq (pc' := 145) (tg := 184) rfl rfl rfl (by decide) (by decide) (fun h356 => ?_) (fun h356 => ?_)
                      · have _q := h356
                        refine jx_ld (pc' := 185) (l' := L340) (st' := [.ref 66]) rfl (jl_aloadn gL340_0) ?_
                        refine jr_get (pc' := 188) (i := 55) (v := .ref 103) rfl rfl (by decide) rfl rfl ?_
                        refine jx_ar (pc' := 189) (st' := [.int (i32 (0)), .ref 103]) rfl rfl rfl rfl ?_
                        refine jx_ld (pc' := 190) (l' := L340) (st' := [.ref 66, .int (i32 (0)), .ref 103]) rfl (jl_aloadn gL340_0) ?_
                        refine jx_ar (pc' := 191) (st' := [.int (i32 (0)), .ref 66, .int (i32 (0)), .ref 103]) rfl rfl rfl rfl ?_
                        refine jx_vr (pc' := 194) (as := [.int (i32 (0))]) (st := [.int (i32 (0)), .ref 103]) rfl rfl rfl rfl ⟨rfl, rfl, Nat.le_of_ble_eq_true rfl⟩ rfl rfl (RP_all X 18 (dd := d) (hd := by omega) (hW := hWx) (lv := 0) (at0 := (lf1 - 1)) (ln := ln1) (e_ln := show Gx 9 = ln1 from (ex_ln1)) (li := li) (e_li := show Gx 3 = li from ((hFx.1 3 rfl).trans (e_li))) (fk := fk1) (e_fk := show Gx 16 = fk1 from (ex_fk1)) (nd := nd1) (e_nd := show Gx 31 = nd1 from (ex_nd1)) (sy := sy1) (e_sy := show Gx 19 = sy1 from (ex_sy1)) (na := na1) (e_na := show Gx 28 = na1 from (ex_na1)) (vi := vi1) (e_vi := show Gx 29 = vi1 from (ex_vi1)) (lf := lf1) (e_lf := show Ax 3 (ln1).toNat = lf1 from (ex_lf1)) (ac := at1) (e_ac := show Gx 10 = at1 from (ex_at1)) (i_LT := (LT_ext ((hFx.1 3 rfl)) ((hFx.2 3 rfl)) ((hFx.2 4 rfl)) i_LT)) (i_SV := (SW_sv hSW0 ((show Gx 29 = vi1 from (ex_vi1)).trans (by omega)))) (i_PQ := hPW0) (hvb := hvb) (h_lv := ⟨(by decide), (by decide)⟩)  (p_0 := by omega) (p_1 := by omega) (p_2 := by omega) (p_3 := by omega) (p_4 := by omega) (p_5 := by omega) (p_6 := by omega) (p_7 := by omega) (p_8 := by omega) (p_9 := by omega) (p_10 := by omega)) (fun o V' hq => ?_)
                        obtain ⟨G357, A358, r359, ln2_360, at2_361, fk2_362, nd2_363, sy2_364, na2_365, vi2_366, lf2_367, rfl, rfl, hW368, hF369, hQ370, hQ371, hQ372, b373, e374, e375, e376, e377, e378, e379, e380, e381, p382, p383, p384, p385, p386, p387, p388, p389, p390, q391⟩ := hq
                        have hF392 := Fr_tr hFx hF369 (Fr_sub (by decide)) (Fr_sub (by decide))
                        have sf393 : PZ A358 := PZ_ext (hF369.2 36 rfl) iv_11
                        have sf394 : SW (Vs) (sb) (vi1) A358 := SW_fx hQ372 (by omega) hSW0
                        have sf395 : PQ (Vs) (sb) (pb) (fun _ => 0) A358 := PQ_fxq hPW0 hQ371 (by omega) (Fx_f (w := pb) Fx_rf hF369 (by decide)) (by omega)
                        have sf396 : VT (Vs) A358 (sb) := VT_fx hQ371 (by omega) hVT0
                        have sf397 : wQ A358 (pc1).toNat (nd1) (sb) := wQ_fx (fun k j hk hj => hQ370 k j hk (by omega)) (Fx_su hQ371 (by omega)) (Fx_su (Fx_f (w := pc1) Fx_rf hF369 (by decide)) (by omega)) hwQ0
                        have bln2_360 : (0 : Int) ≤ ln2_360 ∧ ln2_360 ≤ 3000 := e374 ▸ hW368.1 9
                        have bat2_361 : (0 : Int) ≤ at2_361 ∧ at2_361 ≤ 3002 := e375 ▸ hW368.1 10
                        have bfk2_362 : (0 : Int) ≤ fk2_362 ∧ fk2_362 ≤ 6 := e376 ▸ hW368.1 16
                        have bnd2_363 : (0 : Int) ≤ nd2_363 ∧ nd2_363 ≤ 6999 := e377 ▸ hW368.1 31
                        have bsy2_364 : (0 : Int) ≤ sy2_364 ∧ sy2_364 ≤ 202 := e378 ▸ hW368.1 19
                        have bna2_365 : (0 : Int) ≤ na2_365 ∧ na2_365 ≤ 200 := e379 ▸ hW368.1 28
                        have bvi2_366 : (0 : Int) ≤ vi2_366 ∧ vi2_366 ≤ 202 := e380 ▸ hW368.1 29
                        have blf2_367 : (0 : Int) ≤ lf2_367 ∧ lf2_367 ≤ 3000 := e381 ▸ hW368.2 3 _
                        refine .inr ⟨_, rfl, ?_⟩
                        rcases q391 with ⟨a398, a399⟩ | ⟨a400, a401, a402, a403, a404, a405, a406, a407⟩
                        · have _q : True := trivial
                          refine jr_st (pc' := 195) (i := 36) (m := 6) (z := (0 : Int)) (y := r359) rfl (by decide) rfl (by decide) (by omega) (by omega) rfl ?_
                          have hW409 : Wk G357 (uA A358 36 ((0 : Int)).toNat (r359)) := Wk_a hW368 (show (-2147483648 : Int) ≤ r359 by omega) (show r359 ≤ (2147483647 : Int) by omega)
                          have hF410 := Fr_a (z := r359) (k := 36) (n := ((0 : Int)).toNat) hF392 (by decide)
                          obtain ⟨A408, eA408⟩ : ∃ q, q = uA A358 36 ((0 : Int)).toNat (r359) := ⟨_, rfl⟩
                          rw [← eA408]
                          rw [← eA408] at hW409 hF410
                          have q411 : A408 36 ((0 : Int)).toNat = r359 := by rw [eA408]; exact uA_eq
                          have sf412 : SW (Vs) (sb) (vi1) A408 := SW_ext ((congrFun eA408 14).trans (uA_ne (by decide))) sf394
                          have sf413 : PQ (Vs) (sb) (pb) (fun _ => 0) A408 := PQ_fxq sf395 (Sg_ne (sb := sb) eA408 rfl) (by omega) (show Fx [29, 30, 31] (pb) A358 A408 from eA408 ▸ Fx_n Fx_rf rfl) (by omega)
                          have sf414 : VT (Vs) A408 (sb) := VT_fx (Sg_ne (sb := sb) eA408 rfl) (by omega) sf396
                          have sf415 : wQ A408 (pc1).toNat (nd1) (sb) := wQ_fx (show Pf _ _ _ from eA408 ▸ Pf_n Pf_rf rfl) (Fx_su (Sg_ne (sb := sb) eA408 rfl) (by omega)) (Fx_su (show Fx [29, 30, 31] (pc1) A358 A408 from eA408 ▸ Fx_n Fx_rf rfl) (by omega)) sf397
                          refine jx_ld (pc' := 196) (l' := L340) (st' := [.ref 66]) rfl (jl_aloadn gL340_0) ?_
                          refine jx_vr (pc' := 199) (as := []) (st := []) rfl rfl rfl rfl ⟨rfl, rfl, Nat.le_of_ble_eq_true rfl⟩ rfl rfl (c_bad (dd := d) (hd := by omega) (hW := hW409)  (fk := fk2_362) (e_fk := show G357 16 = fk2_362 from (e376))    ) (fun o V' hq => ?_)
                          obtain ⟨r416, rfl, rfl, b417, q418⟩ := hq
                          refine .inr ⟨_, rfl, ?_⟩
                          rcases q418 with ⟨rfl, a419⟩ | ⟨rfl, a420⟩
                          · have _q : True := trivial
                            refine jx_if_ne (pc' := 202) (tg := 237) rfl rfl rfl (by decide) (by decide) (fun h421 => ?_) (fun h421 => ?_)
                            · have _q := h421
                              refine jx_rt (v := none) rfl rfl rfl rfl rfl rfl ?_
                              exact ⟨_, _, ln2_360, fk2_362, nd2_363, sy2_364, na2_365, vi2_366, pc1, lk, rfl, rfl, hW409, hF410, (e374), (e376), (e377), (e378), (e379), (e380), ((hF369.1 46 rfl).trans (ex_pc1)), ((hF369.1 52 rfl).trans (fx_52)), by first | exact Or.inl (by omega)⟩
                            · have _q := h421
                              exact absurd h421 (by omega)
                          · have _q : True := trivial
                            exfalso
                            omega
                        · have _q : True := trivial
                          refine jr_st (pc' := 195) (i := 36) (m := 6) (z := (0 : Int)) (y := r359) rfl (by decide) rfl (by decide) (by omega) (by omega) rfl ?_
                          have hW423 : Wk G357 (uA A358 36 ((0 : Int)).toNat (r359)) := Wk_a hW368 (show (-2147483648 : Int) ≤ r359 by omega) (show r359 ≤ (2147483647 : Int) by omega)
                          have hF424 := Fr_a (z := r359) (k := 36) (n := ((0 : Int)).toNat) hF392 (by decide)
                          obtain ⟨A422, eA422⟩ : ∃ q, q = uA A358 36 ((0 : Int)).toNat (r359) := ⟨_, rfl⟩
                          rw [← eA422]
                          rw [← eA422] at hW423 hF424
                          have q425 : A422 36 ((0 : Int)).toNat = r359 := by rw [eA422]; exact uA_eq
                          have sf426 : wB A422 Vs pb (nd1) (nd2_363) (sy1) (sy2_364) := wB_one eA422 sf393 (by omega) (by omega) a406 rfl (by omega) (by omega) (by omega) (by omega)
                          have sf427 : SW (Vs) (sb) (vi1) A422 := SW_ext ((congrFun eA422 14).trans (uA_ne (by decide))) sf394
                          have sf428 : PQ (Vs) (sb) (pb) (fun _ => 0) A422 := PQ_fxq sf395 (Sg_ne (sb := sb) eA422 rfl) (by omega) (show Fx [29, 30, 31] (pb) A358 A422 from eA422 ▸ Fx_n Fx_rf rfl) (by omega)
                          have sf429 : VT (Vs) A422 (sb) := VT_fx (Sg_ne (sb := sb) eA422 rfl) (by omega) sf396
                          have sf430 : wQ A422 (pc1).toNat (nd1) (sb) := wQ_fx (show Pf _ _ _ from eA422 ▸ Pf_n Pf_rf rfl) (Fx_su (Sg_ne (sb := sb) eA422 rfl) (by omega)) (Fx_su (show Fx [29, 30, 31] (pc1) A358 A422 from eA422 ▸ Fx_n Fx_rf rfl) (by omega)) sf397
                          have sf431 : wP A422 (sy2_364) pb (18) (Vs) (r359) (nd1) (nd2_363) (sy1) (sy2_364) := wP_ag (Sg_ne eA422 rfl) (Qg_ne eA422 rfl) (by omega) (by omega) (Ax_ag (Ag_ne eA422 rfl)) a406
                          have sf432 : NX A422 (r359) := NX_r eA422 (by decide) a407
                          refine jx_ld (pc' := 196) (l' := L340) (st' := [.ref 66]) rfl (jl_aloadn gL340_0) ?_
                          refine jx_vr (pc' := 199) (as := []) (st := []) rfl rfl rfl rfl ⟨rfl, rfl, Nat.le_of_ble_eq_true rfl⟩ rfl rfl (c_bad (dd := d) (hd := by omega) (hW := hW423)  (fk := fk2_362) (e_fk := show G357 16 = fk2_362 from (e376))    ) (fun o V' hq => ?_)
                          obtain ⟨r433, rfl, rfl, b434, q435⟩ := hq
                          refine .inr ⟨_, rfl, ?_⟩
                          rcases q435 with ⟨rfl, a436⟩ | ⟨rfl, a437⟩
                          · have _q : True := trivial
                            exfalso
                            omega
                          · have _q : True := trivial
                            refine jx_if_ne (pc' := 202) (tg := 237) rfl rfl rfl (by decide) (by decide) (fun h438 => ?_) (fun h438 => ?_)
                            · have _q := h438
                              exact absurd h438 (by omega)
                            · have _q := h438
                              refine jx_ld (pc' := 203) (l' := L340) (st' := [.ref 66]) rfl (jl_aloadn gL340_0) ?_
                              refine jr_get (pc' := 206) (i := 9) (v := .int (i32 (ln2_360))) rfl rfl (by decide) (rFv_eq (by decide) (show G357 9 = ln2_360 from (e374))) rfl ?_
                              refine jx_ld (pc' := 207) (l' := L340) (st' := [.ref 66, .int (i32 (ln2_360))]) rfl (jl_aloadn gL340_0) ?_
                              refine jr_get (pc' := 210) (i := 3) (v := .int (i32 (li))) rfl rfl (by decide) (rFv_eq (by decide) (show G357 3 = li from ((hF369.1 3 rfl).trans ((hFx.1 3 rfl).trans (e_li))))) rfl ?_
                              refine jx_icmp_ge (pc' := 213) (tg := 237) rfl rfl rfl (Int.le_trans (by decide : (-2147483648 : Int) ≤ 0) bln2_360.1) (Int.le_trans bln2_360.2 (by decide : (3000 : Int) ≤ 2147483647)) (Int.le_trans (by decide : (-2147483648 : Int) ≤ 0) b_li.1) (Int.le_trans b_li.2 (by decide : (3000 : Int) ≤ 2147483647)) (fun h439 => ?_) (fun h439 => ?_)
                              · have _q := h439
                                refine jx_rt (v := none) rfl rfl rfl rfl rfl rfl ?_
                                exact ⟨_, _, ln2_360, fk2_362, nd2_363, sy2_364, na2_365, vi2_366, pc1, lk, rfl, rfl, hW423, hF424, (e374), (e376), (e377), (e378), (e379), (e380), ((hF369.1 46 rfl).trans (ex_pc1)), ((hF369.1 52 rfl).trans (fx_52)), by first | exact Or.inr ((⟨by omega, (TT_mk (V := Vs) (lo := nd1) (s0 := sb) (t0 := sb) (by omega) (by omega) (by omega) hvb (VL_vt (t0 := sb) sf429) sf430 (wK_nil (s0 := sb)) sf426 (by omega) (by omega) (by omega) (by omega) (by omega) (by omega) (by omega) (by omega) (by omega) (by omega) (by omega))⟩))⟩
                              · have _q := h439
                                refine jx_ld (pc' := 214) (l' := L340) (st' := [.ref 66]) rfl (jl_aloadn gL340_0) ?_
                                refine jx_ar (pc' := 215) (st' := [.int (i32 (1)), .ref 66]) rfl rfl rfl rfl ?_
                                refine jx_ld (pc' := 216) (l' := L340) (st' := [.ref 66, .int (i32 (1)), .ref 66]) rfl (jl_aloadn gL340_0) ?_
                                refine jr_get (pc' := 219) (i := 6) (v := .ref 70) rfl rfl (by decide) rfl rfl ?_
                                refine jx_ld (pc' := 220) (l' := L340) (st' := [.ref 66, .ref 70, .int (i32 (1)), .ref 66]) rfl (jl_aloadn gL340_0) ?_
                                refine jr_get (pc' := 223) (i := 9) (v := .int (i32 (ln2_360))) rfl rfl (by decide) (rFv_eq (by decide) (show G357 9 = ln2_360 from (e374))) rfl ?_
                                refine jr_ldv (pc' := 224) (i := 3) (m := 3001) (z := ln2_360) (y := lf2_367) rfl (by decide) rfl (by decide) (Int.le_trans (by decide : (0 : Int) ≤ 0) bln2_360.1) (Int.lt_of_le_of_lt bln2_360.2 (by decide : (3000 : Int) < ((3001 : Nat) : Int))) rfl (show A422 3 (ln2_360).toNat = lf2_367 from (congrFun ((congrFun eA422 3).trans (uA_ne (by decide))) _).trans (e381)) ?_
                                refine jx_ld (pc' := 225) (l' := L340) (st' := [.ref 66, .int (i32 (lf2_367)), .int (i32 (1)), .ref 66]) rfl (jl_aloadn gL340_0) ?_
                                refine jr_get (pc' := 228) (i := 5) (v := .ref 69) rfl rfl (by decide) rfl rfl ?_
                                refine jx_ld (pc' := 229) (l' := L340) (st' := [.ref 66, .ref 69, .int (i32 (lf2_367)), .int (i32 (1)), .ref 66]) rfl (jl_aloadn gL340_0) ?_
                                refine jr_get (pc' := 232) (i := 9) (v := .int (i32 (ln2_360))) rfl rfl (by decide) (rFv_eq (by decide) (show G357 9 = ln2_360 from (e374))) rfl ?_
                                have b440 : (0 : Int) ≤ A 2 (ln2_360).toNat ∧ A 2 (ln2_360).toNat ≤ 3000 := hW.2 2 _
                                refine jr_ldv (pc' := 233) (i := 2) (m := 3001) (z := ln2_360) (y := A 2 (ln2_360).toNat) rfl (by decide) rfl (by decide) (Int.le_trans (by decide : (0 : Int) ≤ 0) bln2_360.1) (Int.lt_of_le_of_lt bln2_360.2 (by decide : (3000 : Int) < ((3001 : Nat) : Int))) rfl (show A422 2 (ln2_360).toNat = A 2 (ln2_360).toNat from (congrFun (((congrFun eA422 2).trans (uA_ne (by decide))).trans ((hF369.2 2 rfl).trans (hFx.2 2 rfl))) _)) ?_
                                refine jx_sub (pc' := 234) rfl rfl ?_
                                refine jx_vr (pc' := 237) (as := [.int (i32 (1)), .int (i32 ((lf2_367 - A 2 (ln2_360).toNat)))]) (st := []) rfl rfl rfl rfl ⟨rfl, rfl, Nat.le_of_ble_eq_true rfl⟩ rfl rfl (c_fail (dd := d) (hd := by omega) (hW := hW423) (kind := 1) (place := (lf2_367 - A 2 (ln2_360).toNat)) (fk := fk2_362) (e_fk := show G357 16 = fk2_362 from (e376))  (h_kind := ⟨(by decide), (by decide)⟩) (h_place := ⟨(by omega), (by omega)⟩)  (p_0 := by omega) (p_1 := by omega)) (fun o V' hq => ?_)
                                obtain ⟨G441, A442, fk2_443, rfl, rfl, hW444, hF445, e446, p447, -⟩ := hq
                                have hF449 := Fr_tr hF424 hF445 (Fr_sub (by decide)) (Fr_sub (by decide))
                                have sf450 : wB A442 Vs pb (nd1) (nd2_363) (sy1) (sy2_364) := (show A442 = A422 from funext (fun k => hF445.2 k rfl)) ▸ sf426
                                have sf451 : SW (Vs) (sb) (vi1) A442 := (show A442 = A422 from funext (fun k => hF445.2 k rfl)) ▸ sf427
                                have sf452 : PQ (Vs) (sb) (pb) (fun _ => 0) A442 := (show A442 = A422 from funext (fun k => hF445.2 k rfl)) ▸ sf428
                                have sf453 : VT (Vs) A442 (sb) := (show A442 = A422 from funext (fun k => hF445.2 k rfl)) ▸ sf429
                                have sf454 : wQ A442 (pc1).toNat (nd1) (sb) := (show A442 = A422 from funext (fun k => hF445.2 k rfl)) ▸ sf430
                                have sf455 : wP A442 (sy2_364) pb (18) (Vs) (r359) (nd1) (nd2_363) (sy1) (sy2_364) := wP_ag (Sg_fr hF445 (by decide)) (Qg_fr hF445 (by decide)) (by omega) (by omega) (Ax_ag (Ag_fr hF445 (by decide))) sf431
                                have sf456 : NX A442 (r359) := NX_ag (by omega) (Ag_fr hF445 (by decide)) sf432
                                have bfk2_443 : (0 : Int) ≤ fk2_443 ∧ fk2_443 ≤ 6 := e446 ▸ hW444.1 16
                                refine .inl ⟨rfl, ?_⟩
                                refine jx_rt (v := none) rfl rfl rfl rfl rfl rfl ?_
                                exact ⟨_, _, ln2_360, fk2_443, nd2_363, sy2_364, na2_365, vi2_366, pc1, lk, rfl, rfl, hW444, hF449, ((hF445.1 9 rfl).trans (e374)), (e446), ((hF445.1 31 rfl).trans (e377)), ((hF445.1 19 rfl).trans (e378)), ((hF445.1 28 rfl).trans (e379)), ((hF445.1 29 rfl).trans (e380)), ((hF445.1 46 rfl).trans ((hF369.1 46 rfl).trans (ex_pc1))), ((hF445.1 52 rfl).trans ((hF369.1 52 rfl).trans (fx_52))), by first | exact Or.inl (by omega)⟩
                      · have _q := h356
                        exact absurd h356 (by omega)
                    · have _q := h355
                      exact absurd h355 (by omega)
            · have _q := h339
              exact absurd h339 (by omega)
    · have _q := h316
      exact absurd h316 (by omega)
set_option maxRecDepth 20000 in
set_option maxHeartbeats 4000000 in
theorem c_readProgram_at_40 {X : jX} {d : Nat} {c0 c1 : jC} {G : Nat → Int} {A : Nat → Nat → Int} {T : jH} {ln li fk nd sy na vi lf pc lk : Int} (hd : 8 * 18 + 82 ≤ d + 1) (hW : Wk G A) (e_ln : G 9 = ln) (e_li : G 3 = li) (e_fk : G 16 = fk) (e_nd : G 31 = nd) (e_sy : G 19 = sy) (e_na : G 28 = na) (e_vi : G 29 = vi) (e_lf : A 3 (ln).toNat = lf) (e_pc : G 46 = pc) (e_lk : G 52 = lk) (i_LT : LT G A) (p_0 : fk = 0) (p_1 : ln = 0) (p_2 : nd = 1) (p_3 : sy = 0) (p_4 : na = 0) (p_5 : vi = 0) (p_6 : pc = 0) (p_7 : lk = 0) (p_8 : PZ A) : ∀ (m : Nat) (L : jL) (Gx : Nat → Int) (Ax : Nat → Nat → Int) (more ln1 fk1 nd1 sy1 na1 vi1 lf1 pc1 : Int), (li - ln1).toNat = m → jGet L 0 = some (.ref 66) → jGet L 1 = some (.int (i32 more)) → Wk Gx Ax → Fr [9, 10, 11, 12, 13, 14, 15, 16, 17, 18, 19, 28, 29, 31, 46, 52] [6, 7, 8, 9, 10, 11, 12, 14, 15, 16, 17, 18, 19, 20, 21, 22, 23, 24, 28, 29, 30, 31, 34, 35, 36] G A Gx Ax → Gx 9 = ln1 → Gx 16 = fk1 → Gx 31 = nd1 → Gx 19 = sy1 → Gx 28 = na1 → Gx 29 = vi1 → Ax 3 (ln1).toNat = lf1 → Gx 46 = pc1 → Gx 52 = lk → ((-2147483648 : Int) ≤ more ∧ more ≤ 2147483647) → (fk1 = 0) → (0 ≤ lf1) → (ln1 ≤ li) → (nd1 ≤ 2 * lf1 + 2 ∨ li ≤ ln1) → (sy1 ≤ na1 + 2) → (vi1 ≤ sy1) → (TP Ax (pc1) (nd1) (sy1) (vi1)) → (PZ Ax) → (more = 1) → wj X d jm312 (40, L, [], rV c0 c1 Gx Ax T) (fun o V' => ∃ (G' : Nat → Int) (A' : Nat → Nat → Int) (ln2 : Int) (fk2 : Int) (nd2 : Int) (sy2 : Int) (na2 : Int) (vi2 : Int) (pc2 : Int) (lk2 : Int), V' = rV c0 c1 G' A' T ∧ o = .inl none ∧ Wk G' A' ∧ Fr [9, 10, 11, 12, 13, 14, 15, 16, 17, 18, 19, 28, 29, 31, 46, 52] [6, 7, 8, 9, 10, 11, 12, 14, 15, 16, 17, 18, 19, 20, 21, 22, 23, 24, 28, 29, 30, 31, 34, 35, 36] G A G' A' ∧ G' 9 = ln2 ∧ G' 16 = fk2 ∧ G' 31 = nd2 ∧ G' 19 = sy2 ∧ G' 28 = na2 ∧ G' 29 = vi2 ∧ G' 46 = pc2 ∧ G' 52 = lk2 ∧ (((1 ≤ fk2)) ∨ ((fk2 = 0) ∧ (TT A' (pc2) (nd2) (sy2) (lk2))))) := by
  have hF0 : Fr [9, 10, 11, 12, 13, 14, 15, 16, 17, 18, 19, 28, 29, 31, 46, 52] [6, 7, 8, 9, 10, 11, 12, 14, 15, 16, 17, 18, 19, 20, 21, 22, 23, 24, 28, 29, 30, 31, 34, 35, 36] G A G A := Fr_rf
  have b_ln : (0 : Int) ≤ ln ∧ ln ≤ 3000 := e_ln ▸ hW.1 9
  have b_li : (0 : Int) ≤ li ∧ li ≤ 3000 := e_li ▸ hW.1 3
  have b_fk : (0 : Int) ≤ fk ∧ fk ≤ 6 := e_fk ▸ hW.1 16
  have b_nd : (0 : Int) ≤ nd ∧ nd ≤ 6999 := e_nd ▸ hW.1 31
  have b_sy : (0 : Int) ≤ sy ∧ sy ≤ 202 := e_sy ▸ hW.1 19
  have b_na : (0 : Int) ≤ na ∧ na ≤ 200 := e_na ▸ hW.1 28
  have b_vi : (0 : Int) ≤ vi ∧ vi ≤ 202 := e_vi ▸ hW.1 29
  have b_lf : (0 : Int) ≤ lf ∧ lf ≤ 3000 := e_lf ▸ hW.2 3 _
  have b_pc : (0 : Int) ≤ pc ∧ pc ≤ 24 := e_pc ▸ hW.1 46
  have b_lk : (0 : Int) ≤ lk ∧ lk ≤ 12 := e_lk ▸ hW.1 52
  intro m
  induction m using Nat.strongRecOn with
  | ind m ih40 =>
    intro L Gx Ax more ln1 fk1 nd1 sy1 na1 vi1 lf1 pc1 hm gL_0 gL_1 hWx hFx ex_ln1 ex_fk1 ex_nd1 ex_sy1 ex_na1 ex_vi1 ex_lf1 ex_pc1 fx_52 rx_more iv_0 iv_1 iv_2 iv_3 iv_4 iv_5 iv_6 iv_7 iv_8
    have b_ln1 : (0 : Int) ≤ ln1 ∧ ln1 ≤ 3000 := ex_ln1 ▸ hWx.1 9
    have b_fk1 : (0 : Int) ≤ fk1 ∧ fk1 ≤ 6 := ex_fk1 ▸ hWx.1 16
    have b_nd1 : (0 : Int) ≤ nd1 ∧ nd1 ≤ 6999 := ex_nd1 ▸ hWx.1 31
    have b_sy1 : (0 : Int) ≤ sy1 ∧ sy1 ≤ 202 := ex_sy1 ▸ hWx.1 19
    have b_na1 : (0 : Int) ≤ na1 ∧ na1 ≤ 200 := ex_na1 ▸ hWx.1 28
    have b_vi1 : (0 : Int) ≤ vi1 ∧ vi1 ≤ 202 := ex_vi1 ▸ hWx.1 29
    have b_pc1 : (0 : Int) ≤ pc1 ∧ pc1 ≤ 24 := ex_pc1 ▸ hWx.1 46
    obtain ⟨Vs, hvb, hSW0, hPW0, hVT0, hwQ0⟩ := iv_6; obtain ⟨sb, hsb⟩ : ∃ z : Int, z = sy1 := ⟨_, rfl⟩; obtain ⟨pb, hpb⟩ : ∃ z : Int, z = pc1 := ⟨_, rfl⟩; rw [← hsb] at hvb hSW0 hPW0 hVT0 hwQ0; rw [← hpb] at hPW0; have hle0 := wQ_le hwQ0
    refine jx_ld (pc' := 41) (l' := L) (st' := [.int (i32 (more))]) rfl (jl_iloadn gL_1) ?_
    refine jx_if_eq (pc' := 44) (tg := 74) rfl rfl rfl (Int.le_trans (by decide : (-2147483648 : Int) ≤ -2147483648) rx_more.1) (Int.le_trans rx_more.2 (by decide : (2147483647 : Int) ≤ 2147483647)) (fun h457 => ?_) (fun h457 => ?_)
    · have _q := h457
      have z458 := tz_f (Gx 11)
      exact c_readProgram_at_74 (X := X) (d := d) (c0 := c0) (c1 := c1) (G := G) (A := A) (T := T) (ln := ln) (li := li) (fk := fk) (nd := nd) (sy := sy) (na := na) (vi := vi) (lf := lf) (pc := pc) (lk := lk) (hd := hd) (hW := hW) (e_ln := e_ln) (e_li := e_li) (e_fk := e_fk) (e_nd := e_nd) (e_sy := e_sy) (e_na := e_na) (e_vi := e_vi) (e_lf := e_lf) (e_pc := e_pc) (e_lk := e_lk) (i_LT := i_LT) (p_0 := p_0) (p_1 := p_1) (p_2 := p_2) (p_3 := p_3) (p_4 := p_4) (p_5 := p_5) (p_6 := p_6) (p_7 := p_7) (p_8 := p_8) L Gx Ax (ln1) (Gx 10) (Gx 11) (fk1) (Gx 15) (nd1) (sy1) (na1) (vi1) (lf1) (A 4 (ln1).toNat) (pc1) gL_0 hWx hFx ((ex_ln1)) (rfl) (rfl) ((ex_fk1)) (rfl) ((ex_nd1)) ((ex_sy1)) ((ex_na1)) ((ex_vi1)) ((ex_lf1)) ((congrFun (hFx.2 4 rfl) _)) ((ex_pc1)) ((fx_52)) (by omega) (by omega) (by omega) (by omega) (by omega) (by omega) (by omega) (by omega) (by omega) (by omega) (by omega) (iv_7) ((TP_mk (VB_eq hvb (by omega)) hSW0 hPW0 hVT0 hwQ0 (by omega) (by omega) (by omega) (by omega) (by omega) (by omega) (by omega) (by omega)))
    · have _q := h457
      refine jx_ld (pc' := 45) (l' := L) (st' := [.ref 66]) rfl (jl_aloadn gL_0) ?_
      refine jx_ar (pc' := 46) (st' := [.int (i32 (0)), .ref 66]) rfl rfl rfl rfl ?_
      have b459 : (-1 : Int) ≤ A 5 (ln1).toNat ∧ A 5 (ln1).toNat ≤ 15 := hW.2 5 _
      refine jx_vr (pc' := 49) (as := [.int (i32 (0))]) (st := []) rfl rfl rfl rfl ⟨rfl, rfl, Nat.le_of_ble_eq_true rfl⟩ rfl rfl (c_needLevel (dd := d) (hd := by omega) (hW := hWx) (lv := 0) (ln := ln1) (e_ln := show Gx 9 = ln1 from (ex_ln1)) (li := li) (e_li := show Gx 3 = li from ((hFx.1 3 rfl).trans (e_li))) (fk := fk1) (e_fk := show Gx 16 = fk1 from (ex_fk1)) (ll := A 5 (ln1).toNat) (e_ll := show Ax 5 (ln1).toNat = A 5 (ln1).toNat from (congrFun (hFx.2 5 rfl) _))  (h_lv := ⟨(by decide), (by decide)⟩)  ) (fun o V' hq => ?_)
      obtain ⟨G460, A461, r462, fk2_463, rfl, rfl, hW464, hF465, b466, e467, q468⟩ := hq
      have hF469 := Fr_tr hFx hF465 (Fr_sub (by decide)) (Fr_sub (by decide))
      have sf470 : PZ A461 := (show A461 = Ax from funext (fun k => hF465.2 k rfl)) ▸ iv_7
      have sf471 : SW (Vs) (sb) (vi1) A461 := (show A461 = Ax from funext (fun k => hF465.2 k rfl)) ▸ hSW0
      have sf472 : PQ (Vs) (sb) (pb) (fun _ => 0) A461 := (show A461 = Ax from funext (fun k => hF465.2 k rfl)) ▸ hPW0
      have sf473 : VT (Vs) A461 (sb) := (show A461 = Ax from funext (fun k => hF465.2 k rfl)) ▸ hVT0
      have sf474 : wQ A461 (pc1).toNat (nd1) (sb) := (show A461 = Ax from funext (fun k => hF465.2 k rfl)) ▸ hwQ0
      have bfk2_463 : (0 : Int) ≤ fk2_463 ∧ fk2_463 ≤ 6 := e467 ▸ hW464.1 16
      refine .inr ⟨_, rfl, ?_⟩
      rcases q468 with ⟨rfl, a475, a476, a477, a478⟩ | ⟨rfl, a479⟩
      · have _q : True := trivial
        have b480 : (0 : Int) ≤ A 4 (ln1).toNat ∧ A 4 (ln1).toNat ≤ 3000 := hW.2 4 _
        have lt481 : lf1 < A 4 (ln1).toNat := LT_at (LT_ext (((hF465.1 3 rfl).trans (hFx.1 3 rfl))) (((hF465.2 3 rfl).trans (hFx.2 3 rfl))) (((hF465.2 4 rfl).trans (hFx.2 4 rfl))) i_LT) (show G460 3 = li from ((hF465.1 3 rfl).trans ((hFx.1 3 rfl).trans (e_li)))) (show A461 3 (ln1).toNat = lf1 from (congrFun (hF465.2 3 rfl) _).trans (ex_lf1)) (show A461 4 (ln1).toNat = A 4 (ln1).toNat from (congrFun ((hF465.2 4 rfl).trans (hFx.2 4 rfl)) _)) (by omega) (by omega)
        refine jx_if_eq (pc' := 52) (tg := 74) rfl rfl rfl (by decide) (by decide) (fun h482 => ?_) (fun h482 => ?_)
        · have _q := h482
          exact absurd h482 (by omega)
        · have _q := h482
          refine jx_ld (pc' := 53) (l' := L) (st' := [.ref 66]) rfl (jl_aloadn gL_0) ?_
          refine jx_vr (pc' := 56) (as := []) (st := []) rfl rfl rfl rfl ⟨rfl, rfl, Nat.le_of_ble_eq_true rfl⟩ rfl rfl (c_openLine (dd := d) (hd := by omega) (hW := hW464)  (ln := ln1) (e_ln := show G460 9 = ln1 from ((hF465.1 9 rfl).trans (ex_ln1))) (le := A 4 (ln1).toNat) (e_le := show A461 4 (ln1).toNat = A 4 (ln1).toNat from (congrFun ((hF465.2 4 rfl).trans (hFx.2 4 rfl)) _)) (lf := lf1) (e_lf := show A461 3 (ln1).toNat = lf1 from (congrFun (hF465.2 3 rfl) _).trans (ex_lf1))    (p_0 := by omega)) (fun o V' hq => ?_)
          obtain ⟨G483, A484, at2_485, tk2_486, op2_487, rfl, rfl, hW488, hF489, e490, e491, e492, p493, p494, p495, p496, -⟩ := hq
          have hF498 := Fr_tr hF469 hF489 (Fr_sub (by decide)) (Fr_sub (by decide))
          have sf499 : PZ A484 := (show A484 = A461 from funext (fun k => hF489.2 k rfl)) ▸ sf470
          have sf500 : SW (Vs) (sb) (vi1) A484 := (show A484 = A461 from funext (fun k => hF489.2 k rfl)) ▸ sf471
          have sf501 : PQ (Vs) (sb) (pb) (fun _ => 0) A484 := (show A484 = A461 from funext (fun k => hF489.2 k rfl)) ▸ sf472
          have sf502 : VT (Vs) A484 (sb) := (show A484 = A461 from funext (fun k => hF489.2 k rfl)) ▸ sf473
          have sf503 : wQ A484 (pc1).toNat (nd1) (sb) := (show A484 = A461 from funext (fun k => hF489.2 k rfl)) ▸ sf474
          have bat2_485 : (0 : Int) ≤ at2_485 ∧ at2_485 ≤ 3002 := e490 ▸ hW488.1 10
          have ztk2_486 := tz_b tk2_486
          have btk2_486 : (0 : Int) ≤ tk2_486 ∧ tk2_486 ≤ 5 := e491 ▸ hW488.1 11
          have bop2_487 : (-2147483648 : Int) ≤ op2_487 ∧ op2_487 ≤ 2147483647 := e492 ▸ hW488.1 15
          refine .inl ⟨rfl, ?_⟩
          refine jx_ld (pc' := 57) (l' := L) (st' := [.ref 66]) rfl (jl_aloadn gL_0) ?_
          refine jx_ar (pc' := 59) (st' := [.int (i32 (12)), .ref 66]) rfl rfl rfl rfl ?_
          have b504 : (-2147483648 : Int) ≤ G483 13 ∧ G483 13 ≤ 2147483647 := hW488.1 13
          refine jx_vr (pc' := 62) (as := [.int (i32 (12))]) (st := []) rfl rfl rfl rfl ⟨rfl, rfl, Nat.le_of_ble_eq_true rfl⟩ rfl rfl (c_isKey (dd := d) (hd := by omega) (hW := hW488) (k := 12) (tk := tk2_486) (e_tk := show G483 11 = tk2_486 from (e491)) (tn := G483 13) (e_tn := show G483 13 = G483 13 from rfl)  (h_k := ⟨(by decide), (by decide)⟩)  ) (fun o V' hq => ?_)
          obtain ⟨r505, rfl, rfl, b506, q507⟩ := hq
          refine .inr ⟨_, rfl, ?_⟩
          rcases q507 with ⟨rfl, a508, a509, a510⟩ | rfl
          · have _q : True := trivial
            refine jx_ld (pc' := 63) (l' := jSto1 L 1 (.int (i32 (1)))) (st' := []) rfl rfl ?_
            obtain ⟨L511, eL511⟩ : ∃ q, q = jSto1 L 1 (.int (i32 (1))) := ⟨_, rfl⟩
            rw [← eL511]
            have gL511_0 : jGet L511 0 = some (.ref 66) := eL511 ▸ jg_ne (by decide) gL_0 rfl
            have gL511_1 : jGet L511 1 = some (.int (i32 (1))) := eL511 ▸ jg_eq
            refine jx_ld (pc' := 64) (l' := L511) (st' := [.int (i32 (1))]) rfl (jl_iloadn gL511_1) ?_
            refine jx_if_eq (pc' := 67) (tg := 40) rfl rfl rfl (by decide) (by decide) (fun h512 => ?_) (fun h512 => ?_)
            · have _q := h512
              exact absurd h512 (by omega)
            · have _q := h512
              refine jx_ld (pc' := 68) (l' := L511) (st' := [.ref 66]) rfl (jl_aloadn gL511_0) ?_
              refine jx_vr (pc' := 71) (as := []) (st := []) rfl rfl rfl rfl ⟨rfl, rfl, Nat.le_of_ble_eq_true rfl⟩ rfl rfl (c_readProc (dd := d) (hd := by omega) (hW := hW488)  (ln := ln1) (e_ln := show G483 9 = ln1 from ((hF489.1 9 rfl).trans ((hF465.1 9 rfl).trans (ex_ln1)))) (li := li) (e_li := show G483 3 = li from ((hF489.1 3 rfl).trans ((hF465.1 3 rfl).trans ((hFx.1 3 rfl).trans (e_li))))) (at0 := at2_485) (e_at0 := show G483 10 = at2_485 from (e490)) (fk := fk2_463) (e_fk := show G483 16 = fk2_463 from ((hF489.1 16 rfl).trans (e467))) (nd := nd1) (e_nd := show G483 31 = nd1 from ((hF489.1 31 rfl).trans ((hF465.1 31 rfl).trans (ex_nd1)))) (sy := sy1) (e_sy := show G483 19 = sy1 from ((hF489.1 19 rfl).trans ((hF465.1 19 rfl).trans (ex_sy1)))) (na := na1) (e_na := show G483 28 = na1 from ((hF489.1 28 rfl).trans ((hF465.1 28 rfl).trans (ex_na1)))) (vi := vi1) (e_vi := show G483 29 = vi1 from ((hF489.1 29 rfl).trans ((hF465.1 29 rfl).trans (ex_vi1)))) (le := A 4 (ln1).toNat) (e_le := show A484 4 (ln1).toNat = A 4 (ln1).toNat from (congrFun ((hF489.2 4 rfl).trans ((hF465.2 4 rfl).trans (hFx.2 4 rfl))) _)) (op0 := op2_487) (e_op0 := show G483 15 = op2_487 from (e492)) (tk0 := tk2_486) (e_tk0 := show G483 11 = tk2_486 from (e491)) (pc0 := pc1) (e_pc0 := show G483 46 = pc1 from ((hF489.1 46 rfl).trans ((hF465.1 46 rfl).trans (ex_pc1)))) (i_LT := (LT_ext (((hF489.1 3 rfl).trans ((hF465.1 3 rfl).trans (hFx.1 3 rfl)))) (((hF489.2 3 rfl).trans ((hF465.2 3 rfl).trans (hFx.2 3 rfl)))) (((hF489.2 4 rfl).trans ((hF465.2 4 rfl).trans (hFx.2 4 rfl)))) i_LT)) (i_SV := (SW_sv sf500 ((show G483 29 = vi1 from ((hF489.1 29 rfl).trans ((hF465.1 29 rfl).trans (ex_vi1)))).trans (by omega)))) (i_PQ := sf501) (hvb := hvb)   (p_0 := by omega) (p_1 := by omega) (p_2 := by omega) (p_3 := by omega) (p_4 := by omega) (p_5 := by omega) (p_6 := by omega) (p_7 := by omega) (p_8 := (wQ_eq sf503 (by omega) (by omega) (by omega))) (p_9 := (VT_eq sf502 (by omega)))) (fun o V' hq => ?_)
              obtain ⟨G513, A514, ln2_515, at2_516, fk2_517, nd2_518, sy2_519, na2_520, vi2_521, lf2_522, pc2_523, rfl, rfl, hW524, hF525, hQ526, hQ527, hQ528, hQ529, e530, e531, e532, e533, e534, e535, e536, e537, e538, p539, p540, p541, p542, q543⟩ := hq
              have hF544 := Fr_tr hF498 hF525 (Fr_sub (by decide)) (Fr_sub (by decide))
              have sf545 : PZ A514 := PZ_ext (hF525.2 36 rfl) sf499
              have sf546 : SW (Vs) (sb) (vi1) A514 := SW_fx hQ528 (by omega) sf500
              have sf547 : PQ (Vs) (sb) (pb) (fun _ => 0) A514 := PQ_fxq sf501 hQ527 (by omega) hQ529 (by omega)
              have sf548 : VT (Vs) A514 (sb) := VT_fx hQ527 (by omega) sf502
              have sf549 : wQ A514 (pc1).toNat (nd1) (sb) := wQ_fx (fun k j hk hj => hQ526 k j hk (by omega)) (Fx_su hQ527 (by omega)) (Fx_su hQ529 (by omega)) sf503
              have bln2_515 : (0 : Int) ≤ ln2_515 ∧ ln2_515 ≤ 3000 := e530 ▸ hW524.1 9
              have bat2_516 : (0 : Int) ≤ at2_516 ∧ at2_516 ≤ 3002 := e531 ▸ hW524.1 10
              have bfk2_517 : (0 : Int) ≤ fk2_517 ∧ fk2_517 ≤ 6 := e532 ▸ hW524.1 16
              have bnd2_518 : (0 : Int) ≤ nd2_518 ∧ nd2_518 ≤ 6999 := e533 ▸ hW524.1 31
              have bsy2_519 : (0 : Int) ≤ sy2_519 ∧ sy2_519 ≤ 202 := e534 ▸ hW524.1 19
              have bna2_520 : (0 : Int) ≤ na2_520 ∧ na2_520 ≤ 200 := e535 ▸ hW524.1 28
              have bvi2_521 : (0 : Int) ≤ vi2_521 ∧ vi2_521 ≤ 202 := e536 ▸ hW524.1 29
              have blf2_522 : (0 : Int) ≤ lf2_522 ∧ lf2_522 ≤ 3000 := e537 ▸ hW524.2 3 _
              have bpc2_523 : (0 : Int) ≤ pc2_523 ∧ pc2_523 ≤ 24 := e538 ▸ hW524.1 46
              refine .inl ⟨rfl, ?_⟩
              rcases q543 with a550 | ⟨a551, a552, a553, a554, a555, a556, a557, a558, a559, a560, a561, a562⟩
              · have _q : True := trivial
                refine jx_go (tg := 40) rfl rfl ?_
                refine jx_ld (pc' := 41) (l' := L511) (st' := [.int (i32 (1))]) rfl (jl_iloadn gL511_1) ?_
                refine jx_if_eq (pc' := 44) (tg := 74) rfl rfl rfl (by decide) (by decide) (fun h563 => ?_) (fun h563 => ?_)
                · have _q := h563
                  exact absurd h563 (by omega)
                · have _q := h563
                  refine jx_ld (pc' := 45) (l' := L511) (st' := [.ref 66]) rfl (jl_aloadn gL511_0) ?_
                  refine jx_ar (pc' := 46) (st' := [.int (i32 (0)), .ref 66]) rfl rfl rfl rfl ?_
                  have b564 : (-1 : Int) ≤ A 5 (ln2_515).toNat ∧ A 5 (ln2_515).toNat ≤ 15 := hW.2 5 _
                  refine jx_vr (pc' := 49) (as := [.int (i32 (0))]) (st := []) rfl rfl rfl rfl ⟨rfl, rfl, Nat.le_of_ble_eq_true rfl⟩ rfl rfl (c_needLevel (dd := d) (hd := by omega) (hW := hW524) (lv := 0) (ln := ln2_515) (e_ln := show G513 9 = ln2_515 from (e530)) (li := li) (e_li := show G513 3 = li from ((hF525.1 3 rfl).trans ((hF489.1 3 rfl).trans ((hF465.1 3 rfl).trans ((hFx.1 3 rfl).trans (e_li)))))) (fk := fk2_517) (e_fk := show G513 16 = fk2_517 from (e532)) (ll := A 5 (ln2_515).toNat) (e_ll := show A514 5 (ln2_515).toNat = A 5 (ln2_515).toNat from (congrFun ((hF525.2 5 rfl).trans ((hF489.2 5 rfl).trans ((hF465.2 5 rfl).trans (hFx.2 5 rfl)))) _))  (h_lv := ⟨(by decide), (by decide)⟩)  ) (fun o V' hq => ?_)
                  obtain ⟨G565, A566, r567, fk2_568, rfl, rfl, hW569, hF570, b571, e572, q573⟩ := hq
                  have hF574 := Fr_tr hF544 hF570 (Fr_sub (by decide)) (Fr_sub (by decide))
                  have sf575 : PZ A566 := (show A566 = A514 from funext (fun k => hF570.2 k rfl)) ▸ sf545
                  have sf576 : SW (Vs) (sb) (vi1) A566 := (show A566 = A514 from funext (fun k => hF570.2 k rfl)) ▸ sf546
                  have sf577 : PQ (Vs) (sb) (pb) (fun _ => 0) A566 := (show A566 = A514 from funext (fun k => hF570.2 k rfl)) ▸ sf547
                  have sf578 : VT (Vs) A566 (sb) := (show A566 = A514 from funext (fun k => hF570.2 k rfl)) ▸ sf548
                  have sf579 : wQ A566 (pc1).toNat (nd1) (sb) := (show A566 = A514 from funext (fun k => hF570.2 k rfl)) ▸ sf549
                  have bfk2_568 : (0 : Int) ≤ fk2_568 ∧ fk2_568 ≤ 6 := e572 ▸ hW569.1 16
                  refine .inr ⟨_, rfl, ?_⟩
                  rcases q573 with ⟨rfl, a580, a581, a582, a583⟩ | ⟨rfl, a584⟩
                  · have _q : True := trivial
                    exfalso
                    omega
                  · have _q : True := trivial
                    refine jx_if_eq (pc' := 52) (tg := 74) rfl rfl rfl (by decide) (by decide) (fun h585 => ?_) (fun h585 => ?_)
                    · have _q := h585
                      refine jx_ld (pc' := 75) (l' := L511) (st' := [.ref 66]) rfl (jl_aloadn gL511_0) ?_
                      refine jx_vr (pc' := 78) (as := []) (st := []) rfl rfl rfl rfl ⟨rfl, rfl, Nat.le_of_ble_eq_true rfl⟩ rfl rfl (c_bad (dd := d) (hd := by omega) (hW := hW569)  (fk := fk2_568) (e_fk := show G565 16 = fk2_568 from (e572))    ) (fun o V' hq => ?_)
                      obtain ⟨r586, rfl, rfl, b587, q588⟩ := hq
                      refine .inr ⟨_, rfl, ?_⟩
                      rcases q588 with ⟨rfl, a589⟩ | ⟨rfl, a590⟩
                      · have _q : True := trivial
                        refine jx_if_eq (pc' := 81) (tg := 82) rfl rfl rfl (by decide) (by decide) (fun h591 => ?_) (fun h591 => ?_)
                        · have _q := h591
                          exact absurd h591 (by omega)
                        · have _q := h591
                          refine jx_rt (v := none) rfl rfl rfl rfl rfl rfl ?_
                          exact ⟨_, _, ln2_515, fk2_568, nd2_518, sy2_519, na2_520, vi2_521, pc2_523, lk, rfl, rfl, hW569, hF574, ((hF570.1 9 rfl).trans (e530)), (e572), ((hF570.1 31 rfl).trans (e533)), ((hF570.1 19 rfl).trans (e534)), ((hF570.1 28 rfl).trans (e535)), ((hF570.1 29 rfl).trans (e536)), ((hF570.1 46 rfl).trans (e538)), ((hF570.1 52 rfl).trans ((hF525.1 52 rfl).trans ((hF489.1 52 rfl).trans ((hF465.1 52 rfl).trans (fx_52))))), by first | exact Or.inl (by omega)⟩
                      · have _q : True := trivial
                        exfalso
                        omega
                    · have _q := h585
                      exact absurd h585 (by omega)
              · have _q : True := trivial
                refine jx_go (tg := 40) rfl rfl ?_
                exact ih40 _ (by omega) L511 G513 A514 (1) (ln2_515) (fk2_517) (nd2_518) (sy2_519) (na2_520) (vi2_521) (lf2_522) (pc2_523) rfl gL511_0 gL511_1 hW524 hF544 ((e530)) ((e532)) ((e533)) ((e534)) ((e535)) ((e536)) ((e537)) ((e538)) (((hF525.1 52 rfl).trans ((hF489.1 52 rfl).trans ((hF465.1 52 rfl).trans (fx_52))))) (by omega) (by omega) (by omega) (by omega) (by omega) (by omega) (by omega) ((TP_mk (VB_u hvb (by omega) (by omega)) a560 a561 a562 a559 (by omega) (by omega) (by omega) (by omega) (by omega) (by omega) (by omega) (by omega))) (sf545) (by omega)
          · have _q : True := trivial
            refine jx_ld (pc' := 63) (l' := jSto1 L 1 (.int (i32 (0)))) (st' := []) rfl rfl ?_
            obtain ⟨L592, eL592⟩ : ∃ q, q = jSto1 L 1 (.int (i32 (0))) := ⟨_, rfl⟩
            rw [← eL592]
            have gL592_0 : jGet L592 0 = some (.ref 66) := eL592 ▸ jg_ne (by decide) gL_0 rfl
            have gL592_1 : jGet L592 1 = some (.int (i32 (0))) := eL592 ▸ jg_eq
            refine jx_ld (pc' := 64) (l' := L592) (st' := [.int (i32 (0))]) rfl (jl_iloadn gL592_1) ?_
            refine jx_if_eq (pc' := 67) (tg := 40) rfl rfl rfl (by decide) (by decide) (fun h593 => ?_) (fun h593 => ?_)
            · have _q := h593
              refine jx_ld (pc' := 41) (l' := L592) (st' := [.int (i32 (0))]) rfl (jl_iloadn gL592_1) ?_
              refine jx_if_eq (pc' := 44) (tg := 74) rfl rfl rfl (by decide) (by decide) (fun h594 => ?_) (fun h594 => ?_)
              · have _q := h594
                have z595 := tz_f (tk2_486)
                exact c_readProgram_at_74 (X := X) (d := d) (c0 := c0) (c1 := c1) (G := G) (A := A) (T := T) (ln := ln) (li := li) (fk := fk) (nd := nd) (sy := sy) (na := na) (vi := vi) (lf := lf) (pc := pc) (lk := lk) (hd := hd) (hW := hW) (e_ln := e_ln) (e_li := e_li) (e_fk := e_fk) (e_nd := e_nd) (e_sy := e_sy) (e_na := e_na) (e_vi := e_vi) (e_lf := e_lf) (e_pc := e_pc) (e_lk := e_lk) (i_LT := i_LT) (p_0 := p_0) (p_1 := p_1) (p_2 := p_2) (p_3 := p_3) (p_4 := p_4) (p_5 := p_5) (p_6 := p_6) (p_7 := p_7) (p_8 := p_8) L592 G483 A484 (ln1) (at2_485) (tk2_486) (fk2_463) (op2_487) (nd1) (sy1) (na1) (vi1) (lf1) (A 4 (ln1).toNat) (pc1) gL592_0 hW488 hF498 (((hF489.1 9 rfl).trans ((hF465.1 9 rfl).trans (ex_ln1)))) ((e490)) ((e491)) (((hF489.1 16 rfl).trans (e467))) ((e492)) (((hF489.1 31 rfl).trans ((hF465.1 31 rfl).trans (ex_nd1)))) (((hF489.1 19 rfl).trans ((hF465.1 19 rfl).trans (ex_sy1)))) (((hF489.1 28 rfl).trans ((hF465.1 28 rfl).trans (ex_na1)))) (((hF489.1 29 rfl).trans ((hF465.1 29 rfl).trans (ex_vi1)))) ((congrFun ((hF489.2 3 rfl).trans (hF465.2 3 rfl)) _).trans (ex_lf1)) ((congrFun ((hF489.2 4 rfl).trans ((hF465.2 4 rfl).trans (hFx.2 4 rfl))) _)) (((hF489.1 46 rfl).trans ((hF465.1 46 rfl).trans (ex_pc1)))) (((hF489.1 52 rfl).trans ((hF465.1 52 rfl).trans (fx_52)))) (by omega) (by omega) (by omega) (by omega) (by omega) (by omega) (by omega) (by omega) (by omega) (by omega) (by omega) (sf499) ((TP_mk (VB_eq hvb (by omega)) sf500 sf501 sf502 sf503 (by omega) (by omega) (by omega) (by omega) (by omega) (by omega) (by omega) (by omega)))
              · have _q := h594
                exact absurd h594 (by omega)
            · have _q := h593
              exact absurd h593 (by omega)
      · have _q : True := trivial
        refine jx_if_eq (pc' := 52) (tg := 74) rfl rfl rfl (by decide) (by decide) (fun h596 => ?_) (fun h596 => ?_)
        · have _q := h596
          refine jx_ld (pc' := 75) (l' := L) (st' := [.ref 66]) rfl (jl_aloadn gL_0) ?_
          refine jx_vr (pc' := 78) (as := []) (st := []) rfl rfl rfl rfl ⟨rfl, rfl, Nat.le_of_ble_eq_true rfl⟩ rfl rfl (c_bad (dd := d) (hd := by omega) (hW := hW464)  (fk := fk2_463) (e_fk := show G460 16 = fk2_463 from (e467))    ) (fun o V' hq => ?_)
          obtain ⟨r597, rfl, rfl, b598, q599⟩ := hq
          refine .inr ⟨_, rfl, ?_⟩
          rcases q599 with ⟨rfl, a600⟩ | ⟨rfl, a601⟩
          · have _q : True := trivial
            refine jx_if_eq (pc' := 81) (tg := 82) rfl rfl rfl (by decide) (by decide) (fun h602 => ?_) (fun h602 => ?_)
            · have _q := h602
              exact absurd h602 (by omega)
            · have _q := h602
              refine jx_rt (v := none) rfl rfl rfl rfl rfl rfl ?_
              exact ⟨_, _, ln1, fk2_463, nd1, sy1, na1, vi1, pc1, lk, rfl, rfl, hW464, hF469, ((hF465.1 9 rfl).trans (ex_ln1)), (e467), ((hF465.1 31 rfl).trans (ex_nd1)), ((hF465.1 19 rfl).trans (ex_sy1)), ((hF465.1 28 rfl).trans (ex_na1)), ((hF465.1 29 rfl).trans (ex_vi1)), ((hF465.1 46 rfl).trans (ex_pc1)), ((hF465.1 52 rfl).trans (fx_52)), by first | exact Or.inl (by omega)⟩
          · have _q : True := trivial
            exfalso
            omega
        · have _q := h596
          exact absurd h596 (by omega)
set_option maxRecDepth 20000 in
set_option maxHeartbeats 4000000 in
theorem c_readProgram {X : jX} {dd : Nat} {c0 c1 : jC} {G : Nat → Int} {A : Nat → Nat → Int} {T : jH} {ln li fk nd sy na vi lf pc lk : Int} (hd : 8 * 18 + 82 ≤ dd) (hW : Wk G A) (e_ln : G 9 = ln) (e_li : G 3 = li) (e_fk : G 16 = fk) (e_nd : G 31 = nd) (e_sy : G 19 = sy) (e_na : G 28 = na) (e_vi : G 29 = vi) (e_lf : A 3 (ln).toNat = lf) (e_pc : G 46 = pc) (e_lk : G 52 = lk) (i_LT : LT G A) (p_0 : fk = 0) (p_1 : ln = 0) (p_2 : nd = 1) (p_3 : sy = 0) (p_4 : na = 0) (p_5 : vi = 0) (p_6 : pc = 0) (p_7 : lk = 0) (p_8 : PZ A) : wk X dd 312 [.ref 66] (rV c0 c1 G A T) (fun o V' => ∃ (G' : Nat → Int) (A' : Nat → Nat → Int) (ln2 : Int) (fk2 : Int) (nd2 : Int) (sy2 : Int) (na2 : Int) (vi2 : Int) (pc2 : Int) (lk2 : Int), V' = rV c0 c1 G' A' T ∧ o = .inl none ∧ Wk G' A' ∧ Fr [9, 10, 11, 12, 13, 14, 15, 16, 17, 18, 19, 28, 29, 31, 46, 52] [6, 7, 8, 9, 10, 11, 12, 14, 15, 16, 17, 18, 19, 20, 21, 22, 23, 24, 28, 29, 30, 31, 34, 35, 36] G A G' A' ∧ G' 9 = ln2 ∧ G' 16 = fk2 ∧ G' 31 = nd2 ∧ G' 19 = sy2 ∧ G' 28 = na2 ∧ G' 29 = vi2 ∧ G' 46 = pc2 ∧ G' 52 = lk2 ∧ (((1 ≤ fk2)) ∨ ((fk2 = 0) ∧ (TT A' (pc2) (nd2) (sy2) (lk2))))) := by
  obtain ⟨d, rfl⟩ : ∃ d, dd = d + 1 := ⟨dd - 1, by omega⟩
  refine wk_of (e := jm312) rfl (Nat.le_of_ble_eq_true rfl) ?_
  show wj X d jm312 (0, [(0, .ref 66)], [], rV c0 c1 G A T) _
  have hF0 : Fr [9, 10, 11, 12, 13, 14, 15, 16, 17, 18, 19, 28, 29, 31, 46, 52] [6, 7, 8, 9, 10, 11, 12, 14, 15, 16, 17, 18, 19, 20, 21, 22, 23, 24, 28, 29, 30, 31, 34, 35, 36] G A G A := Fr_rf
  have b_ln : (0 : Int) ≤ ln ∧ ln ≤ 3000 := e_ln ▸ hW.1 9
  have b_li : (0 : Int) ≤ li ∧ li ≤ 3000 := e_li ▸ hW.1 3
  have b_fk : (0 : Int) ≤ fk ∧ fk ≤ 6 := e_fk ▸ hW.1 16
  have b_nd : (0 : Int) ≤ nd ∧ nd ≤ 6999 := e_nd ▸ hW.1 31
  have b_sy : (0 : Int) ≤ sy ∧ sy ≤ 202 := e_sy ▸ hW.1 19
  have b_na : (0 : Int) ≤ na ∧ na ≤ 200 := e_na ▸ hW.1 28
  have b_vi : (0 : Int) ≤ vi ∧ vi ≤ 202 := e_vi ▸ hW.1 29
  have b_lf : (0 : Int) ≤ lf ∧ lf ≤ 3000 := e_lf ▸ hW.2 3 _
  have b_pc : (0 : Int) ≤ pc ∧ pc ≤ 24 := e_pc ▸ hW.1 46
  have b_lk : (0 : Int) ≤ lk ∧ lk ≤ 12 := e_lk ▸ hW.1 52
  refine jx_ld (pc' := 1) (l' := [(0, .ref 66)]) (st' := [.ref 66]) rfl (jl_aloadn rfl) ?_
  refine jx_hp (pc' := 4) (st' := [.ref 27, .ref 66]) rfl rfl rfl rfl rfl rfl ?_
  refine jx_st (pc' := 7) (as := [.ref 27]) (st := [.ref 66]) rfl rfl ⟨rfl, Nat.le_of_ble_eq_true rfl⟩ rfl rfl rfl (c_nameOf (dd := d) (hd := by omega) (s := 27)    (q_s := rfl) (l_s := by decide) (n_s := by decide) ) (fun o V' hq => ?_)
  obtain ⟨r603, rfl, rfl, -⟩ := hq
  refine .inr ⟨_, rfl, ?_⟩
  refine jx_ar (pc' := 9) (st' := [.int (i32 (12)), .long (r603), .ref 66]) rfl rfl rfl rfl ?_
  refine jx_ar (pc' := 10) (st' := [.int (i32 (0)), .int (i32 (12)), .long (r603), .ref 66]) rfl rfl rfl rfl ?_
  refine jx_vr (pc' := 13) (as := [.long (r603), .int (i32 (12)), .int (i32 (0))]) (st := []) rfl rfl rfl rfl ⟨rfl, rfl, Nat.le_of_ble_eq_true rfl⟩ rfl rfl (c_symbol (dd := d) (hd := by omega) (hW := hW) (nm := r603) (kind := 12) (many := 0) (sy := sy) (e_sy := show G 19 = sy from (e_sy))  (h_kind := ⟨(by decide), (by decide)⟩) (h_many := ⟨(by decide), (by decide)⟩)  (p_0 := by omega) (p_1 := by omega)) (fun o V' hq => ?_)
  obtain ⟨G605, A606, r607, sy2_608, yk2_609, rfl, rfl, hW610, hF611, hQ612, b613, e614, e615, p616, p617, p618, p619, -⟩ := hq
  have hF621 := Fr_tr hF0 hF611 (Fr_sub (by decide)) (Fr_sub (by decide))
  have sf622 : PZ A606 := PZ_ext (hF611.2 36 rfl) p_8
  have bsy2_608 : (0 : Int) ≤ sy2_608 ∧ sy2_608 ≤ 202 := e614 ▸ hW610.1 19
  have byk2_609 : (0 : Int) ≤ yk2_609 ∧ yk2_609 ≤ 14 := e615 ▸ hW610.2 7 _
  refine .inr ⟨_, rfl, ?_⟩
  refine jx_ar (pc' := 14) (st' := []) rfl rfl rfl rfl ?_
  refine jx_ld (pc' := 15) (l' := [(0, .ref 66)]) (st' := [.ref 66]) rfl (jl_aloadn rfl) ?_
  refine jx_hp (pc' := 18) (st' := [.ref 28, .ref 66]) rfl rfl rfl rfl rfl rfl ?_
  refine jx_st (pc' := 21) (as := [.ref 28]) (st := [.ref 66]) rfl rfl ⟨rfl, Nat.le_of_ble_eq_true rfl⟩ rfl rfl rfl (c_nameOf (dd := d) (hd := by omega) (s := 28)    (q_s := rfl) (l_s := by decide) (n_s := by decide) ) (fun o V' hq => ?_)
  obtain ⟨r623, rfl, rfl, -⟩ := hq
  refine .inr ⟨_, rfl, ?_⟩
  refine jx_ar (pc' := 23) (st' := [.int (i32 (13)), .long (r623), .ref 66]) rfl rfl rfl rfl ?_
  refine jx_ar (pc' := 24) (st' := [.int (i32 (0)), .int (i32 (13)), .long (r623), .ref 66]) rfl rfl rfl rfl ?_
  refine jx_vr (pc' := 27) (as := [.long (r623), .int (i32 (13)), .int (i32 (0))]) (st := []) rfl rfl rfl rfl ⟨rfl, rfl, Nat.le_of_ble_eq_true rfl⟩ rfl rfl (c_symbol (dd := d) (hd := by omega) (hW := hW610) (nm := r623) (kind := 13) (many := 0) (sy := sy2_608) (e_sy := show G605 19 = sy2_608 from (e614))  (h_kind := ⟨(by decide), (by decide)⟩) (h_many := ⟨(by decide), (by decide)⟩)  (p_0 := by omega) (p_1 := by omega)) (fun o V' hq => ?_)
  obtain ⟨G625, A626, r627, sy2_628, yk2_629, rfl, rfl, hW630, hF631, hQ632, b633, e634, e635, p636, p637, p638, p639, -⟩ := hq
  have hF641 := Fr_tr hF621 hF631 (Fr_sub (by decide)) (Fr_sub (by decide))
  have sf642 : PZ A626 := PZ_ext (hF631.2 36 rfl) sf622
  have sf643 : YD A626 (sy) (12) (0) := YD_fx (by omega) (by omega) hQ632 p619
  have bsy2_628 : (0 : Int) ≤ sy2_628 ∧ sy2_628 ≤ 202 := e634 ▸ hW630.1 19
  have byk2_629 : (0 : Int) ≤ yk2_629 ∧ yk2_629 ≤ 14 := e635 ▸ hW630.2 7 _
  refine .inr ⟨_, rfl, ?_⟩
  refine jx_ar (pc' := 28) (st' := []) rfl rfl rfl rfl ?_
  refine jx_ld (pc' := 29) (l' := [(0, .ref 66)]) (st' := [.ref 66]) rfl (jl_aloadn rfl) ?_
  refine jx_ar (pc' := 30) (st' := [.int (i32 (0)), .ref 66]) rfl rfl rfl rfl ?_
  refine jx_vr (pc' := 33) (as := [.int (i32 (0))]) (st := []) rfl rfl rfl rfl ⟨rfl, rfl, Nat.le_of_ble_eq_true rfl⟩ rfl rfl (c_show (dd := d) (hd := by omega) (hW := hW630) (s := 0) (vi := vi) (e_vi := show G625 29 = vi from ((hF631.1 29 rfl).trans ((hF611.1 29 rfl).trans (e_vi))))  (h_s := ⟨(by decide), (by decide)⟩)  (p_0 := by omega) (p_1 := by omega)) (fun o V' hq => ?_)
  obtain ⟨G644, A645, vi2_646, sv2_647, rfl, rfl, hW648, hF649, hQ650, e651, e652, p653, p654, -⟩ := hq
  have hF656 := Fr_tr hF641 hF649 (Fr_sub (by decide)) (Fr_sub (by decide))
  have sf657 : PZ A645 := PZ_ext (hF649.2 36 rfl) sf642
  have sf658 : YD A645 (sy) (12) (0) := YD_fx (by omega) (by omega) (Sg_fr (sb := sy + 1) hF649 (by decide)) sf643
  have sf659 : YD A645 (sy2_608) (13) (0) := YD_fx (by omega) (by omega) (Sg_fr (sb := sy2_608 + 1) hF649 (by decide)) p639
  have bvi2_646 : (0 : Int) ≤ vi2_646 ∧ vi2_646 ≤ 202 := e651 ▸ hW648.1 29
  have bsv2_647 : (0 : Int) ≤ sv2_647 ∧ sv2_647 ≤ 201 := e652 ▸ hW648.2 14 _
  refine .inl ⟨rfl, ?_⟩
  refine jx_ld (pc' := 34) (l' := [(0, .ref 66)]) (st' := [.ref 66]) rfl (jl_aloadn rfl) ?_
  have _q : True := trivial
  refine jx_ar (pc' := 35) (st' := [.int (i32 (1)), .ref 66]) rfl rfl rfl rfl ?_
  refine jx_vr (pc' := 38) (as := [.int (i32 (1))]) (st := []) rfl rfl rfl rfl ⟨rfl, rfl, Nat.le_of_ble_eq_true rfl⟩ rfl rfl (c_show (dd := d) (hd := by omega) (hW := hW648) (s := 1) (vi := vi2_646) (e_vi := show G644 29 = vi2_646 from (e651))  (h_s := ⟨(by decide), (by decide)⟩)  (p_0 := by omega) (p_1 := by omega)) (fun o V' hq => ?_)
  obtain ⟨G660, A661, vi2_662, sv2_663, rfl, rfl, hW664, hF665, hQ666, e667, e668, p669, p670, -⟩ := hq
  have hF672 := Fr_tr hF656 hF665 (Fr_sub (by decide)) (Fr_sub (by decide))
  have k673 : A661 14 (vi).toNat = sv2_647 := (hQ666 14 _ rfl (by omega)).trans (show A645 14 (vi).toNat = sv2_647 from (e652))
  have sf674 : PZ A661 := PZ_ext (hF665.2 36 rfl) sf657
  have sf675 : YD A661 (sy) (12) (0) := YD_fx (by omega) (by omega) (Sg_fr (sb := sy + 1) hF665 (by decide)) sf658
  have sf676 : YD A661 (sy2_608) (13) (0) := YD_fx (by omega) (by omega) (Sg_fr (sb := sy2_608 + 1) hF665 (by decide)) sf659
  have bvi2_662 : (0 : Int) ≤ vi2_662 ∧ vi2_662 ≤ 202 := e667 ▸ hW664.1 29
  have bsv2_663 : (0 : Int) ≤ sv2_663 ∧ sv2_663 ≤ 201 := e668 ▸ hW664.2 14 _
  refine .inl ⟨rfl, ?_⟩
  refine jx_ar (pc' := 39) (st' := [.int (i32 (1))]) rfl rfl rfl rfl ?_
  refine jx_ld (pc' := 40) (l' := jSto1 [(0, .ref 66)] 1 (.int (i32 (1)))) (st' := []) rfl rfl ?_
  obtain ⟨L677, eL677⟩ : ∃ q, q = jSto1 [(0, .ref 66)] 1 (.int (i32 (1))) := ⟨_, rfl⟩
  rw [← eL677]
  have gL677_0 : jGet L677 0 = some (.ref 66) := eL677 ▸ jg_ne (by decide) (rfl : jGet [(0, .ref 66)] 0 = some (.ref 66)) rfl
  have gL677_1 : jGet L677 1 = some (.int (i32 (1))) := eL677 ▸ jg_eq
  exact c_readProgram_at_40 (X := X) (d := d) (c0 := c0) (c1 := c1) (G := G) (A := A) (T := T) (ln := ln) (li := li) (fk := fk) (nd := nd) (sy := sy) (na := na) (vi := vi) (lf := lf) (pc := pc) (lk := lk) (hd := hd) (hW := hW) (e_ln := e_ln) (e_li := e_li) (e_fk := e_fk) (e_nd := e_nd) (e_sy := e_sy) (e_na := e_na) (e_vi := e_vi) (e_lf := e_lf) (e_pc := e_pc) (e_lk := e_lk) (i_LT := i_LT) (p_0 := p_0) (p_1 := p_1) (p_2 := p_2) (p_3 := p_3) (p_4 := p_4) (p_5 := p_5) (p_6 := p_6) (p_7 := p_7) (p_8 := p_8) _ L677 G660 A661 (1) (ln) (fk) (nd) (sy2_628) (na) (vi2_662) (lf) (pc) rfl gL677_0 gL677_1 hW664 hF672 (((hF665.1 9 rfl).trans ((hF649.1 9 rfl).trans ((hF631.1 9 rfl).trans ((hF611.1 9 rfl).trans (e_ln)))))) (((hF665.1 16 rfl).trans ((hF649.1 16 rfl).trans ((hF631.1 16 rfl).trans ((hF611.1 16 rfl).trans (e_fk)))))) (((hF665.1 31 rfl).trans ((hF649.1 31 rfl).trans ((hF631.1 31 rfl).trans ((hF611.1 31 rfl).trans (e_nd)))))) (((hF665.1 19 rfl).trans ((hF649.1 19 rfl).trans (e634)))) (((hF665.1 28 rfl).trans ((hF649.1 28 rfl).trans ((hF631.1 28 rfl).trans ((hF611.1 28 rfl).trans (e_na)))))) ((e667)) ((congrFun ((hF665.2 3 rfl).trans ((hF649.2 3 rfl).trans ((hF631.2 3 rfl).trans (hF611.2 3 rfl)))) _).trans (e_lf)) (((hF665.1 46 rfl).trans ((hF649.1 46 rfl).trans ((hF631.1 46 rfl).trans ((hF611.1 46 rfl).trans (e_pc)))))) (((hF665.1 52 rfl).trans ((hF649.1 52 rfl).trans ((hF631.1 52 rfl).trans ((hF611.1 52 rfl).trans (e_lk)))))) (by omega) (by omega) (by omega) (by omega) (by omega) (by omega) (by omega) ((TP_init sf675 (by omega) sf676 (by omega) (show A661 14 (vi).toNat = sv2_647 from (k673)) (by omega) (by omega) (show A661 14 (vi2_646).toNat = sv2_663 from (e668)) (by omega) (by omega) (by omega) (by omega) (by omega) (by omega))) (sf674) (by omega)
