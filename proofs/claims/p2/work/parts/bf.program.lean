set_option maxRecDepth 20000 in
set_option maxHeartbeats 4000000 in
theorem c_readPlaced_w_at_19 {X : jX} {d : Nat} {Vs : Nat → Prop} {sb pb : Int} (hvb : VB Vs sb) {c0 c1 : jC} {G : Nat → Int} {A : Nat → Nat → Int} {T : jH} {ln li at0 fk nd sy na vi le op0 tk0 ec : Int} (hd : 8 * 18 + 81 ≤ d + 1) (hW : Wk G A) (e_ln : G 9 = ln) (e_li : G 3 = li) (e_at0 : G 10 = at0) (e_fk : G 16 = fk) (e_nd : G 31 = nd) (e_sy : G 19 = sy) (e_na : G 28 = na) (e_vi : G 29 = vi) (e_le : A 4 (ln).toNat = le) (e_op0 : G 15 = op0) (e_tk0 : G 11 = tk0) (e_ec : ecn A (G 31) = ec) (i_LT : LT G A) (i_SV : SV Vs sb G A) (i_PQ : PQ Vs sb pb G A) (p_0 : fk = 0) (p_1 : 1 ≤ nd) (p_2 : ln < li) (p_3 : at0 ≤ le) (p_4 : nd ≤ 2 * at0 - tz tk0 + 30) (p_5 : sy ≤ na + 2) (p_6 : vi ≤ sy) (p_7 : sb ≤ sy) (p_8 : PZ A) (p_9 : nd + 5 * ec ≤ 2 * at0 - tz tk0 + 30) : ∀ (m : Nat) (L : jL) (Gx : Nat → Int) (Ax : Nat → Nat → Int) (many ln1 at1 fk1 nd1 sy1 na1 lf1 ec1 : Int), (li - ln1).toNat = m → jGet L 0 = some (.ref 66) → jGet L 1 = some (.int (i32 many)) → Wk Gx Ax → Fr [9, 10, 11, 12, 13, 14, 15, 16, 17, 18, 19, 28, 29, 31] [6, 7, 8, 9, 10, 11, 12, 14, 15, 16, 17, 18, 19, 20, 21, 22, 23, 24, 28, 36] G A Gx Ax → Pf nd A Ax → Fx sr (sy) A Ax → Fx [14] (vi) A Ax → Gx 9 = ln1 → Gx 10 = at1 → Gx 16 = fk1 → Gx 31 = nd1 → Gx 19 = sy1 → Gx 28 = na1 → Ax 3 (ln1).toNat = lf1 → ecn Ax (Gx 31) = ec1 → Gx 29 = vi → ((-2147483648 : Int) ≤ many ∧ many ≤ 2147483647) → (fk1 = 0) → (at0 ≤ at1) → (nd ≤ nd1) → (sy ≤ sy1) → (sy1 ≤ na1 + 2) → (vi ≤ sy1) → (ln ≤ ln1) → (ln1 ≤ li) → (nd1 ≤ 2 * at1 + 31) → (at1 < lf1 ∨ li ≤ ln1) → (0 ≤ many ∧ many ≤ ln1) → (wB Ax Vs pb (nd) (nd1) (sy) (sy1)) → (nd + 5 * ec ≤ nd1) → (nd1 + 5 * ec1 ≤ 2 * at1 + 31) → wj X d jm311 (19, L, [], rV c0 c1 Gx Ax T) (fun o V' => ∃ (G' : Nat → Int) (A' : Nat → Nat → Int) (ln2 : Int) (at2 : Int) (fk2 : Int) (nd2 : Int) (sy2 : Int) (na2 : Int) (vi2 : Int) (lf2 : Int) (ec2 : Int), V' = rV c0 c1 G' A' T ∧ o = .inl none ∧ Wk G' A' ∧ Fr [9, 10, 11, 12, 13, 14, 15, 16, 17, 18, 19, 28, 29, 31] [6, 7, 8, 9, 10, 11, 12, 14, 15, 16, 17, 18, 19, 20, 21, 22, 23, 24, 28, 36] G A G' A' ∧ Pf nd A A' ∧ Fx sr (sy) A A' ∧ Fx [14] (vi) A A' ∧ G' 9 = ln2 ∧ G' 10 = at2 ∧ G' 16 = fk2 ∧ G' 31 = nd2 ∧ G' 19 = sy2 ∧ G' 28 = na2 ∧ G' 29 = vi2 ∧ A' 3 (ln2).toNat = lf2 ∧ ecn A' (G' 31) = ec2 ∧ (nd ≤ nd2) ∧ (sy ≤ sy2) ∧ (sy2 ≤ na2 + 2) ∧ (vi2 = vi) ∧ (ln ≤ ln2) ∧ (ln2 ≤ li) ∧ (((1 ≤ fk2)) ∨ ((fk2 = 0) ∧ (wB A' Vs pb (nd) (nd2) (sy) (sy2)) ∧ (nd2 + 5 * ec2 ≤ 6050)))) := by
  have hF0 : Fr [9, 10, 11, 12, 13, 14, 15, 16, 17, 18, 19, 28, 29, 31] [6, 7, 8, 9, 10, 11, 12, 14, 15, 16, 17, 18, 19, 20, 21, 22, 23, 24, 28, 36] G A G A := Fr_rf
  have hP0 : Pf nd A A := Pf_rf
  have hS0 : Fx sr (sy) A A := Fx_rf
  have hV0 : Fx [14] (vi) A A := Fx_rf
  have b_ln : (0 : Int) ≤ ln ∧ ln ≤ 3000 := e_ln ▸ hW.1 9
  have b_li : (0 : Int) ≤ li ∧ li ≤ 3000 := e_li ▸ hW.1 3
  have b_at0 : (0 : Int) ≤ at0 ∧ at0 ≤ 3002 := e_at0 ▸ hW.1 10
  have b_fk : (0 : Int) ≤ fk ∧ fk ≤ 6 := e_fk ▸ hW.1 16
  have b_nd : (0 : Int) ≤ nd ∧ nd ≤ 6999 := e_nd ▸ hW.1 31
  have b_sy : (0 : Int) ≤ sy ∧ sy ≤ 202 := e_sy ▸ hW.1 19
  have b_na : (0 : Int) ≤ na ∧ na ≤ 200 := e_na ▸ hW.1 28
  have b_vi : (0 : Int) ≤ vi ∧ vi ≤ 202 := e_vi ▸ hW.1 29
  have b_le : (0 : Int) ≤ le ∧ le ≤ 3000 := e_le ▸ hW.2 4 _
  have b_op0 : (-2147483648 : Int) ≤ op0 ∧ op0 ≤ 2147483647 := e_op0 ▸ hW.1 15
  have z_tk0 := tz_f tk0
  have b_tk0 : (0 : Int) ≤ tk0 ∧ tk0 ≤ 5 := e_tk0 ▸ hW.1 11
  intro m
  induction m using Nat.strongRecOn with
  | ind m ih19 =>
    intro L Gx Ax many ln1 at1 fk1 nd1 sy1 na1 lf1 ec1 hm gL_0 gL_1 hWx hFx hPx hSx hVx ex_ln1 ex_at1 ex_fk1 ex_nd1 ex_sy1 ex_na1 ex_lf1 ex_ec1 fx_29 rx_many iv_0 iv_1 iv_2 iv_3 iv_4 iv_5 iv_6 iv_7 iv_8 iv_9 iv_10 iv_11 iv_12 iv_13
    have b_ln1 : (0 : Int) ≤ ln1 ∧ ln1 ≤ 3000 := ex_ln1 ▸ hWx.1 9
    have b_at1 : (0 : Int) ≤ at1 ∧ at1 ≤ 3002 := ex_at1 ▸ hWx.1 10
    have b_fk1 : (0 : Int) ≤ fk1 ∧ fk1 ≤ 6 := ex_fk1 ▸ hWx.1 16
    have b_nd1 : (0 : Int) ≤ nd1 ∧ nd1 ≤ 6999 := ex_nd1 ▸ hWx.1 31
    have b_sy1 : (0 : Int) ≤ sy1 ∧ sy1 ≤ 202 := ex_sy1 ▸ hWx.1 19
    have b_na1 : (0 : Int) ≤ na1 ∧ na1 ≤ 200 := ex_na1 ▸ hWx.1 28
    refine jx_ld (pc' := 20) (l' := L) (st' := [.ref 66]) rfl (jl_aloadn gL_0) ?_
    refine jx_ar (pc' := 21) (st' := [.int (i32 (0)), .ref 66]) rfl rfl rfl rfl ?_
    have b1 : (-1 : Int) ≤ A 5 (ln1).toNat ∧ A 5 (ln1).toNat ≤ 15 := hW.2 5 _
    refine jx_vr (pc' := 24) (as := [.int (i32 (0))]) (st := []) rfl rfl rfl rfl ⟨rfl, rfl, Nat.le_of_ble_eq_true rfl⟩ rfl rfl (c_isBelow (dd := d) (hd := by omega) (hW := hWx) (lv := 0) (ln := ln1) (e_ln := show Gx 9 = ln1 from (ex_ln1)) (li := li) (e_li := show Gx 3 = li from ((hFx.1 3 rfl).trans (e_li))) (fk := fk1) (e_fk := show Gx 16 = fk1 from (ex_fk1)) (ll := A 5 (ln1).toNat) (e_ll := show Ax 5 (ln1).toNat = A 5 (ln1).toNat from (congrFun (hFx.2 5 rfl) _))  (h_lv := ⟨(by decide), (by decide)⟩)  (p_0 := by omega)) (fun o V' hq => ?_)
    obtain ⟨G2, A3, r4, fk2_5, rfl, rfl, hW6, hF7, b8, e9, q10⟩ := hq
    have hF11 := Fr_tr hFx hF7 (Fr_sub (by decide)) (Fr_sub (by decide))
    have hP12 := Pf_f hPx hF7 (by decide)
    have hS13 := Fx_f hSx hF7 (by decide)
    have hV14 := Fx_f hVx hF7 (by decide)
    have sf15 : wB A3 Vs pb (nd) (nd1) (sy) (sy1) := (show A3 = Ax from funext (fun k => hF7.2 k rfl)) ▸ iv_11
    have ec16 : ecn A3 (G2 31) = ec1 := (ecn_f (hF7.2 15 rfl) (hF7.1 31 rfl)).trans ex_ec1
    have bfk2_5 : (0 : Int) ≤ fk2_5 ∧ fk2_5 ≤ 6 := e9 ▸ hW6.1 16
    refine .inr ⟨_, rfl, ?_⟩
    rcases q10 with ⟨rfl, a17, a18, a19, a20⟩ | ⟨rfl, a21⟩ | ⟨rfl, a22, a23, a24⟩
    · have _q : True := trivial
      have b25 : (0 : Int) ≤ A 4 (ln1).toNat ∧ A 4 (ln1).toNat ≤ 3000 := hW.2 4 _
      have lt26 : lf1 < A 4 (ln1).toNat := LT_at (LT_ext (((hF7.1 3 rfl).trans (hFx.1 3 rfl))) (((hF7.2 3 rfl).trans (hFx.2 3 rfl))) (((hF7.2 4 rfl).trans (hFx.2 4 rfl))) i_LT) (show G2 3 = li from ((hF7.1 3 rfl).trans ((hFx.1 3 rfl).trans (e_li)))) (show A3 3 (ln1).toNat = lf1 from (congrFun (hF7.2 3 rfl) _).trans (ex_lf1)) (show A3 4 (ln1).toNat = A 4 (ln1).toNat from (congrFun ((hF7.2 4 rfl).trans (hFx.2 4 rfl)) _)) (by omega) (by omega)
      refine jx_if_eq (pc' := 27) (tg := 125) rfl rfl rfl (by decide) (by decide) (fun h27 => ?_) (fun h27 => ?_)
      · have _q := h27
        exact absurd h27 (by omega)
      · have _q := h27
        refine jx_ld (pc' := 28) (l' := L) (st' := [.ref 66]) rfl (jl_aloadn gL_0) ?_
        refine jx_vr (pc' := 31) (as := []) (st := []) rfl rfl rfl rfl ⟨rfl, rfl, Nat.le_of_ble_eq_true rfl⟩ rfl rfl (c_openLine (dd := d) (hd := by omega) (hW := hW6)  (ln := ln1) (e_ln := show G2 9 = ln1 from ((hF7.1 9 rfl).trans (ex_ln1))) (le := A 4 (ln1).toNat) (e_le := show A3 4 (ln1).toNat = A 4 (ln1).toNat from (congrFun ((hF7.2 4 rfl).trans (hFx.2 4 rfl)) _)) (lf := lf1) (e_lf := show A3 3 (ln1).toNat = lf1 from (congrFun (hF7.2 3 rfl) _).trans (ex_lf1))    (p_0 := by omega)) (fun o V' hq => ?_)
        obtain ⟨G28, A29, at2_30, tk2_31, op2_32, rfl, rfl, hW33, hF34, e35, e36, e37, p38, p39, p40, p41, -⟩ := hq
        have hF43 := Fr_tr hF11 hF34 (Fr_sub (by decide)) (Fr_sub (by decide))
        have hP44 := Pf_f hP12 hF34 (by decide)
        have hS45 := Fx_f hS13 hF34 (by decide)
        have hV46 := Fx_f hV14 hF34 (by decide)
        have sf47 : wB A29 Vs pb (nd) (nd1) (sy) (sy1) := (show A29 = A3 from funext (fun k => hF34.2 k rfl)) ▸ sf15
        have ec48 : ecn A29 (G28 31) = ec1 := (ecn_f (hF34.2 15 rfl) (hF34.1 31 rfl)).trans ec16
        have bat2_30 : (0 : Int) ≤ at2_30 ∧ at2_30 ≤ 3002 := e35 ▸ hW33.1 10
        have ztk2_31 := tz_b tk2_31
        have btk2_31 : (0 : Int) ≤ tk2_31 ∧ tk2_31 ≤ 5 := e36 ▸ hW33.1 11
        have bop2_32 : (-2147483648 : Int) ≤ op2_32 ∧ op2_32 ≤ 2147483647 := e37 ▸ hW33.1 15
        refine .inl ⟨rfl, ?_⟩
        refine jx_ld (pc' := 32) (l' := L) (st' := [.ref 66]) rfl (jl_aloadn gL_0) ?_
        refine jx_ld (pc' := 33) (l' := L) (st' := [.ref 66, .ref 66]) rfl (jl_aloadn gL_0) ?_
        refine jx_ar (pc' := 35) (st' := [.int (i32 (20)), .ref 66, .ref 66]) rfl rfl rfl rfl ?_
        have b49 : (-2147483648 : Int) ≤ G28 13 ∧ G28 13 ≤ 2147483647 := hW33.1 13
        refine jx_vr (pc' := 38) (as := [.int (i32 (20))]) (st := [.ref 66]) rfl rfl rfl rfl ⟨rfl, rfl, Nat.le_of_ble_eq_true rfl⟩ rfl rfl (c_isKey (dd := d) (hd := by omega) (hW := hW33) (k := 20) (tk := tk2_31) (e_tk := show G28 11 = tk2_31 from (e36)) (tn := G28 13) (e_tn := show G28 13 = G28 13 from rfl)  (h_k := ⟨(by decide), (by decide)⟩)  ) (fun o V' hq => ?_)
        obtain ⟨r50, rfl, rfl, b51, q52⟩ := hq
        refine .inr ⟨_, rfl, ?_⟩
        rcases q52 with ⟨rfl, a53, a54, a55⟩ | rfl
        · have _q : True := trivial
          refine jx_vr (pc' := 41) (as := [.int (i32 (1))]) (st := []) rfl rfl rfl rfl ⟨rfl, rfl, Nat.le_of_ble_eq_true rfl⟩ rfl rfl (c_need (dd := d) (hd := by omega) (hW := hW33) (g := 1) (ln := ln1) (e_ln := show G28 9 = ln1 from ((hF34.1 9 rfl).trans ((hF7.1 9 rfl).trans (ex_ln1)))) (le := A 4 (ln1).toNat) (e_le := show A29 4 (ln1).toNat = A 4 (ln1).toNat from (congrFun ((hF34.2 4 rfl).trans ((hF7.2 4 rfl).trans (hFx.2 4 rfl))) _)) (at0 := at2_30) (e_at0 := show G28 10 = at2_30 from (e35)) (fk := fk2_5) (e_fk := show G28 16 = fk2_5 from ((hF34.1 16 rfl).trans (e9))) (tk0 := tk2_31) (e_tk0 := show G28 11 = tk2_31 from (e36))  (h_g := ⟨(by decide), (by decide)⟩)  (p_0 := by omega)) (fun o V' hq => ?_)
          obtain ⟨G56, A57, at2_58, tk2_59, fk2_60, rfl, rfl, hW61, hF62, e63, e64, e65, p66, p67, q68⟩ := hq
          have hF69 := Fr_tr hF43 hF62 (Fr_sub (by decide)) (Fr_sub (by decide))
          have hP70 := Pf_f hP44 hF62 (by decide)
          have hS71 := Fx_f hS45 hF62 (by decide)
          have hV72 := Fx_f hV46 hF62 (by decide)
          have sf73 : wB A57 Vs pb (nd) (nd1) (sy) (sy1) := (show A57 = A29 from funext (fun k => hF62.2 k rfl)) ▸ sf47
          have ec74 : ecn A57 (G56 31) = ec1 := (ecn_f (hF62.2 15 rfl) (hF62.1 31 rfl)).trans ec48
          have bat2_58 : (0 : Int) ≤ at2_58 ∧ at2_58 ≤ 3002 := e63 ▸ hW61.1 10
          have ztk2_59 := tz_b tk2_59
          have btk2_59 : (0 : Int) ≤ tk2_59 ∧ tk2_59 ≤ 5 := e64 ▸ hW61.1 11
          have bfk2_60 : (0 : Int) ≤ fk2_60 ∧ fk2_60 ≤ 6 := e65 ▸ hW61.1 16
          refine .inl ⟨rfl, ?_⟩
          rcases q68 with ⟨a75, a76, a77, a78⟩ | ⟨a79, a80, a81, a82⟩
          · have _q : True := trivial
            refine jx_ld (pc' := 42) (l' := L) (st' := [.ref 66]) rfl (jl_aloadn gL_0) ?_
            refine jx_vr (pc' := 45) (as := []) (st := []) rfl rfl rfl rfl ⟨rfl, rfl, Nat.le_of_ble_eq_true rfl⟩ rfl rfl (c_bad (dd := d) (hd := by omega) (hW := hW61)  (fk := fk2_60) (e_fk := show G56 16 = fk2_60 from (e65))    ) (fun o V' hq => ?_)
            obtain ⟨r83, rfl, rfl, b84, q85⟩ := hq
            refine .inr ⟨_, rfl, ?_⟩
            rcases q85 with ⟨rfl, a86⟩ | ⟨rfl, a87⟩
            · have _q : True := trivial
              refine jx_if_ne (pc' := 48) (tg := 89) rfl rfl rfl (by decide) (by decide) (fun h88 => ?_) (fun h88 => ?_)
              · have _q := h88
                refine jx_ld (pc' := 90) (l' := L) (st' := [.ref 66]) rfl (jl_aloadn gL_0) ?_
                refine jx_ar (pc' := 91) (st' := [.int (i32 (0)), .ref 66]) rfl rfl rfl rfl ?_
                refine jx_ar (pc' := 92) (st' := [.int (i32 (5)), .int (i32 (0)), .ref 66]) rfl rfl rfl rfl ?_
                have b89 : (-2147483648 : Int) ≤ G56 13 ∧ G56 13 ≤ 2147483647 := hW61.1 13
                refine jx_vr (pc' := 95) (as := [.int (i32 (0)), .int (i32 (5))]) (st := []) rfl rfl rfl rfl ⟨rfl, rfl, Nat.le_of_ble_eq_true rfl⟩ rfl rfl (c_needNumber2 (dd := d) (hd := by omega) (hW := hW61) (lo := 0) (hi := 5) (ln := ln1) (e_ln := show G56 9 = ln1 from ((hF62.1 9 rfl).trans ((hF34.1 9 rfl).trans ((hF7.1 9 rfl).trans (ex_ln1))))) (le := A 4 (ln1).toNat) (e_le := show A57 4 (ln1).toNat = A 4 (ln1).toNat from (congrFun ((hF62.2 4 rfl).trans ((hF34.2 4 rfl).trans ((hF7.2 4 rfl).trans (hFx.2 4 rfl)))) _)) (at0 := at2_58) (e_at0 := show G56 10 = at2_58 from (e63)) (fk := fk2_60) (e_fk := show G56 16 = fk2_60 from (e65)) (tk0 := tk2_59) (e_tk0 := show G56 11 = tk2_59 from (e64)) (tn := G56 13) (e_tn := show G56 13 = G56 13 from rfl)  (h_lo := ⟨(by decide), (by decide)⟩) (h_hi := ⟨(by decide), (by decide)⟩)  (p_0 := by omega)) (fun o V' hq => ?_)
                obtain ⟨G90, A91, r92, at2_93, tk2_94, fk2_95, rfl, rfl, hW96, hF97, b98, e99, e100, e101, p102, p103, q104⟩ := hq
                have hF105 := Fr_tr hF69 hF97 (Fr_sub (by decide)) (Fr_sub (by decide))
                have hP106 := Pf_f hP70 hF97 (by decide)
                have hS107 := Fx_f hS71 hF97 (by decide)
                have hV108 := Fx_f hV72 hF97 (by decide)
                have sf109 : wB A91 Vs pb (nd) (nd1) (sy) (sy1) := (show A91 = A57 from funext (fun k => hF97.2 k rfl)) ▸ sf73
                have ec110 : ecn A91 (G90 31) = ec1 := (ecn_f (hF97.2 15 rfl) (hF97.1 31 rfl)).trans ec74
                have bat2_93 : (0 : Int) ≤ at2_93 ∧ at2_93 ≤ 3002 := e99 ▸ hW96.1 10
                have ztk2_94 := tz_b tk2_94
                have btk2_94 : (0 : Int) ≤ tk2_94 ∧ tk2_94 ≤ 5 := e100 ▸ hW96.1 11
                have bfk2_95 : (0 : Int) ≤ fk2_95 ∧ fk2_95 ≤ 6 := e101 ▸ hW96.1 16
                refine .inr ⟨_, rfl, ?_⟩
                rcases q104 with ⟨a111, a112, a113, a114⟩ | ⟨a115, a116, a117, a118, a119, a120, a121⟩
                · have _q : True := trivial
                  refine jx_ld (pc' := 96) (l' := jSto1 L 2 (.int (i32 (r92)))) (st' := []) rfl rfl ?_
                  obtain ⟨L122, eL122⟩ : ∃ q, q = jSto1 L 2 (.int (i32 (r92))) := ⟨_, rfl⟩
                  rw [← eL122]
                  have gL122_0 : jGet L122 0 = some (.ref 66) := eL122 ▸ jg_ne (by decide) gL_0 rfl
                  have gL122_1 : jGet L122 1 = some (.int (i32 (many))) := eL122 ▸ jg_ne (by decide) gL_1 rfl
                  have gL122_2 : jGet L122 2 = some (.int (i32 (r92))) := eL122 ▸ jg_eq
                  refine jx_ld (pc' := 97) (l' := L122) (st' := [.ref 66]) rfl (jl_aloadn gL122_0) ?_
                  refine jx_vr (pc' := 100) (as := []) (st := []) rfl rfl rfl rfl ⟨rfl, rfl, Nat.le_of_ble_eq_true rfl⟩ rfl rfl (c_endLine (dd := d) (hd := by omega) (hW := hW96)  (ln := ln1) (e_ln := show G90 9 = ln1 from ((hF97.1 9 rfl).trans ((hF62.1 9 rfl).trans ((hF34.1 9 rfl).trans ((hF7.1 9 rfl).trans (ex_ln1)))))) (li := li) (e_li := show G90 3 = li from ((hF97.1 3 rfl).trans ((hF62.1 3 rfl).trans ((hF34.1 3 rfl).trans ((hF7.1 3 rfl).trans ((hFx.1 3 rfl).trans (e_li))))))) (fk := fk2_95) (e_fk := show G90 16 = fk2_95 from (e101)) (tk0 := tk2_94) (e_tk0 := show G90 11 = tk2_94 from (e100))    (p_0 := by omega)) (fun o V' hq => ?_)
                  obtain ⟨G123, A124, ln2_125, fk2_126, rfl, rfl, hW127, hF128, e129, e130, q131⟩ := hq
                  have hF132 := Fr_tr hF105 hF128 (Fr_sub (by decide)) (Fr_sub (by decide))
                  have hP133 := Pf_f hP106 hF128 (by decide)
                  have hS134 := Fx_f hS107 hF128 (by decide)
                  have hV135 := Fx_f hV108 hF128 (by decide)
                  have sf136 : wB A124 Vs pb (nd) (nd1) (sy) (sy1) := (show A124 = A91 from funext (fun k => hF128.2 k rfl)) ▸ sf109
                  have ec137 : ecn A124 (G123 31) = ec1 := (ecn_f (hF128.2 15 rfl) (hF128.1 31 rfl)).trans ec110
                  have bln2_125 : (0 : Int) ≤ ln2_125 ∧ ln2_125 ≤ 3000 := e129 ▸ hW127.1 9
                  have bfk2_126 : (0 : Int) ≤ fk2_126 ∧ fk2_126 ≤ 6 := e130 ▸ hW127.1 16
                  refine .inl ⟨rfl, ?_⟩
                  rcases q131 with ⟨a138, a139, a140, a141, a142⟩ | ⟨a143, a144⟩
                  · have _q : True := trivial
                    exfalso
                    omega
                  · have _q : True := trivial
                    refine jx_ld (pc' := 101) (l' := L122) (st' := [.ref 66]) rfl (jl_aloadn gL122_0) ?_
                    refine jx_vr (pc' := 104) (as := []) (st := []) rfl rfl rfl rfl ⟨rfl, rfl, Nat.le_of_ble_eq_true rfl⟩ rfl rfl (c_bad (dd := d) (hd := by omega) (hW := hW127)  (fk := fk2_126) (e_fk := show G123 16 = fk2_126 from (e130))    ) (fun o V' hq => ?_)
                    obtain ⟨r145, rfl, rfl, b146, q147⟩ := hq
                    refine .inr ⟨_, rfl, ?_⟩
                    rcases q147 with ⟨rfl, a148⟩ | ⟨rfl, a149⟩
                    · have _q : True := trivial
                      refine jx_if_eq (pc' := 107) (tg := 108) rfl rfl rfl (by decide) (by decide) (fun h150 => ?_) (fun h150 => ?_)
                      · have _q := h150
                        exact absurd h150 (by omega)
                      · have _q := h150
                        refine jx_rt (v := none) rfl rfl rfl rfl rfl rfl ?_
                        exact ⟨_, _, ln2_125, at2_93, fk2_126, nd1, sy1, na1, vi, A 3 (ln2_125).toNat, ec1, rfl, rfl, hW127, hF132, hP133, hS134, hV135, (e129), ((hF128.1 10 rfl).trans (e99)), (e130), ((hF128.1 31 rfl).trans ((hF97.1 31 rfl).trans ((hF62.1 31 rfl).trans ((hF34.1 31 rfl).trans ((hF7.1 31 rfl).trans (ex_nd1)))))), ((hF128.1 19 rfl).trans ((hF97.1 19 rfl).trans ((hF62.1 19 rfl).trans ((hF34.1 19 rfl).trans ((hF7.1 19 rfl).trans (ex_sy1)))))), ((hF128.1 28 rfl).trans ((hF97.1 28 rfl).trans ((hF62.1 28 rfl).trans ((hF34.1 28 rfl).trans ((hF7.1 28 rfl).trans (ex_na1)))))), ((hF128.1 29 rfl).trans ((hF97.1 29 rfl).trans ((hF62.1 29 rfl).trans ((hF34.1 29 rfl).trans ((hF7.1 29 rfl).trans (fx_29)))))), (congrFun ((hF128.2 3 rfl).trans ((hF97.2 3 rfl).trans ((hF62.2 3 rfl).trans ((hF34.2 3 rfl).trans ((hF7.2 3 rfl).trans (hFx.2 3 rfl)))))) _), ec137, by omega, by omega, by omega, by omega, by omega, by omega, by first | exact Or.inl (by omega)⟩
                    · have _q : True := trivial
                      exfalso
                      omega
                · have _q : True := trivial
                  exfalso
                  omega
              · have _q := h88
                exact absurd h88 (by omega)
            · have _q : True := trivial
              exfalso
              omega
          · have _q : True := trivial
            refine jx_ld (pc' := 42) (l' := L) (st' := [.ref 66]) rfl (jl_aloadn gL_0) ?_
            refine jx_vr (pc' := 45) (as := []) (st := []) rfl rfl rfl rfl ⟨rfl, rfl, Nat.le_of_ble_eq_true rfl⟩ rfl rfl (c_bad (dd := d) (hd := by omega) (hW := hW61)  (fk := fk2_60) (e_fk := show G56 16 = fk2_60 from (e65))    ) (fun o V' hq => ?_)
            obtain ⟨r151, rfl, rfl, b152, q153⟩ := hq
            refine .inr ⟨_, rfl, ?_⟩
            rcases q153 with ⟨rfl, a154⟩ | ⟨rfl, a155⟩
            · have _q : True := trivial
              exfalso
              omega
            · have _q : True := trivial
              refine jx_if_ne (pc' := 48) (tg := 89) rfl rfl rfl (by decide) (by decide) (fun h156 => ?_) (fun h156 => ?_)
              · have _q := h156
                exact absurd h156 (by omega)
              · have _q := h156
                refine jx_ld (pc' := 49) (l' := L) (st' := [.ref 66]) rfl (jl_aloadn gL_0) ?_
                have z157 := tz_f (tk2_59)
                refine jr_get (pc' := 52) (i := 11) (v := .int (i32 (tk2_59))) rfl rfl (by decide) (rFv_eq (by decide) (show G56 11 = tk2_59 from (e64))) rfl ?_
                refine jx_ar (pc' := 53) (st' := [.int (i32 (3)), .int (i32 (tk2_59))]) rfl rfl rfl rfl ?_
                refine jx_icmp_ne (pc' := 56) (tg := 89) rfl rfl rfl (Int.le_trans (by decide : (-2147483648 : Int) ≤ 0) btk2_59.1) (Int.le_trans btk2_59.2 (by decide : (5 : Int) ≤ 2147483647)) (by decide) (by decide) (fun h158 => ?_) (fun h158 => ?_)
                · have _q := h158
                  refine jx_ld (pc' := 90) (l' := L) (st' := [.ref 66]) rfl (jl_aloadn gL_0) ?_
                  refine jx_ar (pc' := 91) (st' := [.int (i32 (0)), .ref 66]) rfl rfl rfl rfl ?_
                  refine jx_ar (pc' := 92) (st' := [.int (i32 (5)), .int (i32 (0)), .ref 66]) rfl rfl rfl rfl ?_
                  have b159 : (-2147483648 : Int) ≤ G56 13 ∧ G56 13 ≤ 2147483647 := hW61.1 13
                  refine jx_vr (pc' := 95) (as := [.int (i32 (0)), .int (i32 (5))]) (st := []) rfl rfl rfl rfl ⟨rfl, rfl, Nat.le_of_ble_eq_true rfl⟩ rfl rfl (c_needNumber2 (dd := d) (hd := by omega) (hW := hW61) (lo := 0) (hi := 5) (ln := ln1) (e_ln := show G56 9 = ln1 from ((hF62.1 9 rfl).trans ((hF34.1 9 rfl).trans ((hF7.1 9 rfl).trans (ex_ln1))))) (le := A 4 (ln1).toNat) (e_le := show A57 4 (ln1).toNat = A 4 (ln1).toNat from (congrFun ((hF62.2 4 rfl).trans ((hF34.2 4 rfl).trans ((hF7.2 4 rfl).trans (hFx.2 4 rfl)))) _)) (at0 := at2_58) (e_at0 := show G56 10 = at2_58 from (e63)) (fk := fk2_60) (e_fk := show G56 16 = fk2_60 from (e65)) (tk0 := tk2_59) (e_tk0 := show G56 11 = tk2_59 from (e64)) (tn := G56 13) (e_tn := show G56 13 = G56 13 from rfl)  (h_lo := ⟨(by decide), (by decide)⟩) (h_hi := ⟨(by decide), (by decide)⟩)  (p_0 := by omega)) (fun o V' hq => ?_)
                  obtain ⟨G160, A161, r162, at2_163, tk2_164, fk2_165, rfl, rfl, hW166, hF167, b168, e169, e170, e171, p172, p173, q174⟩ := hq
                  have hF175 := Fr_tr hF69 hF167 (Fr_sub (by decide)) (Fr_sub (by decide))
                  have hP176 := Pf_f hP70 hF167 (by decide)
                  have hS177 := Fx_f hS71 hF167 (by decide)
                  have hV178 := Fx_f hV72 hF167 (by decide)
                  have sf179 : wB A161 Vs pb (nd) (nd1) (sy) (sy1) := (show A161 = A57 from funext (fun k => hF167.2 k rfl)) ▸ sf73
                  have ec180 : ecn A161 (G160 31) = ec1 := (ecn_f (hF167.2 15 rfl) (hF167.1 31 rfl)).trans ec74
                  have bat2_163 : (0 : Int) ≤ at2_163 ∧ at2_163 ≤ 3002 := e169 ▸ hW166.1 10
                  have ztk2_164 := tz_b tk2_164
                  have btk2_164 : (0 : Int) ≤ tk2_164 ∧ tk2_164 ≤ 5 := e170 ▸ hW166.1 11
                  have bfk2_165 : (0 : Int) ≤ fk2_165 ∧ fk2_165 ≤ 6 := e171 ▸ hW166.1 16
                  refine .inr ⟨_, rfl, ?_⟩
                  rcases q174 with ⟨a181, a182, a183, a184⟩ | ⟨a185, a186, a187, a188, a189, a190, a191⟩
                  · have _q : True := trivial
                    refine jx_ld (pc' := 96) (l' := jSto1 L 2 (.int (i32 (r162)))) (st' := []) rfl rfl ?_
                    obtain ⟨L192, eL192⟩ : ∃ q, q = jSto1 L 2 (.int (i32 (r162))) := ⟨_, rfl⟩
                    rw [← eL192]
                    have gL192_0 : jGet L192 0 = some (.ref 66) := eL192 ▸ jg_ne (by decide) gL_0 rfl
                    have gL192_1 : jGet L192 1 = some (.int (i32 (many))) := eL192 ▸ jg_ne (by decide) gL_1 rfl
                    have gL192_2 : jGet L192 2 = some (.int (i32 (r162))) := eL192 ▸ jg_eq
                    refine jx_ld (pc' := 97) (l' := L192) (st' := [.ref 66]) rfl (jl_aloadn gL192_0) ?_
                    refine jx_vr (pc' := 100) (as := []) (st := []) rfl rfl rfl rfl ⟨rfl, rfl, Nat.le_of_ble_eq_true rfl⟩ rfl rfl (c_endLine (dd := d) (hd := by omega) (hW := hW166)  (ln := ln1) (e_ln := show G160 9 = ln1 from ((hF167.1 9 rfl).trans ((hF62.1 9 rfl).trans ((hF34.1 9 rfl).trans ((hF7.1 9 rfl).trans (ex_ln1)))))) (li := li) (e_li := show G160 3 = li from ((hF167.1 3 rfl).trans ((hF62.1 3 rfl).trans ((hF34.1 3 rfl).trans ((hF7.1 3 rfl).trans ((hFx.1 3 rfl).trans (e_li))))))) (fk := fk2_165) (e_fk := show G160 16 = fk2_165 from (e171)) (tk0 := tk2_164) (e_tk0 := show G160 11 = tk2_164 from (e170))    (p_0 := by omega)) (fun o V' hq => ?_)
                    obtain ⟨G193, A194, ln2_195, fk2_196, rfl, rfl, hW197, hF198, e199, e200, q201⟩ := hq
                    have hF202 := Fr_tr hF175 hF198 (Fr_sub (by decide)) (Fr_sub (by decide))
                    have hP203 := Pf_f hP176 hF198 (by decide)
                    have hS204 := Fx_f hS177 hF198 (by decide)
                    have hV205 := Fx_f hV178 hF198 (by decide)
                    have sf206 : wB A194 Vs pb (nd) (nd1) (sy) (sy1) := (show A194 = A161 from funext (fun k => hF198.2 k rfl)) ▸ sf179
                    have ec207 : ecn A194 (G193 31) = ec1 := (ecn_f (hF198.2 15 rfl) (hF198.1 31 rfl)).trans ec180
                    have bln2_195 : (0 : Int) ≤ ln2_195 ∧ ln2_195 ≤ 3000 := e199 ▸ hW197.1 9
                    have bfk2_196 : (0 : Int) ≤ fk2_196 ∧ fk2_196 ≤ 6 := e200 ▸ hW197.1 16
                    refine .inl ⟨rfl, ?_⟩
                    rcases q201 with ⟨a208, a209, a210, a211, a212⟩ | ⟨a213, a214⟩
                    · have _q : True := trivial
                      exfalso
                      omega
                    · have _q : True := trivial
                      refine jx_ld (pc' := 101) (l' := L192) (st' := [.ref 66]) rfl (jl_aloadn gL192_0) ?_
                      refine jx_vr (pc' := 104) (as := []) (st := []) rfl rfl rfl rfl ⟨rfl, rfl, Nat.le_of_ble_eq_true rfl⟩ rfl rfl (c_bad (dd := d) (hd := by omega) (hW := hW197)  (fk := fk2_196) (e_fk := show G193 16 = fk2_196 from (e200))    ) (fun o V' hq => ?_)
                      obtain ⟨r215, rfl, rfl, b216, q217⟩ := hq
                      refine .inr ⟨_, rfl, ?_⟩
                      rcases q217 with ⟨rfl, a218⟩ | ⟨rfl, a219⟩
                      · have _q : True := trivial
                        refine jx_if_eq (pc' := 107) (tg := 108) rfl rfl rfl (by decide) (by decide) (fun h220 => ?_) (fun h220 => ?_)
                        · have _q := h220
                          exact absurd h220 (by omega)
                        · have _q := h220
                          refine jx_rt (v := none) rfl rfl rfl rfl rfl rfl ?_
                          exact ⟨_, _, ln2_195, at2_163, fk2_196, nd1, sy1, na1, vi, A 3 (ln2_195).toNat, ec1, rfl, rfl, hW197, hF202, hP203, hS204, hV205, (e199), ((hF198.1 10 rfl).trans (e169)), (e200), ((hF198.1 31 rfl).trans ((hF167.1 31 rfl).trans ((hF62.1 31 rfl).trans ((hF34.1 31 rfl).trans ((hF7.1 31 rfl).trans (ex_nd1)))))), ((hF198.1 19 rfl).trans ((hF167.1 19 rfl).trans ((hF62.1 19 rfl).trans ((hF34.1 19 rfl).trans ((hF7.1 19 rfl).trans (ex_sy1)))))), ((hF198.1 28 rfl).trans ((hF167.1 28 rfl).trans ((hF62.1 28 rfl).trans ((hF34.1 28 rfl).trans ((hF7.1 28 rfl).trans (ex_na1)))))), ((hF198.1 29 rfl).trans ((hF167.1 29 rfl).trans ((hF62.1 29 rfl).trans ((hF34.1 29 rfl).trans ((hF7.1 29 rfl).trans (fx_29)))))), (congrFun ((hF198.2 3 rfl).trans ((hF167.2 3 rfl).trans ((hF62.2 3 rfl).trans ((hF34.2 3 rfl).trans ((hF7.2 3 rfl).trans (hFx.2 3 rfl)))))) _), ec207, by omega, by omega, by omega, by omega, by omega, by omega, by first | exact Or.inl (by omega)⟩
                      · have _q : True := trivial
                        exfalso
                        omega
                  · have _q : True := trivial
                    refine jx_ld (pc' := 96) (l' := jSto1 L 2 (.int (i32 (r162)))) (st' := []) rfl rfl ?_
                    obtain ⟨L221, eL221⟩ : ∃ q, q = jSto1 L 2 (.int (i32 (r162))) := ⟨_, rfl⟩
                    rw [← eL221]
                    have gL221_0 : jGet L221 0 = some (.ref 66) := eL221 ▸ jg_ne (by decide) gL_0 rfl
                    have gL221_1 : jGet L221 1 = some (.int (i32 (many))) := eL221 ▸ jg_ne (by decide) gL_1 rfl
                    have gL221_2 : jGet L221 2 = some (.int (i32 (r162))) := eL221 ▸ jg_eq
                    refine jx_ld (pc' := 97) (l' := L221) (st' := [.ref 66]) rfl (jl_aloadn gL221_0) ?_
                    refine jx_vr (pc' := 100) (as := []) (st := []) rfl rfl rfl rfl ⟨rfl, rfl, Nat.le_of_ble_eq_true rfl⟩ rfl rfl (c_endLine (dd := d) (hd := by omega) (hW := hW166)  (ln := ln1) (e_ln := show G160 9 = ln1 from ((hF167.1 9 rfl).trans ((hF62.1 9 rfl).trans ((hF34.1 9 rfl).trans ((hF7.1 9 rfl).trans (ex_ln1)))))) (li := li) (e_li := show G160 3 = li from ((hF167.1 3 rfl).trans ((hF62.1 3 rfl).trans ((hF34.1 3 rfl).trans ((hF7.1 3 rfl).trans ((hFx.1 3 rfl).trans (e_li))))))) (fk := fk2_165) (e_fk := show G160 16 = fk2_165 from (e171)) (tk0 := tk2_164) (e_tk0 := show G160 11 = tk2_164 from (e170))    (p_0 := by omega)) (fun o V' hq => ?_)
                    obtain ⟨G222, A223, ln2_224, fk2_225, rfl, rfl, hW226, hF227, e228, e229, q230⟩ := hq
                    have hF231 := Fr_tr hF175 hF227 (Fr_sub (by decide)) (Fr_sub (by decide))
                    have hP232 := Pf_f hP176 hF227 (by decide)
                    have hS233 := Fx_f hS177 hF227 (by decide)
                    have hV234 := Fx_f hV178 hF227 (by decide)
                    have sf235 : wB A223 Vs pb (nd) (nd1) (sy) (sy1) := (show A223 = A161 from funext (fun k => hF227.2 k rfl)) ▸ sf179
                    have ec236 : ecn A223 (G222 31) = ec1 := (ecn_f (hF227.2 15 rfl) (hF227.1 31 rfl)).trans ec180
                    have bln2_224 : (0 : Int) ≤ ln2_224 ∧ ln2_224 ≤ 3000 := e228 ▸ hW226.1 9
                    have bfk2_225 : (0 : Int) ≤ fk2_225 ∧ fk2_225 ≤ 6 := e229 ▸ hW226.1 16
                    refine .inl ⟨rfl, ?_⟩
                    rcases q230 with ⟨a237, a238, a239, a240, a241⟩ | ⟨a242, a243⟩
                    · have _q : True := trivial
                      have b244 : (0 : Int) ≤ A 3 (ln2_224).toNat ∧ A 3 (ln2_224).toNat ≤ 3000 := hW.2 3 _
                      have lt245 : ln2_224 < li → A 4 (ln1).toNat < A 3 (ln2_224).toNat := fun hh => LT_nx (LT_ext (((hF227.1 3 rfl).trans ((hF167.1 3 rfl).trans ((hF62.1 3 rfl).trans ((hF34.1 3 rfl).trans ((hF7.1 3 rfl).trans (hFx.1 3 rfl))))))) (((hF227.2 3 rfl).trans ((hF167.2 3 rfl).trans ((hF62.2 3 rfl).trans ((hF34.2 3 rfl).trans ((hF7.2 3 rfl).trans (hFx.2 3 rfl))))))) (((hF227.2 4 rfl).trans ((hF167.2 4 rfl).trans ((hF62.2 4 rfl).trans ((hF34.2 4 rfl).trans ((hF7.2 4 rfl).trans (hFx.2 4 rfl))))))) i_LT) (show G222 3 = li from ((hF227.1 3 rfl).trans ((hF167.1 3 rfl).trans ((hF62.1 3 rfl).trans ((hF34.1 3 rfl).trans ((hF7.1 3 rfl).trans ((hFx.1 3 rfl).trans (e_li)))))))) (show A223 4 (ln1).toNat = A 4 (ln1).toNat from (congrFun ((hF227.2 4 rfl).trans ((hF167.2 4 rfl).trans ((hF62.2 4 rfl).trans ((hF34.2 4 rfl).trans ((hF7.2 4 rfl).trans (hFx.2 4 rfl)))))) _)) (show A223 3 (ln2_224).toNat = A 3 (ln2_224).toNat from (congrFun ((hF227.2 3 rfl).trans ((hF167.2 3 rfl).trans ((hF62.2 3 rfl).trans ((hF34.2 3 rfl).trans ((hF7.2 3 rfl).trans (hFx.2 3 rfl)))))) _)) (show ln2_224 = ln1 + 1 by omega) (by omega) hh
                      refine jx_ld (pc' := 101) (l' := L221) (st' := [.ref 66]) rfl (jl_aloadn gL221_0) ?_
                      refine jx_vr (pc' := 104) (as := []) (st := []) rfl rfl rfl rfl ⟨rfl, rfl, Nat.le_of_ble_eq_true rfl⟩ rfl rfl (c_bad (dd := d) (hd := by omega) (hW := hW226)  (fk := fk2_225) (e_fk := show G222 16 = fk2_225 from (e229))    ) (fun o V' hq => ?_)
                      obtain ⟨r246, rfl, rfl, b247, q248⟩ := hq
                      refine .inr ⟨_, rfl, ?_⟩
                      rcases q248 with ⟨rfl, a249⟩ | ⟨rfl, a250⟩
                      · have _q : True := trivial
                        exfalso
                        omega
                      · have _q : True := trivial
                        refine jx_if_eq (pc' := 107) (tg := 108) rfl rfl rfl (by decide) (by decide) (fun h251 => ?_) (fun h251 => ?_)
                        · have _q := h251
                          refine jx_ld (pc' := 109) (l' := L221) (st' := [.ref 66]) rfl (jl_aloadn gL221_0) ?_
                          refine jr_get (pc' := 112) (i := 55) (v := .ref 103) rfl rfl (by decide) rfl rfl ?_
                          refine jx_ld (pc' := 113) (l' := L221) (st' := [.int (i32 (r162)), .ref 103]) rfl (jl_iloadn gL221_2) ?_
                          refine jx_ld (pc' := 114) (l' := L221) (st' := [.ref 66, .int (i32 (r162)), .ref 103]) rfl (jl_aloadn gL221_0) ?_
                          refine jx_ar (pc' := 115) (st' := [.int (i32 (2)), .ref 66, .int (i32 (r162)), .ref 103]) rfl rfl rfl rfl ?_
                          refine jx_vr (pc' := 118) (as := [.int (i32 (2))]) (st := [.int (i32 (r162)), .ref 103]) rfl rfl rfl rfl ⟨rfl, rfl, Nat.le_of_ble_eq_true rfl⟩ rfl rfl (RP_all X 18 (dd := d) (hd := by omega) (hW := hW226) (lv := 2) (at0 := at2_163) (ln := ln2_224) (e_ln := show G222 9 = ln2_224 from (e228)) (li := li) (e_li := show G222 3 = li from ((hF227.1 3 rfl).trans ((hF167.1 3 rfl).trans ((hF62.1 3 rfl).trans ((hF34.1 3 rfl).trans ((hF7.1 3 rfl).trans ((hFx.1 3 rfl).trans (e_li)))))))) (fk := fk2_225) (e_fk := show G222 16 = fk2_225 from (e229)) (nd := nd1) (e_nd := show G222 31 = nd1 from ((hF227.1 31 rfl).trans ((hF167.1 31 rfl).trans ((hF62.1 31 rfl).trans ((hF34.1 31 rfl).trans ((hF7.1 31 rfl).trans (ex_nd1))))))) (sy := sy1) (e_sy := show G222 19 = sy1 from ((hF227.1 19 rfl).trans ((hF167.1 19 rfl).trans ((hF62.1 19 rfl).trans ((hF34.1 19 rfl).trans ((hF7.1 19 rfl).trans (ex_sy1))))))) (na := na1) (e_na := show G222 28 = na1 from ((hF227.1 28 rfl).trans ((hF167.1 28 rfl).trans ((hF62.1 28 rfl).trans ((hF34.1 28 rfl).trans ((hF7.1 28 rfl).trans (ex_na1))))))) (vi := vi) (e_vi := show G222 29 = vi from ((hF227.1 29 rfl).trans ((hF167.1 29 rfl).trans ((hF62.1 29 rfl).trans ((hF34.1 29 rfl).trans ((hF7.1 29 rfl).trans (fx_29))))))) (lf := A 3 (ln2_224).toNat) (e_lf := show A223 3 (ln2_224).toNat = A 3 (ln2_224).toNat from (congrFun ((hF227.2 3 rfl).trans ((hF167.2 3 rfl).trans ((hF62.2 3 rfl).trans ((hF34.2 3 rfl).trans ((hF7.2 3 rfl).trans (hFx.2 3 rfl)))))) _)) (ac := at2_163) (e_ac := show G222 10 = at2_163 from ((hF227.1 10 rfl).trans (e169))) (ec := ec1) (e_ec := show ecn A223 (G222 31) = ec1 from ec236) (i_LT := (LT_ext (((hF227.1 3 rfl).trans ((hF167.1 3 rfl).trans ((hF62.1 3 rfl).trans ((hF34.1 3 rfl).trans ((hF7.1 3 rfl).trans (hFx.1 3 rfl))))))) (((hF227.2 3 rfl).trans ((hF167.2 3 rfl).trans ((hF62.2 3 rfl).trans ((hF34.2 3 rfl).trans ((hF7.2 3 rfl).trans (hFx.2 3 rfl))))))) (((hF227.2 4 rfl).trans ((hF167.2 4 rfl).trans ((hF62.2 4 rfl).trans ((hF34.2 4 rfl).trans ((hF7.2 4 rfl).trans (hFx.2 4 rfl))))))) i_LT)) (i_SV := (SV_fx i_SV e_vi (show G222 29 = vi from ((hF227.1 29 rfl).trans ((hF167.1 29 rfl).trans ((hF62.1 29 rfl).trans ((hF34.1 29 rfl).trans ((hF7.1 29 rfl).trans (fx_29))))))) (by omega) hV234)) (i_PQ := (PQ_fx i_PQ hS233 (by omega) (hF231.2 29 rfl) (hF231.2 30 rfl))) (hvb := hvb) (h_lv := ⟨(by decide), (by decide)⟩)  (p_0 := by omega) (p_1 := by omega) (p_2 := by omega) (p_3 := by omega) (p_4 := by omega) (p_5 := by omega) (p_6 := by omega) (p_7 := by omega) (p_8 := by omega) (p_9 := by omega) (p_10 := by omega)) (fun o V' hq => ?_)
                          obtain ⟨G252, A253, r254, ln2_255, at2_256, fk2_257, nd2_258, sy2_259, na2_260, vi2_261, lf2_262, ec2_263, rfl, rfl, hW264, hF265, hQ266, hQ267, hQ268, b269, e270, e271, e272, e273, e274, e275, e276, e277, e278, p279, p280, p281, p282, p283, p284, p285, p286, p287, q288⟩ := hq
                          have hF289 := Fr_tr hF231 hF265 (Fr_sub (by decide)) (Fr_sub (by decide))
                          have hP290 := Pf_tr hP232 hQ266 (by omega)
                          have hS291 := Fx_tr hS233 hQ267 (by omega)
                          have hV292 := Fx_tr hV234 hQ268 (by omega)
                          have sf293 : wB A253 Vs pb (nd) (nd1) (sy) (sy1) := wB_fx (fun k j hk hj => hQ266 k j hk (by omega)) (Fx_su hQ267 (by omega)) (Qg_fx (Fx_f (w := pb) Fx_rf hF265 (by decide)) (by omega)) (hF265.2 36 rfl) (by omega) sf235
                          have bln2_255 : (0 : Int) ≤ ln2_255 ∧ ln2_255 ≤ 3000 := e270 ▸ hW264.1 9
                          have bat2_256 : (0 : Int) ≤ at2_256 ∧ at2_256 ≤ 3002 := e271 ▸ hW264.1 10
                          have bfk2_257 : (0 : Int) ≤ fk2_257 ∧ fk2_257 ≤ 6 := e272 ▸ hW264.1 16
                          have bnd2_258 : (0 : Int) ≤ nd2_258 ∧ nd2_258 ≤ 6999 := e273 ▸ hW264.1 31
                          have bsy2_259 : (0 : Int) ≤ sy2_259 ∧ sy2_259 ≤ 202 := e274 ▸ hW264.1 19
                          have bna2_260 : (0 : Int) ≤ na2_260 ∧ na2_260 ≤ 200 := e275 ▸ hW264.1 28
                          have bvi2_261 : (0 : Int) ≤ vi2_261 ∧ vi2_261 ≤ 202 := e276 ▸ hW264.1 29
                          have blf2_262 : (0 : Int) ≤ lf2_262 ∧ lf2_262 ≤ 3000 := e277 ▸ hW264.2 3 _
                          refine .inr ⟨_, rfl, ?_⟩
                          rcases q288 with ⟨a294, a295⟩ | ⟨a296, a297, a298, a299, a300, a301, a302, a303, a304, a305⟩
                          · have _q : True := trivial
                            refine jr_st (pc' := 119) (i := 36) (m := 6) (z := r162) (y := r254) rfl (by decide) rfl (by decide) (by omega) (by omega) rfl ?_
                            have hW307 : Wk G252 (uA A253 36 (r162).toNat (r254)) := Wk_a hW264 (show (-2147483648 : Int) ≤ r254 by omega) (show r254 ≤ (2147483647 : Int) by omega)
                            have hF308 := Fr_a (z := r254) (k := 36) (n := (r162).toNat) hF289 (by decide)
                            obtain ⟨A306, eA306⟩ : ∃ q, q = uA A253 36 (r162).toNat (r254) := ⟨_, rfl⟩
                            rw [← eA306]
                            rw [← eA306] at hW307 hF308
                            have q309 : A306 36 (r162).toNat = r254 := by rw [eA306]; exact uA_eq
                            have hP310 : Pf nd A A306 := eA306 ▸ Pf_n hP290 rfl
                            have hS311 : Fx sr (sy) A A306 := eA306 ▸ Fx_n hS291 rfl
                            have hV312 : Fx [14] (vi) A A306 := eA306 ▸ Fx_n hV292 rfl
                            have ec313 : ecn A306 (G252 31) = ec2_263 := (ecn_e ((congrFun eA306 15).trans (uA_ne (by decide)))).trans e278
                            refine jx_inc (pc' := 122) (l' := jSto1 L221 1 (.int (i32 ((many + (1)))))) (x := many) rfl gL221_1 (by decide) rfl rfl ?_
                            obtain ⟨L314, eL314⟩ : ∃ q, q = jSto1 L221 1 (.int (i32 ((many + (1))))) := ⟨_, rfl⟩
                            rw [← eL314]
                            have gL314_0 : jGet L314 0 = some (.ref 66) := eL314 ▸ jg_ne (by decide) gL221_0 rfl
                            have gL314_2 : jGet L314 2 = some (.int (i32 (r162))) := eL314 ▸ jg_ne (by decide) gL221_2 rfl
                            have gL314_1 : jGet L314 1 = some (.int (i32 ((many + (1))))) := eL314 ▸ jg_eq
                            refine jx_go (tg := 19) rfl rfl ?_
                            refine jx_ld (pc' := 20) (l' := L314) (st' := [.ref 66]) rfl (jl_aloadn gL314_0) ?_
                            refine jx_ar (pc' := 21) (st' := [.int (i32 (0)), .ref 66]) rfl rfl rfl rfl ?_
                            have b315 : (-1 : Int) ≤ A 5 (ln2_255).toNat ∧ A 5 (ln2_255).toNat ≤ 15 := hW.2 5 _
                            refine jx_vr (pc' := 24) (as := [.int (i32 (0))]) (st := []) rfl rfl rfl rfl ⟨rfl, rfl, Nat.le_of_ble_eq_true rfl⟩ rfl rfl (c_isBelow (dd := d) (hd := by omega) (hW := hW307) (lv := 0) (ln := ln2_255) (e_ln := show G252 9 = ln2_255 from (e270)) (li := li) (e_li := show G252 3 = li from ((hF265.1 3 rfl).trans ((hF227.1 3 rfl).trans ((hF167.1 3 rfl).trans ((hF62.1 3 rfl).trans ((hF34.1 3 rfl).trans ((hF7.1 3 rfl).trans ((hFx.1 3 rfl).trans (e_li))))))))) (fk := fk2_257) (e_fk := show G252 16 = fk2_257 from (e272)) (ll := A 5 (ln2_255).toNat) (e_ll := show A306 5 (ln2_255).toNat = A 5 (ln2_255).toNat from (congrFun (((congrFun eA306 5).trans (uA_ne (by decide))).trans ((hF265.2 5 rfl).trans ((hF227.2 5 rfl).trans ((hF167.2 5 rfl).trans ((hF62.2 5 rfl).trans ((hF34.2 5 rfl).trans ((hF7.2 5 rfl).trans (hFx.2 5 rfl)))))))) _))  (h_lv := ⟨(by decide), (by decide)⟩)  (p_0 := by omega)) (fun o V' hq => ?_)
                            obtain ⟨G316, A317, r318, fk2_319, rfl, rfl, hW320, hF321, b322, e323, q324⟩ := hq
                            have hF325 := Fr_tr hF308 hF321 (Fr_sub (by decide)) (Fr_sub (by decide))
                            have hP326 := Pf_f hP310 hF321 (by decide)
                            have hS327 := Fx_f hS311 hF321 (by decide)
                            have hV328 := Fx_f hV312 hF321 (by decide)
                            have ec329 : ecn A317 (G316 31) = ec2_263 := (ecn_f (hF321.2 15 rfl) (hF321.1 31 rfl)).trans ec313
                            have bfk2_319 : (0 : Int) ≤ fk2_319 ∧ fk2_319 ≤ 6 := e323 ▸ hW320.1 16
                            refine .inr ⟨_, rfl, ?_⟩
                            rcases q324 with ⟨rfl, a330, a331, a332, a333⟩ | ⟨rfl, a334⟩ | ⟨rfl, a335, a336, a337⟩
                            · have _q : True := trivial
                              exfalso
                              omega
                            · have _q : True := trivial
                              refine jx_if_eq (pc' := 27) (tg := 125) rfl rfl rfl (by decide) (by decide) (fun h338 => ?_) (fun h338 => ?_)
                              · have _q := h338
                                refine jx_ld (pc' := 126) (l' := L314) (st' := [.ref 66]) rfl (jl_aloadn gL314_0) ?_
                                refine jx_vr (pc' := 129) (as := []) (st := []) rfl rfl rfl rfl ⟨rfl, rfl, Nat.le_of_ble_eq_true rfl⟩ rfl rfl (c_bad (dd := d) (hd := by omega) (hW := hW320)  (fk := fk2_319) (e_fk := show G316 16 = fk2_319 from (e323))    ) (fun o V' hq => ?_)
                                obtain ⟨r339, rfl, rfl, b340, q341⟩ := hq
                                refine .inr ⟨_, rfl, ?_⟩
                                rcases q341 with ⟨rfl, a342⟩ | ⟨rfl, a343⟩
                                · have _q : True := trivial
                                  refine jx_if_ne (pc' := 132) (tg := 142) rfl rfl rfl (by decide) (by decide) (fun h344 => ?_) (fun h344 => ?_)
                                  · have _q := h344
                                    refine jx_rt (v := none) rfl rfl rfl rfl rfl rfl ?_
                                    exact ⟨_, _, ln2_255, at2_256, fk2_319, nd2_258, sy2_259, na2_260, vi2_261, lf2_262, ec2_263, rfl, rfl, hW320, hF325, hP326, hS327, hV328, ((hF321.1 9 rfl).trans (e270)), ((hF321.1 10 rfl).trans (e271)), (e323), ((hF321.1 31 rfl).trans (e273)), ((hF321.1 19 rfl).trans (e274)), ((hF321.1 28 rfl).trans (e275)), ((hF321.1 29 rfl).trans (e276)), (congrFun ((hF321.2 3 rfl).trans ((congrFun eA306 3).trans (uA_ne (by decide)))) _).trans (e277), ec329, by omega, by omega, by omega, by omega, by omega, by omega, by first | exact Or.inl (by omega)⟩
                                  · have _q := h344
                                    exact absurd h344 (by omega)
                                · have _q : True := trivial
                                  exfalso
                                  omega
                              · have _q := h338
                                exact absurd h338 (by omega)
                            · have _q : True := trivial
                              exfalso
                              omega
                          · have _q : True := trivial
                            refine jr_st (pc' := 119) (i := 36) (m := 6) (z := r162) (y := r254) rfl (by decide) rfl (by decide) (by omega) (by omega) rfl ?_
                            have hW346 : Wk G252 (uA A253 36 (r162).toNat (r254)) := Wk_a hW264 (show (-2147483648 : Int) ≤ r254 by omega) (show r254 ≤ (2147483647 : Int) by omega)
                            have hF347 := Fr_a (z := r254) (k := 36) (n := (r162).toNat) hF289 (by decide)
                            obtain ⟨A345, eA345⟩ : ∃ q, q = uA A253 36 (r162).toNat (r254) := ⟨_, rfl⟩
                            rw [← eA345]
                            rw [← eA345] at hW346 hF347
                            have q348 : A345 36 (r162).toNat = r254 := by rw [eA345]; exact uA_eq
                            have hP349 : Pf nd A A345 := eA345 ▸ Pf_n hP290 rfl
                            have hS350 : Fx sr (sy) A A345 := eA345 ▸ Fx_n hS291 rfl
                            have hV351 : Fx [14] (vi) A A345 := eA345 ▸ Fx_n hV292 rfl
                            have sf352 : wB A345 Vs pb (nd) (nd2_258) (sy) (sy2_259) := wB_add eA345 sf293 (by omega) (by omega) (by omega) a302 (by omega) (by omega) rfl (by omega) (by omega) (by omega) (by omega) rfl
                            have sf353 : wP A345 (sy2_259) pb (18) (Vs) (r254) (nd1) (nd2_258) (sy1) (sy2_259) := wP_ag (Sg_ne eA345 rfl) (Qg_ne eA345 rfl) (by omega) (by omega) (Ax_ag (Ag_ne eA345 rfl)) a302
                            have sf354 : NX A345 (r254) := NX_r eA345 (by decide) a303
                            have ec355 : ecn A345 (G252 31) = ec2_263 := (ecn_e ((congrFun eA345 15).trans (uA_ne (by decide)))).trans e278
                            refine jx_inc (pc' := 122) (l' := jSto1 L221 1 (.int (i32 ((many + (1)))))) (x := many) rfl gL221_1 (by decide) rfl rfl ?_
                            obtain ⟨L356, eL356⟩ : ∃ q, q = jSto1 L221 1 (.int (i32 ((many + (1))))) := ⟨_, rfl⟩
                            rw [← eL356]
                            have gL356_0 : jGet L356 0 = some (.ref 66) := eL356 ▸ jg_ne (by decide) gL221_0 rfl
                            have gL356_2 : jGet L356 2 = some (.int (i32 (r162))) := eL356 ▸ jg_ne (by decide) gL221_2 rfl
                            have gL356_1 : jGet L356 1 = some (.int (i32 ((many + (1))))) := eL356 ▸ jg_eq
                            refine jx_go (tg := 19) rfl rfl ?_
                            exact ih19 _ (by omega) L356 G252 A345 ((many + (1))) (ln2_255) (at2_256) (fk2_257) (nd2_258) (sy2_259) (na2_260) (lf2_262) (ec2_263) rfl gL356_0 gL356_1 hW346 hF347 hP349 hS350 hV351 ((e270)) ((e271)) ((e272)) ((e273)) ((e274)) ((e275)) ((congrFun ((congrFun eA345 3).trans (uA_ne (by decide))) _).trans (e277)) (ec355) (Eq.trans (show G252 29 = vi2_261 from (e276)) (by omega)) (by omega) (by omega) (by omega) (by omega) (by omega) (by omega) (by omega) (by omega) (by omega) (by omega) (by omega) (by omega) (sf352) (by omega) (by omega)
                        · have _q := h251
                          exact absurd h251 (by omega)
                    · have _q : True := trivial
                      refine jx_ld (pc' := 101) (l' := L221) (st' := [.ref 66]) rfl (jl_aloadn gL221_0) ?_
                      refine jx_vr (pc' := 104) (as := []) (st := []) rfl rfl rfl rfl ⟨rfl, rfl, Nat.le_of_ble_eq_true rfl⟩ rfl rfl (c_bad (dd := d) (hd := by omega) (hW := hW226)  (fk := fk2_225) (e_fk := show G222 16 = fk2_225 from (e229))    ) (fun o V' hq => ?_)
                      obtain ⟨r357, rfl, rfl, b358, q359⟩ := hq
                      refine .inr ⟨_, rfl, ?_⟩
                      rcases q359 with ⟨rfl, a360⟩ | ⟨rfl, a361⟩
                      · have _q : True := trivial
                        refine jx_if_eq (pc' := 107) (tg := 108) rfl rfl rfl (by decide) (by decide) (fun h362 => ?_) (fun h362 => ?_)
                        · have _q := h362
                          exact absurd h362 (by omega)
                        · have _q := h362
                          refine jx_rt (v := none) rfl rfl rfl rfl rfl rfl ?_
                          exact ⟨_, _, ln2_224, at2_163, fk2_225, nd1, sy1, na1, vi, A 3 (ln2_224).toNat, ec1, rfl, rfl, hW226, hF231, hP232, hS233, hV234, (e228), ((hF227.1 10 rfl).trans (e169)), (e229), ((hF227.1 31 rfl).trans ((hF167.1 31 rfl).trans ((hF62.1 31 rfl).trans ((hF34.1 31 rfl).trans ((hF7.1 31 rfl).trans (ex_nd1)))))), ((hF227.1 19 rfl).trans ((hF167.1 19 rfl).trans ((hF62.1 19 rfl).trans ((hF34.1 19 rfl).trans ((hF7.1 19 rfl).trans (ex_sy1)))))), ((hF227.1 28 rfl).trans ((hF167.1 28 rfl).trans ((hF62.1 28 rfl).trans ((hF34.1 28 rfl).trans ((hF7.1 28 rfl).trans (ex_na1)))))), ((hF227.1 29 rfl).trans ((hF167.1 29 rfl).trans ((hF62.1 29 rfl).trans ((hF34.1 29 rfl).trans ((hF7.1 29 rfl).trans (fx_29)))))), (congrFun ((hF227.2 3 rfl).trans ((hF167.2 3 rfl).trans ((hF62.2 3 rfl).trans ((hF34.2 3 rfl).trans ((hF7.2 3 rfl).trans (hFx.2 3 rfl)))))) _), ec236, by omega, by omega, by omega, by omega, by omega, by omega, by first | exact Or.inl (by omega)⟩
                      · have _q : True := trivial
                        exfalso
                        omega
                · have _q := h158
                  refine jx_ld (pc' := 57) (l' := L) (st' := [.ref 66]) rfl (jl_aloadn gL_0) ?_
                  have b363 : (-2147483648 : Int) ≤ G56 13 ∧ G56 13 ≤ 2147483647 := hW61.1 13
                  refine jr_get (pc' := 60) (i := 13) (v := .int (i32 (G56 13))) rfl rfl (by decide) rfl rfl ?_
                  refine jx_ar (pc' := 61) (st' := [.int (i32 (0)), .int (i32 (G56 13))]) rfl rfl rfl rfl ?_
                  refine jx_ar (pc' := 62) (st' := [.int (i32 (5)), .int (i32 (0)), .int (i32 (G56 13))]) rfl rfl rfl rfl ?_
                  refine jx_st (pc' := 65) (as := [.int (i32 (G56 13)), .int (i32 (0)), .int (i32 (5))]) (st := []) rfl rfl ⟨rfl, Nat.le_of_ble_eq_true rfl⟩ rfl rfl rfl (c_in (dd := d) (hd := by omega) (v := G56 13) (a := 0) (b := 5)   (h_v := ⟨(Int.le_trans (by decide : (-2147483648 : Int) ≤ -2147483648) b363.1), (Int.le_trans b363.2 (by decide : (2147483647 : Int) ≤ 2147483647))⟩) (h_a := ⟨(by decide), (by decide)⟩) (h_b := ⟨(by decide), (by decide)⟩)  ) (fun o V' hq => ?_)
                  obtain ⟨r364, rfl, rfl, b365, q366⟩ := hq
                  refine .inr ⟨_, rfl, ?_⟩
                  rcases q366 with ⟨rfl, a367, a368⟩ | ⟨rfl, a369⟩
                  · have _q : True := trivial
                    refine jx_if_eq (pc' := 68) (tg := 89) rfl rfl rfl (by decide) (by decide) (fun h370 => ?_) (fun h370 => ?_)
                    · have _q := h370
                      exact absurd h370 (by omega)
                    · have _q := h370
                      refine jx_ld (pc' := 69) (l' := L) (st' := [.ref 66]) rfl (jl_aloadn gL_0) ?_
                      refine jr_get (pc' := 72) (i := 55) (v := .ref 103) rfl rfl (by decide) rfl rfl ?_
                      refine jx_ld (pc' := 73) (l' := L) (st' := [.ref 66, .ref 103]) rfl (jl_aloadn gL_0) ?_
                      refine jr_get (pc' := 76) (i := 13) (v := .int (i32 (G56 13))) rfl rfl (by decide) rfl rfl ?_
                      have _q : True := trivial
                      have b371 : (-2147483648 : Int) ≤ Ax 36 (G56 13).toNat ∧ Ax 36 (G56 13).toNat ≤ 2147483647 := hWx.2 36 _
                      refine jr_ldv (pc' := 77) (i := 36) (m := 6) (z := G56 13) (y := Ax 36 (G56 13).toNat) rfl (by decide) rfl (by decide) (by omega) (by omega) rfl (show A57 36 (G56 13).toNat = Ax 36 (G56 13).toNat from (congrFun ((hF62.2 36 rfl).trans ((hF34.2 36 rfl).trans (hF7.2 36 rfl))) _)) ?_
                      refine jx_if_le (pc' := 80) (tg := 89) rfl rfl rfl (Int.le_trans (by decide : (-2147483648 : Int) ≤ -2147483648) b371.1) (Int.le_trans b371.2 (by decide : (2147483647 : Int) ≤ 2147483647)) (fun h372 => ?_) (fun h372 => ?_)
                      · have _q := h372
                        refine jx_ld (pc' := 90) (l' := L) (st' := [.ref 66]) rfl (jl_aloadn gL_0) ?_
                        refine jx_ar (pc' := 91) (st' := [.int (i32 (0)), .ref 66]) rfl rfl rfl rfl ?_
                        refine jx_ar (pc' := 92) (st' := [.int (i32 (5)), .int (i32 (0)), .ref 66]) rfl rfl rfl rfl ?_
                        refine jx_vr (pc' := 95) (as := [.int (i32 (0)), .int (i32 (5))]) (st := []) rfl rfl rfl rfl ⟨rfl, rfl, Nat.le_of_ble_eq_true rfl⟩ rfl rfl (c_needNumber2 (dd := d) (hd := by omega) (hW := hW61) (lo := 0) (hi := 5) (ln := ln1) (e_ln := show G56 9 = ln1 from ((hF62.1 9 rfl).trans ((hF34.1 9 rfl).trans ((hF7.1 9 rfl).trans (ex_ln1))))) (le := A 4 (ln1).toNat) (e_le := show A57 4 (ln1).toNat = A 4 (ln1).toNat from (congrFun ((hF62.2 4 rfl).trans ((hF34.2 4 rfl).trans ((hF7.2 4 rfl).trans (hFx.2 4 rfl)))) _)) (at0 := at2_58) (e_at0 := show G56 10 = at2_58 from (e63)) (fk := fk2_60) (e_fk := show G56 16 = fk2_60 from (e65)) (tk0 := tk2_59) (e_tk0 := show G56 11 = tk2_59 from (e64)) (tn := G56 13) (e_tn := show G56 13 = G56 13 from rfl)  (h_lo := ⟨(by decide), (by decide)⟩) (h_hi := ⟨(by decide), (by decide)⟩)  (p_0 := by omega)) (fun o V' hq => ?_)
                        obtain ⟨G373, A374, r375, at2_376, tk2_377, fk2_378, rfl, rfl, hW379, hF380, b381, e382, e383, e384, p385, p386, q387⟩ := hq
                        have hF388 := Fr_tr hF69 hF380 (Fr_sub (by decide)) (Fr_sub (by decide))
                        have hP389 := Pf_f hP70 hF380 (by decide)
                        have hS390 := Fx_f hS71 hF380 (by decide)
                        have hV391 := Fx_f hV72 hF380 (by decide)
                        have sf392 : wB A374 Vs pb (nd) (nd1) (sy) (sy1) := (show A374 = A57 from funext (fun k => hF380.2 k rfl)) ▸ sf73
                        have ec393 : ecn A374 (G373 31) = ec1 := (ecn_f (hF380.2 15 rfl) (hF380.1 31 rfl)).trans ec74
                        have bat2_376 : (0 : Int) ≤ at2_376 ∧ at2_376 ≤ 3002 := e382 ▸ hW379.1 10
                        have ztk2_377 := tz_b tk2_377
                        have btk2_377 : (0 : Int) ≤ tk2_377 ∧ tk2_377 ≤ 5 := e383 ▸ hW379.1 11
                        have bfk2_378 : (0 : Int) ≤ fk2_378 ∧ fk2_378 ≤ 6 := e384 ▸ hW379.1 16
                        refine .inr ⟨_, rfl, ?_⟩
                        rcases q387 with ⟨a394, a395, a396, a397⟩ | ⟨a398, a399, a400, a401, a402, a403, a404⟩
                        · have _q : True := trivial
                          refine jx_ld (pc' := 96) (l' := jSto1 L 2 (.int (i32 (r375)))) (st' := []) rfl rfl ?_
                          obtain ⟨L405, eL405⟩ : ∃ q, q = jSto1 L 2 (.int (i32 (r375))) := ⟨_, rfl⟩
                          rw [← eL405]
                          have gL405_0 : jGet L405 0 = some (.ref 66) := eL405 ▸ jg_ne (by decide) gL_0 rfl
                          have gL405_1 : jGet L405 1 = some (.int (i32 (many))) := eL405 ▸ jg_ne (by decide) gL_1 rfl
                          have gL405_2 : jGet L405 2 = some (.int (i32 (r375))) := eL405 ▸ jg_eq
                          refine jx_ld (pc' := 97) (l' := L405) (st' := [.ref 66]) rfl (jl_aloadn gL405_0) ?_
                          refine jx_vr (pc' := 100) (as := []) (st := []) rfl rfl rfl rfl ⟨rfl, rfl, Nat.le_of_ble_eq_true rfl⟩ rfl rfl (c_endLine (dd := d) (hd := by omega) (hW := hW379)  (ln := ln1) (e_ln := show G373 9 = ln1 from ((hF380.1 9 rfl).trans ((hF62.1 9 rfl).trans ((hF34.1 9 rfl).trans ((hF7.1 9 rfl).trans (ex_ln1)))))) (li := li) (e_li := show G373 3 = li from ((hF380.1 3 rfl).trans ((hF62.1 3 rfl).trans ((hF34.1 3 rfl).trans ((hF7.1 3 rfl).trans ((hFx.1 3 rfl).trans (e_li))))))) (fk := fk2_378) (e_fk := show G373 16 = fk2_378 from (e384)) (tk0 := tk2_377) (e_tk0 := show G373 11 = tk2_377 from (e383))    (p_0 := by omega)) (fun o V' hq => ?_)
                          obtain ⟨G406, A407, ln2_408, fk2_409, rfl, rfl, hW410, hF411, e412, e413, q414⟩ := hq
                          have hF415 := Fr_tr hF388 hF411 (Fr_sub (by decide)) (Fr_sub (by decide))
                          have hP416 := Pf_f hP389 hF411 (by decide)
                          have hS417 := Fx_f hS390 hF411 (by decide)
                          have hV418 := Fx_f hV391 hF411 (by decide)
                          have sf419 : wB A407 Vs pb (nd) (nd1) (sy) (sy1) := (show A407 = A374 from funext (fun k => hF411.2 k rfl)) ▸ sf392
                          have ec420 : ecn A407 (G406 31) = ec1 := (ecn_f (hF411.2 15 rfl) (hF411.1 31 rfl)).trans ec393
                          have bln2_408 : (0 : Int) ≤ ln2_408 ∧ ln2_408 ≤ 3000 := e412 ▸ hW410.1 9
                          have bfk2_409 : (0 : Int) ≤ fk2_409 ∧ fk2_409 ≤ 6 := e413 ▸ hW410.1 16
                          refine .inl ⟨rfl, ?_⟩
                          rcases q414 with ⟨a421, a422, a423, a424, a425⟩ | ⟨a426, a427⟩
                          · have _q : True := trivial
                            exfalso
                            omega
                          · have _q : True := trivial
                            refine jx_ld (pc' := 101) (l' := L405) (st' := [.ref 66]) rfl (jl_aloadn gL405_0) ?_
                            refine jx_vr (pc' := 104) (as := []) (st := []) rfl rfl rfl rfl ⟨rfl, rfl, Nat.le_of_ble_eq_true rfl⟩ rfl rfl (c_bad (dd := d) (hd := by omega) (hW := hW410)  (fk := fk2_409) (e_fk := show G406 16 = fk2_409 from (e413))    ) (fun o V' hq => ?_)
                            obtain ⟨r428, rfl, rfl, b429, q430⟩ := hq
                            refine .inr ⟨_, rfl, ?_⟩
                            rcases q430 with ⟨rfl, a431⟩ | ⟨rfl, a432⟩
                            · have _q : True := trivial
                              refine jx_if_eq (pc' := 107) (tg := 108) rfl rfl rfl (by decide) (by decide) (fun h433 => ?_) (fun h433 => ?_)
                              · have _q := h433
                                exact absurd h433 (by omega)
                              · have _q := h433
                                refine jx_rt (v := none) rfl rfl rfl rfl rfl rfl ?_
                                exact ⟨_, _, ln2_408, at2_376, fk2_409, nd1, sy1, na1, vi, A 3 (ln2_408).toNat, ec1, rfl, rfl, hW410, hF415, hP416, hS417, hV418, (e412), ((hF411.1 10 rfl).trans (e382)), (e413), ((hF411.1 31 rfl).trans ((hF380.1 31 rfl).trans ((hF62.1 31 rfl).trans ((hF34.1 31 rfl).trans ((hF7.1 31 rfl).trans (ex_nd1)))))), ((hF411.1 19 rfl).trans ((hF380.1 19 rfl).trans ((hF62.1 19 rfl).trans ((hF34.1 19 rfl).trans ((hF7.1 19 rfl).trans (ex_sy1)))))), ((hF411.1 28 rfl).trans ((hF380.1 28 rfl).trans ((hF62.1 28 rfl).trans ((hF34.1 28 rfl).trans ((hF7.1 28 rfl).trans (ex_na1)))))), ((hF411.1 29 rfl).trans ((hF380.1 29 rfl).trans ((hF62.1 29 rfl).trans ((hF34.1 29 rfl).trans ((hF7.1 29 rfl).trans (fx_29)))))), (congrFun ((hF411.2 3 rfl).trans ((hF380.2 3 rfl).trans ((hF62.2 3 rfl).trans ((hF34.2 3 rfl).trans ((hF7.2 3 rfl).trans (hFx.2 3 rfl)))))) _), ec420, by omega, by omega, by omega, by omega, by omega, by omega, by first | exact Or.inl (by omega)⟩
                            · have _q : True := trivial
                              exfalso
                              omega
                        · have _q : True := trivial
                          refine jx_ld (pc' := 96) (l' := jSto1 L 2 (.int (i32 (r375)))) (st' := []) rfl rfl ?_
                          obtain ⟨L434, eL434⟩ : ∃ q, q = jSto1 L 2 (.int (i32 (r375))) := ⟨_, rfl⟩
                          rw [← eL434]
                          have gL434_0 : jGet L434 0 = some (.ref 66) := eL434 ▸ jg_ne (by decide) gL_0 rfl
                          have gL434_1 : jGet L434 1 = some (.int (i32 (many))) := eL434 ▸ jg_ne (by decide) gL_1 rfl
                          have gL434_2 : jGet L434 2 = some (.int (i32 (r375))) := eL434 ▸ jg_eq
                          refine jx_ld (pc' := 97) (l' := L434) (st' := [.ref 66]) rfl (jl_aloadn gL434_0) ?_
                          refine jx_vr (pc' := 100) (as := []) (st := []) rfl rfl rfl rfl ⟨rfl, rfl, Nat.le_of_ble_eq_true rfl⟩ rfl rfl (c_endLine (dd := d) (hd := by omega) (hW := hW379)  (ln := ln1) (e_ln := show G373 9 = ln1 from ((hF380.1 9 rfl).trans ((hF62.1 9 rfl).trans ((hF34.1 9 rfl).trans ((hF7.1 9 rfl).trans (ex_ln1)))))) (li := li) (e_li := show G373 3 = li from ((hF380.1 3 rfl).trans ((hF62.1 3 rfl).trans ((hF34.1 3 rfl).trans ((hF7.1 3 rfl).trans ((hFx.1 3 rfl).trans (e_li))))))) (fk := fk2_378) (e_fk := show G373 16 = fk2_378 from (e384)) (tk0 := tk2_377) (e_tk0 := show G373 11 = tk2_377 from (e383))    (p_0 := by omega)) (fun o V' hq => ?_)
                          obtain ⟨G435, A436, ln2_437, fk2_438, rfl, rfl, hW439, hF440, e441, e442, q443⟩ := hq
                          have hF444 := Fr_tr hF388 hF440 (Fr_sub (by decide)) (Fr_sub (by decide))
                          have hP445 := Pf_f hP389 hF440 (by decide)
                          have hS446 := Fx_f hS390 hF440 (by decide)
                          have hV447 := Fx_f hV391 hF440 (by decide)
                          have sf448 : wB A436 Vs pb (nd) (nd1) (sy) (sy1) := (show A436 = A374 from funext (fun k => hF440.2 k rfl)) ▸ sf392
                          have ec449 : ecn A436 (G435 31) = ec1 := (ecn_f (hF440.2 15 rfl) (hF440.1 31 rfl)).trans ec393
                          have bln2_437 : (0 : Int) ≤ ln2_437 ∧ ln2_437 ≤ 3000 := e441 ▸ hW439.1 9
                          have bfk2_438 : (0 : Int) ≤ fk2_438 ∧ fk2_438 ≤ 6 := e442 ▸ hW439.1 16
                          refine .inl ⟨rfl, ?_⟩
                          rcases q443 with ⟨a450, a451, a452, a453, a454⟩ | ⟨a455, a456⟩
                          · have _q : True := trivial
                            have b457 : (0 : Int) ≤ A 3 (ln2_437).toNat ∧ A 3 (ln2_437).toNat ≤ 3000 := hW.2 3 _
                            have lt458 : ln2_437 < li → A 4 (ln1).toNat < A 3 (ln2_437).toNat := fun hh => LT_nx (LT_ext (((hF440.1 3 rfl).trans ((hF380.1 3 rfl).trans ((hF62.1 3 rfl).trans ((hF34.1 3 rfl).trans ((hF7.1 3 rfl).trans (hFx.1 3 rfl))))))) (((hF440.2 3 rfl).trans ((hF380.2 3 rfl).trans ((hF62.2 3 rfl).trans ((hF34.2 3 rfl).trans ((hF7.2 3 rfl).trans (hFx.2 3 rfl))))))) (((hF440.2 4 rfl).trans ((hF380.2 4 rfl).trans ((hF62.2 4 rfl).trans ((hF34.2 4 rfl).trans ((hF7.2 4 rfl).trans (hFx.2 4 rfl))))))) i_LT) (show G435 3 = li from ((hF440.1 3 rfl).trans ((hF380.1 3 rfl).trans ((hF62.1 3 rfl).trans ((hF34.1 3 rfl).trans ((hF7.1 3 rfl).trans ((hFx.1 3 rfl).trans (e_li)))))))) (show A436 4 (ln1).toNat = A 4 (ln1).toNat from (congrFun ((hF440.2 4 rfl).trans ((hF380.2 4 rfl).trans ((hF62.2 4 rfl).trans ((hF34.2 4 rfl).trans ((hF7.2 4 rfl).trans (hFx.2 4 rfl)))))) _)) (show A436 3 (ln2_437).toNat = A 3 (ln2_437).toNat from (congrFun ((hF440.2 3 rfl).trans ((hF380.2 3 rfl).trans ((hF62.2 3 rfl).trans ((hF34.2 3 rfl).trans ((hF7.2 3 rfl).trans (hFx.2 3 rfl)))))) _)) (show ln2_437 = ln1 + 1 by omega) (by omega) hh
                            refine jx_ld (pc' := 101) (l' := L434) (st' := [.ref 66]) rfl (jl_aloadn gL434_0) ?_
                            refine jx_vr (pc' := 104) (as := []) (st := []) rfl rfl rfl rfl ⟨rfl, rfl, Nat.le_of_ble_eq_true rfl⟩ rfl rfl (c_bad (dd := d) (hd := by omega) (hW := hW439)  (fk := fk2_438) (e_fk := show G435 16 = fk2_438 from (e442))    ) (fun o V' hq => ?_)
                            obtain ⟨r459, rfl, rfl, b460, q461⟩ := hq
                            refine .inr ⟨_, rfl, ?_⟩
                            rcases q461 with ⟨rfl, a462⟩ | ⟨rfl, a463⟩
                            · have _q : True := trivial
                              exfalso
                              omega
                            · have _q : True := trivial
                              refine jx_if_eq (pc' := 107) (tg := 108) rfl rfl rfl (by decide) (by decide) (fun h464 => ?_) (fun h464 => ?_)
                              · have _q := h464
                                refine jx_ld (pc' := 109) (l' := L434) (st' := [.ref 66]) rfl (jl_aloadn gL434_0) ?_
                                refine jr_get (pc' := 112) (i := 55) (v := .ref 103) rfl rfl (by decide) rfl rfl ?_
                                refine jx_ld (pc' := 113) (l' := L434) (st' := [.int (i32 (r375)), .ref 103]) rfl (jl_iloadn gL434_2) ?_
                                refine jx_ld (pc' := 114) (l' := L434) (st' := [.ref 66, .int (i32 (r375)), .ref 103]) rfl (jl_aloadn gL434_0) ?_
                                refine jx_ar (pc' := 115) (st' := [.int (i32 (2)), .ref 66, .int (i32 (r375)), .ref 103]) rfl rfl rfl rfl ?_
                                refine jx_vr (pc' := 118) (as := [.int (i32 (2))]) (st := [.int (i32 (r375)), .ref 103]) rfl rfl rfl rfl ⟨rfl, rfl, Nat.le_of_ble_eq_true rfl⟩ rfl rfl (RP_all X 18 (dd := d) (hd := by omega) (hW := hW439) (lv := 2) (at0 := at2_376) (ln := ln2_437) (e_ln := show G435 9 = ln2_437 from (e441)) (li := li) (e_li := show G435 3 = li from ((hF440.1 3 rfl).trans ((hF380.1 3 rfl).trans ((hF62.1 3 rfl).trans ((hF34.1 3 rfl).trans ((hF7.1 3 rfl).trans ((hFx.1 3 rfl).trans (e_li)))))))) (fk := fk2_438) (e_fk := show G435 16 = fk2_438 from (e442)) (nd := nd1) (e_nd := show G435 31 = nd1 from ((hF440.1 31 rfl).trans ((hF380.1 31 rfl).trans ((hF62.1 31 rfl).trans ((hF34.1 31 rfl).trans ((hF7.1 31 rfl).trans (ex_nd1))))))) (sy := sy1) (e_sy := show G435 19 = sy1 from ((hF440.1 19 rfl).trans ((hF380.1 19 rfl).trans ((hF62.1 19 rfl).trans ((hF34.1 19 rfl).trans ((hF7.1 19 rfl).trans (ex_sy1))))))) (na := na1) (e_na := show G435 28 = na1 from ((hF440.1 28 rfl).trans ((hF380.1 28 rfl).trans ((hF62.1 28 rfl).trans ((hF34.1 28 rfl).trans ((hF7.1 28 rfl).trans (ex_na1))))))) (vi := vi) (e_vi := show G435 29 = vi from ((hF440.1 29 rfl).trans ((hF380.1 29 rfl).trans ((hF62.1 29 rfl).trans ((hF34.1 29 rfl).trans ((hF7.1 29 rfl).trans (fx_29))))))) (lf := A 3 (ln2_437).toNat) (e_lf := show A436 3 (ln2_437).toNat = A 3 (ln2_437).toNat from (congrFun ((hF440.2 3 rfl).trans ((hF380.2 3 rfl).trans ((hF62.2 3 rfl).trans ((hF34.2 3 rfl).trans ((hF7.2 3 rfl).trans (hFx.2 3 rfl)))))) _)) (ac := at2_376) (e_ac := show G435 10 = at2_376 from ((hF440.1 10 rfl).trans (e382))) (ec := ec1) (e_ec := show ecn A436 (G435 31) = ec1 from ec449) (i_LT := (LT_ext (((hF440.1 3 rfl).trans ((hF380.1 3 rfl).trans ((hF62.1 3 rfl).trans ((hF34.1 3 rfl).trans ((hF7.1 3 rfl).trans (hFx.1 3 rfl))))))) (((hF440.2 3 rfl).trans ((hF380.2 3 rfl).trans ((hF62.2 3 rfl).trans ((hF34.2 3 rfl).trans ((hF7.2 3 rfl).trans (hFx.2 3 rfl))))))) (((hF440.2 4 rfl).trans ((hF380.2 4 rfl).trans ((hF62.2 4 rfl).trans ((hF34.2 4 rfl).trans ((hF7.2 4 rfl).trans (hFx.2 4 rfl))))))) i_LT)) (i_SV := (SV_fx i_SV e_vi (show G435 29 = vi from ((hF440.1 29 rfl).trans ((hF380.1 29 rfl).trans ((hF62.1 29 rfl).trans ((hF34.1 29 rfl).trans ((hF7.1 29 rfl).trans (fx_29))))))) (by omega) hV447)) (i_PQ := (PQ_fx i_PQ hS446 (by omega) (hF444.2 29 rfl) (hF444.2 30 rfl))) (hvb := hvb) (h_lv := ⟨(by decide), (by decide)⟩)  (p_0 := by omega) (p_1 := by omega) (p_2 := by omega) (p_3 := by omega) (p_4 := by omega) (p_5 := by omega) (p_6 := by omega) (p_7 := by omega) (p_8 := by omega) (p_9 := by omega) (p_10 := by omega)) (fun o V' hq => ?_)
                                obtain ⟨G465, A466, r467, ln2_468, at2_469, fk2_470, nd2_471, sy2_472, na2_473, vi2_474, lf2_475, ec2_476, rfl, rfl, hW477, hF478, hQ479, hQ480, hQ481, b482, e483, e484, e485, e486, e487, e488, e489, e490, e491, p492, p493, p494, p495, p496, p497, p498, p499, p500, q501⟩ := hq
                                have hF502 := Fr_tr hF444 hF478 (Fr_sub (by decide)) (Fr_sub (by decide))
                                have hP503 := Pf_tr hP445 hQ479 (by omega)
                                have hS504 := Fx_tr hS446 hQ480 (by omega)
                                have hV505 := Fx_tr hV447 hQ481 (by omega)
                                have sf506 : wB A466 Vs pb (nd) (nd1) (sy) (sy1) := wB_fx (fun k j hk hj => hQ479 k j hk (by omega)) (Fx_su hQ480 (by omega)) (Qg_fx (Fx_f (w := pb) Fx_rf hF478 (by decide)) (by omega)) (hF478.2 36 rfl) (by omega) sf448
                                have bln2_468 : (0 : Int) ≤ ln2_468 ∧ ln2_468 ≤ 3000 := e483 ▸ hW477.1 9
                                have bat2_469 : (0 : Int) ≤ at2_469 ∧ at2_469 ≤ 3002 := e484 ▸ hW477.1 10
                                have bfk2_470 : (0 : Int) ≤ fk2_470 ∧ fk2_470 ≤ 6 := e485 ▸ hW477.1 16
                                have bnd2_471 : (0 : Int) ≤ nd2_471 ∧ nd2_471 ≤ 6999 := e486 ▸ hW477.1 31
                                have bsy2_472 : (0 : Int) ≤ sy2_472 ∧ sy2_472 ≤ 202 := e487 ▸ hW477.1 19
                                have bna2_473 : (0 : Int) ≤ na2_473 ∧ na2_473 ≤ 200 := e488 ▸ hW477.1 28
                                have bvi2_474 : (0 : Int) ≤ vi2_474 ∧ vi2_474 ≤ 202 := e489 ▸ hW477.1 29
                                have blf2_475 : (0 : Int) ≤ lf2_475 ∧ lf2_475 ≤ 3000 := e490 ▸ hW477.2 3 _
                                refine .inr ⟨_, rfl, ?_⟩
                                rcases q501 with ⟨a507, a508⟩ | ⟨a509, a510, a511, a512, a513, a514, a515, a516, a517, a518⟩
                                · have _q : True := trivial
                                  refine jr_st (pc' := 119) (i := 36) (m := 6) (z := r375) (y := r467) rfl (by decide) rfl (by decide) (by omega) (by omega) rfl ?_
                                  have hW520 : Wk G465 (uA A466 36 (r375).toNat (r467)) := Wk_a hW477 (show (-2147483648 : Int) ≤ r467 by omega) (show r467 ≤ (2147483647 : Int) by omega)
                                  have hF521 := Fr_a (z := r467) (k := 36) (n := (r375).toNat) hF502 (by decide)
                                  obtain ⟨A519, eA519⟩ : ∃ q, q = uA A466 36 (r375).toNat (r467) := ⟨_, rfl⟩
                                  rw [← eA519]
                                  rw [← eA519] at hW520 hF521
                                  have q522 : A519 36 (r375).toNat = r467 := by rw [eA519]; exact uA_eq
                                  have hP523 : Pf nd A A519 := eA519 ▸ Pf_n hP503 rfl
                                  have hS524 : Fx sr (sy) A A519 := eA519 ▸ Fx_n hS504 rfl
                                  have hV525 : Fx [14] (vi) A A519 := eA519 ▸ Fx_n hV505 rfl
                                  have ec526 : ecn A519 (G465 31) = ec2_476 := (ecn_e ((congrFun eA519 15).trans (uA_ne (by decide)))).trans e491
                                  refine jx_inc (pc' := 122) (l' := jSto1 L434 1 (.int (i32 ((many + (1)))))) (x := many) rfl gL434_1 (by decide) rfl rfl ?_
                                  obtain ⟨L527, eL527⟩ : ∃ q, q = jSto1 L434 1 (.int (i32 ((many + (1))))) := ⟨_, rfl⟩
                                  rw [← eL527]
                                  have gL527_0 : jGet L527 0 = some (.ref 66) := eL527 ▸ jg_ne (by decide) gL434_0 rfl
                                  have gL527_2 : jGet L527 2 = some (.int (i32 (r375))) := eL527 ▸ jg_ne (by decide) gL434_2 rfl
                                  have gL527_1 : jGet L527 1 = some (.int (i32 ((many + (1))))) := eL527 ▸ jg_eq
                                  refine jx_go (tg := 19) rfl rfl ?_
                                  refine jx_ld (pc' := 20) (l' := L527) (st' := [.ref 66]) rfl (jl_aloadn gL527_0) ?_
                                  refine jx_ar (pc' := 21) (st' := [.int (i32 (0)), .ref 66]) rfl rfl rfl rfl ?_
                                  have b528 : (-1 : Int) ≤ A 5 (ln2_468).toNat ∧ A 5 (ln2_468).toNat ≤ 15 := hW.2 5 _
                                  refine jx_vr (pc' := 24) (as := [.int (i32 (0))]) (st := []) rfl rfl rfl rfl ⟨rfl, rfl, Nat.le_of_ble_eq_true rfl⟩ rfl rfl (c_isBelow (dd := d) (hd := by omega) (hW := hW520) (lv := 0) (ln := ln2_468) (e_ln := show G465 9 = ln2_468 from (e483)) (li := li) (e_li := show G465 3 = li from ((hF478.1 3 rfl).trans ((hF440.1 3 rfl).trans ((hF380.1 3 rfl).trans ((hF62.1 3 rfl).trans ((hF34.1 3 rfl).trans ((hF7.1 3 rfl).trans ((hFx.1 3 rfl).trans (e_li))))))))) (fk := fk2_470) (e_fk := show G465 16 = fk2_470 from (e485)) (ll := A 5 (ln2_468).toNat) (e_ll := show A519 5 (ln2_468).toNat = A 5 (ln2_468).toNat from (congrFun (((congrFun eA519 5).trans (uA_ne (by decide))).trans ((hF478.2 5 rfl).trans ((hF440.2 5 rfl).trans ((hF380.2 5 rfl).trans ((hF62.2 5 rfl).trans ((hF34.2 5 rfl).trans ((hF7.2 5 rfl).trans (hFx.2 5 rfl)))))))) _))  (h_lv := ⟨(by decide), (by decide)⟩)  (p_0 := by omega)) (fun o V' hq => ?_)
                                  obtain ⟨G529, A530, r531, fk2_532, rfl, rfl, hW533, hF534, b535, e536, q537⟩ := hq
                                  have hF538 := Fr_tr hF521 hF534 (Fr_sub (by decide)) (Fr_sub (by decide))
                                  have hP539 := Pf_f hP523 hF534 (by decide)
                                  have hS540 := Fx_f hS524 hF534 (by decide)
                                  have hV541 := Fx_f hV525 hF534 (by decide)
                                  have ec542 : ecn A530 (G529 31) = ec2_476 := (ecn_f (hF534.2 15 rfl) (hF534.1 31 rfl)).trans ec526
                                  have bfk2_532 : (0 : Int) ≤ fk2_532 ∧ fk2_532 ≤ 6 := e536 ▸ hW533.1 16
                                  refine .inr ⟨_, rfl, ?_⟩
                                  rcases q537 with ⟨rfl, a543, a544, a545, a546⟩ | ⟨rfl, a547⟩ | ⟨rfl, a548, a549, a550⟩
                                  · have _q : True := trivial
                                    exfalso
                                    omega
                                  · have _q : True := trivial
                                    refine jx_if_eq (pc' := 27) (tg := 125) rfl rfl rfl (by decide) (by decide) (fun h551 => ?_) (fun h551 => ?_)
                                    · have _q := h551
                                      refine jx_ld (pc' := 126) (l' := L527) (st' := [.ref 66]) rfl (jl_aloadn gL527_0) ?_
                                      refine jx_vr (pc' := 129) (as := []) (st := []) rfl rfl rfl rfl ⟨rfl, rfl, Nat.le_of_ble_eq_true rfl⟩ rfl rfl (c_bad (dd := d) (hd := by omega) (hW := hW533)  (fk := fk2_532) (e_fk := show G529 16 = fk2_532 from (e536))    ) (fun o V' hq => ?_)
                                      obtain ⟨r552, rfl, rfl, b553, q554⟩ := hq
                                      refine .inr ⟨_, rfl, ?_⟩
                                      rcases q554 with ⟨rfl, a555⟩ | ⟨rfl, a556⟩
                                      · have _q : True := trivial
                                        refine jx_if_ne (pc' := 132) (tg := 142) rfl rfl rfl (by decide) (by decide) (fun h557 => ?_) (fun h557 => ?_)
                                        · have _q := h557
                                          refine jx_rt (v := none) rfl rfl rfl rfl rfl rfl ?_
                                          exact ⟨_, _, ln2_468, at2_469, fk2_532, nd2_471, sy2_472, na2_473, vi2_474, lf2_475, ec2_476, rfl, rfl, hW533, hF538, hP539, hS540, hV541, ((hF534.1 9 rfl).trans (e483)), ((hF534.1 10 rfl).trans (e484)), (e536), ((hF534.1 31 rfl).trans (e486)), ((hF534.1 19 rfl).trans (e487)), ((hF534.1 28 rfl).trans (e488)), ((hF534.1 29 rfl).trans (e489)), (congrFun ((hF534.2 3 rfl).trans ((congrFun eA519 3).trans (uA_ne (by decide)))) _).trans (e490), ec542, by omega, by omega, by omega, by omega, by omega, by omega, by first | exact Or.inl (by omega)⟩
                                        · have _q := h557
                                          exact absurd h557 (by omega)
                                      · have _q : True := trivial
                                        exfalso
                                        omega
                                    · have _q := h551
                                      exact absurd h551 (by omega)
                                  · have _q : True := trivial
                                    exfalso
                                    omega
                                · have _q : True := trivial
                                  refine jr_st (pc' := 119) (i := 36) (m := 6) (z := r375) (y := r467) rfl (by decide) rfl (by decide) (by omega) (by omega) rfl ?_
                                  have hW559 : Wk G465 (uA A466 36 (r375).toNat (r467)) := Wk_a hW477 (show (-2147483648 : Int) ≤ r467 by omega) (show r467 ≤ (2147483647 : Int) by omega)
                                  have hF560 := Fr_a (z := r467) (k := 36) (n := (r375).toNat) hF502 (by decide)
                                  obtain ⟨A558, eA558⟩ : ∃ q, q = uA A466 36 (r375).toNat (r467) := ⟨_, rfl⟩
                                  rw [← eA558]
                                  rw [← eA558] at hW559 hF560
                                  have q561 : A558 36 (r375).toNat = r467 := by rw [eA558]; exact uA_eq
                                  have hP562 : Pf nd A A558 := eA558 ▸ Pf_n hP503 rfl
                                  have hS563 : Fx sr (sy) A A558 := eA558 ▸ Fx_n hS504 rfl
                                  have hV564 : Fx [14] (vi) A A558 := eA558 ▸ Fx_n hV505 rfl
                                  have sf565 : wB A558 Vs pb (nd) (nd2_471) (sy) (sy2_472) := wB_add eA558 sf506 (by omega) (by omega) (by rw [show A466 36 (r375).toNat = Ax 36 (r375).toNat from (congrFun ((hF478.2 36 rfl).trans ((hF440.2 36 rfl).trans ((hF380.2 36 rfl).trans ((hF62.2 36 rfl).trans ((hF34.2 36 rfl).trans (hF7.2 36 rfl)))))) _)]; rw [show r375 = G56 13 by omega]; omega) a515 (by omega) (by omega) rfl (by omega) (by omega) (by omega) (by omega) rfl
                                  have sf566 : wP A558 (sy2_472) pb (18) (Vs) (r467) (nd1) (nd2_471) (sy1) (sy2_472) := wP_ag (Sg_ne eA558 rfl) (Qg_ne eA558 rfl) (by omega) (by omega) (Ax_ag (Ag_ne eA558 rfl)) a515
                                  have sf567 : NX A558 (r467) := NX_r eA558 (by decide) a516
                                  have ec568 : ecn A558 (G465 31) = ec2_476 := (ecn_e ((congrFun eA558 15).trans (uA_ne (by decide)))).trans e491
                                  refine jx_inc (pc' := 122) (l' := jSto1 L434 1 (.int (i32 ((many + (1)))))) (x := many) rfl gL434_1 (by decide) rfl rfl ?_
                                  obtain ⟨L569, eL569⟩ : ∃ q, q = jSto1 L434 1 (.int (i32 ((many + (1))))) := ⟨_, rfl⟩
                                  rw [← eL569]
                                  have gL569_0 : jGet L569 0 = some (.ref 66) := eL569 ▸ jg_ne (by decide) gL434_0 rfl
                                  have gL569_2 : jGet L569 2 = some (.int (i32 (r375))) := eL569 ▸ jg_ne (by decide) gL434_2 rfl
                                  have gL569_1 : jGet L569 1 = some (.int (i32 ((many + (1))))) := eL569 ▸ jg_eq
                                  refine jx_go (tg := 19) rfl rfl ?_
                                  exact ih19 _ (by omega) L569 G465 A558 ((many + (1))) (ln2_468) (at2_469) (fk2_470) (nd2_471) (sy2_472) (na2_473) (lf2_475) (ec2_476) rfl gL569_0 gL569_1 hW559 hF560 hP562 hS563 hV564 ((e483)) ((e484)) ((e485)) ((e486)) ((e487)) ((e488)) ((congrFun ((congrFun eA558 3).trans (uA_ne (by decide))) _).trans (e490)) (ec568) (Eq.trans (show G465 29 = vi2_474 from (e489)) (by omega)) (by omega) (by omega) (by omega) (by omega) (by omega) (by omega) (by omega) (by omega) (by omega) (by omega) (by omega) (by omega) (sf565) (by omega) (by omega)
                              · have _q := h464
                                exact absurd h464 (by omega)
                          · have _q : True := trivial
                            refine jx_ld (pc' := 101) (l' := L434) (st' := [.ref 66]) rfl (jl_aloadn gL434_0) ?_
                            refine jx_vr (pc' := 104) (as := []) (st := []) rfl rfl rfl rfl ⟨rfl, rfl, Nat.le_of_ble_eq_true rfl⟩ rfl rfl (c_bad (dd := d) (hd := by omega) (hW := hW439)  (fk := fk2_438) (e_fk := show G435 16 = fk2_438 from (e442))    ) (fun o V' hq => ?_)
                            obtain ⟨r570, rfl, rfl, b571, q572⟩ := hq
                            refine .inr ⟨_, rfl, ?_⟩
                            rcases q572 with ⟨rfl, a573⟩ | ⟨rfl, a574⟩
                            · have _q : True := trivial
                              refine jx_if_eq (pc' := 107) (tg := 108) rfl rfl rfl (by decide) (by decide) (fun h575 => ?_) (fun h575 => ?_)
                              · have _q := h575
                                exact absurd h575 (by omega)
                              · have _q := h575
                                refine jx_rt (v := none) rfl rfl rfl rfl rfl rfl ?_
                                exact ⟨_, _, ln2_437, at2_376, fk2_438, nd1, sy1, na1, vi, A 3 (ln2_437).toNat, ec1, rfl, rfl, hW439, hF444, hP445, hS446, hV447, (e441), ((hF440.1 10 rfl).trans (e382)), (e442), ((hF440.1 31 rfl).trans ((hF380.1 31 rfl).trans ((hF62.1 31 rfl).trans ((hF34.1 31 rfl).trans ((hF7.1 31 rfl).trans (ex_nd1)))))), ((hF440.1 19 rfl).trans ((hF380.1 19 rfl).trans ((hF62.1 19 rfl).trans ((hF34.1 19 rfl).trans ((hF7.1 19 rfl).trans (ex_sy1)))))), ((hF440.1 28 rfl).trans ((hF380.1 28 rfl).trans ((hF62.1 28 rfl).trans ((hF34.1 28 rfl).trans ((hF7.1 28 rfl).trans (ex_na1)))))), ((hF440.1 29 rfl).trans ((hF380.1 29 rfl).trans ((hF62.1 29 rfl).trans ((hF34.1 29 rfl).trans ((hF7.1 29 rfl).trans (fx_29)))))), (congrFun ((hF440.2 3 rfl).trans ((hF380.2 3 rfl).trans ((hF62.2 3 rfl).trans ((hF34.2 3 rfl).trans ((hF7.2 3 rfl).trans (hFx.2 3 rfl)))))) _), ec449, by omega, by omega, by omega, by omega, by omega, by omega, by first | exact Or.inl (by omega)⟩
                            · have _q : True := trivial
                              exfalso
                              omega
                      · have _q := h372
                        refine jx_ld (pc' := 81) (l' := L) (st' := [.ref 66]) rfl (jl_aloadn gL_0) ?_
                        refine jx_ar (pc' := 82) (st' := [.int (i32 (1)), .ref 66]) rfl rfl rfl rfl ?_
                        refine jx_ld (pc' := 83) (l' := L) (st' := [.ref 66, .int (i32 (1)), .ref 66]) rfl (jl_aloadn gL_0) ?_
                        have b576 : (-3000 : Int) ≤ G56 12 ∧ G56 12 ≤ 3002 := hW61.1 12
                        refine jr_get (pc' := 86) (i := 12) (v := .int (i32 (G56 12))) rfl rfl (by decide) rfl rfl ?_
                        refine jx_vr (pc' := 89) (as := [.int (i32 (1)), .int (i32 (G56 12))]) (st := []) rfl rfl rfl rfl ⟨rfl, rfl, Nat.le_of_ble_eq_true rfl⟩ rfl rfl (c_fail (dd := d) (hd := by omega) (hW := hW61) (kind := 1) (place := G56 12) (fk := fk2_60) (e_fk := show G56 16 = fk2_60 from (e65))  (h_kind := ⟨(by decide), (by decide)⟩) (h_place := ⟨(Int.le_trans (by decide : (-2147483648 : Int) ≤ -3000) b576.1), (Int.le_trans b576.2 (by decide : (3002 : Int) ≤ 2147483647))⟩)  (p_0 := by omega) (p_1 := by omega)) (fun o V' hq => ?_)
                        obtain ⟨G577, A578, fk2_579, rfl, rfl, hW580, hF581, e582, p583, -⟩ := hq
                        have hF585 := Fr_tr hF69 hF581 (Fr_sub (by decide)) (Fr_sub (by decide))
                        have hP586 := Pf_f hP70 hF581 (by decide)
                        have hS587 := Fx_f hS71 hF581 (by decide)
                        have hV588 := Fx_f hV72 hF581 (by decide)
                        have sf589 : wB A578 Vs pb (nd) (nd1) (sy) (sy1) := (show A578 = A57 from funext (fun k => hF581.2 k rfl)) ▸ sf73
                        have ec590 : ecn A578 (G577 31) = ec1 := (ecn_f (hF581.2 15 rfl) (hF581.1 31 rfl)).trans ec74
                        have bfk2_579 : (0 : Int) ≤ fk2_579 ∧ fk2_579 ≤ 6 := e582 ▸ hW580.1 16
                        refine .inl ⟨rfl, ?_⟩
                        refine jx_ld (pc' := 90) (l' := L) (st' := [.ref 66]) rfl (jl_aloadn gL_0) ?_
                        refine jx_ar (pc' := 91) (st' := [.int (i32 (0)), .ref 66]) rfl rfl rfl rfl ?_
                        refine jx_ar (pc' := 92) (st' := [.int (i32 (5)), .int (i32 (0)), .ref 66]) rfl rfl rfl rfl ?_
                        refine jx_vr (pc' := 95) (as := [.int (i32 (0)), .int (i32 (5))]) (st := []) rfl rfl rfl rfl ⟨rfl, rfl, Nat.le_of_ble_eq_true rfl⟩ rfl rfl (c_needNumber2 (dd := d) (hd := by omega) (hW := hW580) (lo := 0) (hi := 5) (ln := ln1) (e_ln := show G577 9 = ln1 from ((hF581.1 9 rfl).trans ((hF62.1 9 rfl).trans ((hF34.1 9 rfl).trans ((hF7.1 9 rfl).trans (ex_ln1)))))) (le := A 4 (ln1).toNat) (e_le := show A578 4 (ln1).toNat = A 4 (ln1).toNat from (congrFun ((hF581.2 4 rfl).trans ((hF62.2 4 rfl).trans ((hF34.2 4 rfl).trans ((hF7.2 4 rfl).trans (hFx.2 4 rfl))))) _)) (at0 := at2_58) (e_at0 := show G577 10 = at2_58 from ((hF581.1 10 rfl).trans (e63))) (fk := fk2_579) (e_fk := show G577 16 = fk2_579 from (e582)) (tk0 := tk2_59) (e_tk0 := show G577 11 = tk2_59 from ((hF581.1 11 rfl).trans (e64))) (tn := G56 13) (e_tn := show G577 13 = G56 13 from (hF581.1 13 rfl))  (h_lo := ⟨(by decide), (by decide)⟩) (h_hi := ⟨(by decide), (by decide)⟩)  (p_0 := by omega)) (fun o V' hq => ?_)
                        obtain ⟨G591, A592, r593, at2_594, tk2_595, fk2_596, rfl, rfl, hW597, hF598, b599, e600, e601, e602, p603, p604, q605⟩ := hq
                        have hF606 := Fr_tr hF585 hF598 (Fr_sub (by decide)) (Fr_sub (by decide))
                        have hP607 := Pf_f hP586 hF598 (by decide)
                        have hS608 := Fx_f hS587 hF598 (by decide)
                        have hV609 := Fx_f hV588 hF598 (by decide)
                        have sf610 : wB A592 Vs pb (nd) (nd1) (sy) (sy1) := (show A592 = A578 from funext (fun k => hF598.2 k rfl)) ▸ sf589
                        have ec611 : ecn A592 (G591 31) = ec1 := (ecn_f (hF598.2 15 rfl) (hF598.1 31 rfl)).trans ec590
                        have bat2_594 : (0 : Int) ≤ at2_594 ∧ at2_594 ≤ 3002 := e600 ▸ hW597.1 10
                        have ztk2_595 := tz_b tk2_595
                        have btk2_595 : (0 : Int) ≤ tk2_595 ∧ tk2_595 ≤ 5 := e601 ▸ hW597.1 11
                        have bfk2_596 : (0 : Int) ≤ fk2_596 ∧ fk2_596 ≤ 6 := e602 ▸ hW597.1 16
                        refine .inr ⟨_, rfl, ?_⟩
                        rcases q605 with ⟨a612, a613, a614, a615⟩ | ⟨a616, a617, a618, a619, a620, a621, a622⟩
                        · have _q : True := trivial
                          refine jx_ld (pc' := 96) (l' := jSto1 L 2 (.int (i32 (r593)))) (st' := []) rfl rfl ?_
                          obtain ⟨L623, eL623⟩ : ∃ q, q = jSto1 L 2 (.int (i32 (r593))) := ⟨_, rfl⟩
                          rw [← eL623]
                          have gL623_0 : jGet L623 0 = some (.ref 66) := eL623 ▸ jg_ne (by decide) gL_0 rfl
                          have gL623_1 : jGet L623 1 = some (.int (i32 (many))) := eL623 ▸ jg_ne (by decide) gL_1 rfl
                          have gL623_2 : jGet L623 2 = some (.int (i32 (r593))) := eL623 ▸ jg_eq
                          refine jx_ld (pc' := 97) (l' := L623) (st' := [.ref 66]) rfl (jl_aloadn gL623_0) ?_
                          refine jx_vr (pc' := 100) (as := []) (st := []) rfl rfl rfl rfl ⟨rfl, rfl, Nat.le_of_ble_eq_true rfl⟩ rfl rfl (c_endLine (dd := d) (hd := by omega) (hW := hW597)  (ln := ln1) (e_ln := show G591 9 = ln1 from ((hF598.1 9 rfl).trans ((hF581.1 9 rfl).trans ((hF62.1 9 rfl).trans ((hF34.1 9 rfl).trans ((hF7.1 9 rfl).trans (ex_ln1))))))) (li := li) (e_li := show G591 3 = li from ((hF598.1 3 rfl).trans ((hF581.1 3 rfl).trans ((hF62.1 3 rfl).trans ((hF34.1 3 rfl).trans ((hF7.1 3 rfl).trans ((hFx.1 3 rfl).trans (e_li)))))))) (fk := fk2_596) (e_fk := show G591 16 = fk2_596 from (e602)) (tk0 := tk2_595) (e_tk0 := show G591 11 = tk2_595 from (e601))    (p_0 := by omega)) (fun o V' hq => ?_)
                          obtain ⟨G624, A625, ln2_626, fk2_627, rfl, rfl, hW628, hF629, e630, e631, q632⟩ := hq
                          have hF633 := Fr_tr hF606 hF629 (Fr_sub (by decide)) (Fr_sub (by decide))
                          have hP634 := Pf_f hP607 hF629 (by decide)
                          have hS635 := Fx_f hS608 hF629 (by decide)
                          have hV636 := Fx_f hV609 hF629 (by decide)
                          have sf637 : wB A625 Vs pb (nd) (nd1) (sy) (sy1) := (show A625 = A592 from funext (fun k => hF629.2 k rfl)) ▸ sf610
                          have ec638 : ecn A625 (G624 31) = ec1 := (ecn_f (hF629.2 15 rfl) (hF629.1 31 rfl)).trans ec611
                          have bln2_626 : (0 : Int) ≤ ln2_626 ∧ ln2_626 ≤ 3000 := e630 ▸ hW628.1 9
                          have bfk2_627 : (0 : Int) ≤ fk2_627 ∧ fk2_627 ≤ 6 := e631 ▸ hW628.1 16
                          refine .inl ⟨rfl, ?_⟩
                          rcases q632 with ⟨a639, a640, a641, a642, a643⟩ | ⟨a644, a645⟩
                          · have _q : True := trivial
                            exfalso
                            omega
                          · have _q : True := trivial
                            refine jx_ld (pc' := 101) (l' := L623) (st' := [.ref 66]) rfl (jl_aloadn gL623_0) ?_
                            refine jx_vr (pc' := 104) (as := []) (st := []) rfl rfl rfl rfl ⟨rfl, rfl, Nat.le_of_ble_eq_true rfl⟩ rfl rfl (c_bad (dd := d) (hd := by omega) (hW := hW628)  (fk := fk2_627) (e_fk := show G624 16 = fk2_627 from (e631))    ) (fun o V' hq => ?_)
                            obtain ⟨r646, rfl, rfl, b647, q648⟩ := hq
                            refine .inr ⟨_, rfl, ?_⟩
                            rcases q648 with ⟨rfl, a649⟩ | ⟨rfl, a650⟩
                            · have _q : True := trivial
                              refine jx_if_eq (pc' := 107) (tg := 108) rfl rfl rfl (by decide) (by decide) (fun h651 => ?_) (fun h651 => ?_)
                              · have _q := h651
                                exact absurd h651 (by omega)
                              · have _q := h651
                                refine jx_rt (v := none) rfl rfl rfl rfl rfl rfl ?_
                                exact ⟨_, _, ln2_626, at2_594, fk2_627, nd1, sy1, na1, vi, A 3 (ln2_626).toNat, ec1, rfl, rfl, hW628, hF633, hP634, hS635, hV636, (e630), ((hF629.1 10 rfl).trans (e600)), (e631), ((hF629.1 31 rfl).trans ((hF598.1 31 rfl).trans ((hF581.1 31 rfl).trans ((hF62.1 31 rfl).trans ((hF34.1 31 rfl).trans ((hF7.1 31 rfl).trans (ex_nd1))))))), ((hF629.1 19 rfl).trans ((hF598.1 19 rfl).trans ((hF581.1 19 rfl).trans ((hF62.1 19 rfl).trans ((hF34.1 19 rfl).trans ((hF7.1 19 rfl).trans (ex_sy1))))))), ((hF629.1 28 rfl).trans ((hF598.1 28 rfl).trans ((hF581.1 28 rfl).trans ((hF62.1 28 rfl).trans ((hF34.1 28 rfl).trans ((hF7.1 28 rfl).trans (ex_na1))))))), ((hF629.1 29 rfl).trans ((hF598.1 29 rfl).trans ((hF581.1 29 rfl).trans ((hF62.1 29 rfl).trans ((hF34.1 29 rfl).trans ((hF7.1 29 rfl).trans (fx_29))))))), (congrFun ((hF629.2 3 rfl).trans ((hF598.2 3 rfl).trans ((hF581.2 3 rfl).trans ((hF62.2 3 rfl).trans ((hF34.2 3 rfl).trans ((hF7.2 3 rfl).trans (hFx.2 3 rfl))))))) _), ec638, by omega, by omega, by omega, by omega, by omega, by omega, by first | exact Or.inl (by omega)⟩
                            · have _q : True := trivial
                              exfalso
                              omega
                        · have _q : True := trivial
                          exfalso
                          omega
                  · have _q : True := trivial
                    refine jx_if_eq (pc' := 68) (tg := 89) rfl rfl rfl (by decide) (by decide) (fun h652 => ?_) (fun h652 => ?_)
                    · have _q := h652
                      refine jx_ld (pc' := 90) (l' := L) (st' := [.ref 66]) rfl (jl_aloadn gL_0) ?_
                      refine jx_ar (pc' := 91) (st' := [.int (i32 (0)), .ref 66]) rfl rfl rfl rfl ?_
                      refine jx_ar (pc' := 92) (st' := [.int (i32 (5)), .int (i32 (0)), .ref 66]) rfl rfl rfl rfl ?_
                      refine jx_vr (pc' := 95) (as := [.int (i32 (0)), .int (i32 (5))]) (st := []) rfl rfl rfl rfl ⟨rfl, rfl, Nat.le_of_ble_eq_true rfl⟩ rfl rfl (c_needNumber2 (dd := d) (hd := by omega) (hW := hW61) (lo := 0) (hi := 5) (ln := ln1) (e_ln := show G56 9 = ln1 from ((hF62.1 9 rfl).trans ((hF34.1 9 rfl).trans ((hF7.1 9 rfl).trans (ex_ln1))))) (le := A 4 (ln1).toNat) (e_le := show A57 4 (ln1).toNat = A 4 (ln1).toNat from (congrFun ((hF62.2 4 rfl).trans ((hF34.2 4 rfl).trans ((hF7.2 4 rfl).trans (hFx.2 4 rfl)))) _)) (at0 := at2_58) (e_at0 := show G56 10 = at2_58 from (e63)) (fk := fk2_60) (e_fk := show G56 16 = fk2_60 from (e65)) (tk0 := tk2_59) (e_tk0 := show G56 11 = tk2_59 from (e64)) (tn := G56 13) (e_tn := show G56 13 = G56 13 from rfl)  (h_lo := ⟨(by decide), (by decide)⟩) (h_hi := ⟨(by decide), (by decide)⟩)  (p_0 := by omega)) (fun o V' hq => ?_)
                      obtain ⟨G653, A654, r655, at2_656, tk2_657, fk2_658, rfl, rfl, hW659, hF660, b661, e662, e663, e664, p665, p666, q667⟩ := hq
                      have hF668 := Fr_tr hF69 hF660 (Fr_sub (by decide)) (Fr_sub (by decide))
                      have hP669 := Pf_f hP70 hF660 (by decide)
                      have hS670 := Fx_f hS71 hF660 (by decide)
                      have hV671 := Fx_f hV72 hF660 (by decide)
                      have sf672 : wB A654 Vs pb (nd) (nd1) (sy) (sy1) := (show A654 = A57 from funext (fun k => hF660.2 k rfl)) ▸ sf73
                      have ec673 : ecn A654 (G653 31) = ec1 := (ecn_f (hF660.2 15 rfl) (hF660.1 31 rfl)).trans ec74
                      have bat2_656 : (0 : Int) ≤ at2_656 ∧ at2_656 ≤ 3002 := e662 ▸ hW659.1 10
                      have ztk2_657 := tz_b tk2_657
                      have btk2_657 : (0 : Int) ≤ tk2_657 ∧ tk2_657 ≤ 5 := e663 ▸ hW659.1 11
                      have bfk2_658 : (0 : Int) ≤ fk2_658 ∧ fk2_658 ≤ 6 := e664 ▸ hW659.1 16
                      refine .inr ⟨_, rfl, ?_⟩
                      rcases q667 with ⟨a674, a675, a676, a677⟩ | ⟨a678, a679, a680, a681, a682, a683, a684⟩
                      · have _q : True := trivial
                        refine jx_ld (pc' := 96) (l' := jSto1 L 2 (.int (i32 (r655)))) (st' := []) rfl rfl ?_
                        obtain ⟨L685, eL685⟩ : ∃ q, q = jSto1 L 2 (.int (i32 (r655))) := ⟨_, rfl⟩
                        rw [← eL685]
                        have gL685_0 : jGet L685 0 = some (.ref 66) := eL685 ▸ jg_ne (by decide) gL_0 rfl
                        have gL685_1 : jGet L685 1 = some (.int (i32 (many))) := eL685 ▸ jg_ne (by decide) gL_1 rfl
                        have gL685_2 : jGet L685 2 = some (.int (i32 (r655))) := eL685 ▸ jg_eq
                        refine jx_ld (pc' := 97) (l' := L685) (st' := [.ref 66]) rfl (jl_aloadn gL685_0) ?_
                        refine jx_vr (pc' := 100) (as := []) (st := []) rfl rfl rfl rfl ⟨rfl, rfl, Nat.le_of_ble_eq_true rfl⟩ rfl rfl (c_endLine (dd := d) (hd := by omega) (hW := hW659)  (ln := ln1) (e_ln := show G653 9 = ln1 from ((hF660.1 9 rfl).trans ((hF62.1 9 rfl).trans ((hF34.1 9 rfl).trans ((hF7.1 9 rfl).trans (ex_ln1)))))) (li := li) (e_li := show G653 3 = li from ((hF660.1 3 rfl).trans ((hF62.1 3 rfl).trans ((hF34.1 3 rfl).trans ((hF7.1 3 rfl).trans ((hFx.1 3 rfl).trans (e_li))))))) (fk := fk2_658) (e_fk := show G653 16 = fk2_658 from (e664)) (tk0 := tk2_657) (e_tk0 := show G653 11 = tk2_657 from (e663))    (p_0 := by omega)) (fun o V' hq => ?_)
                        obtain ⟨G686, A687, ln2_688, fk2_689, rfl, rfl, hW690, hF691, e692, e693, q694⟩ := hq
                        have hF695 := Fr_tr hF668 hF691 (Fr_sub (by decide)) (Fr_sub (by decide))
                        have hP696 := Pf_f hP669 hF691 (by decide)
                        have hS697 := Fx_f hS670 hF691 (by decide)
                        have hV698 := Fx_f hV671 hF691 (by decide)
                        have sf699 : wB A687 Vs pb (nd) (nd1) (sy) (sy1) := (show A687 = A654 from funext (fun k => hF691.2 k rfl)) ▸ sf672
                        have ec700 : ecn A687 (G686 31) = ec1 := (ecn_f (hF691.2 15 rfl) (hF691.1 31 rfl)).trans ec673
                        have bln2_688 : (0 : Int) ≤ ln2_688 ∧ ln2_688 ≤ 3000 := e692 ▸ hW690.1 9
                        have bfk2_689 : (0 : Int) ≤ fk2_689 ∧ fk2_689 ≤ 6 := e693 ▸ hW690.1 16
                        refine .inl ⟨rfl, ?_⟩
                        rcases q694 with ⟨a701, a702, a703, a704, a705⟩ | ⟨a706, a707⟩
                        · have _q : True := trivial
                          exfalso
                          omega
                        · have _q : True := trivial
                          refine jx_ld (pc' := 101) (l' := L685) (st' := [.ref 66]) rfl (jl_aloadn gL685_0) ?_
                          refine jx_vr (pc' := 104) (as := []) (st := []) rfl rfl rfl rfl ⟨rfl, rfl, Nat.le_of_ble_eq_true rfl⟩ rfl rfl (c_bad (dd := d) (hd := by omega) (hW := hW690)  (fk := fk2_689) (e_fk := show G686 16 = fk2_689 from (e693))    ) (fun o V' hq => ?_)
                          obtain ⟨r708, rfl, rfl, b709, q710⟩ := hq
                          refine .inr ⟨_, rfl, ?_⟩
                          rcases q710 with ⟨rfl, a711⟩ | ⟨rfl, a712⟩
                          · have _q : True := trivial
                            refine jx_if_eq (pc' := 107) (tg := 108) rfl rfl rfl (by decide) (by decide) (fun h713 => ?_) (fun h713 => ?_)
                            · have _q := h713
                              exact absurd h713 (by omega)
                            · have _q := h713
                              refine jx_rt (v := none) rfl rfl rfl rfl rfl rfl ?_
                              exact ⟨_, _, ln2_688, at2_656, fk2_689, nd1, sy1, na1, vi, A 3 (ln2_688).toNat, ec1, rfl, rfl, hW690, hF695, hP696, hS697, hV698, (e692), ((hF691.1 10 rfl).trans (e662)), (e693), ((hF691.1 31 rfl).trans ((hF660.1 31 rfl).trans ((hF62.1 31 rfl).trans ((hF34.1 31 rfl).trans ((hF7.1 31 rfl).trans (ex_nd1)))))), ((hF691.1 19 rfl).trans ((hF660.1 19 rfl).trans ((hF62.1 19 rfl).trans ((hF34.1 19 rfl).trans ((hF7.1 19 rfl).trans (ex_sy1)))))), ((hF691.1 28 rfl).trans ((hF660.1 28 rfl).trans ((hF62.1 28 rfl).trans ((hF34.1 28 rfl).trans ((hF7.1 28 rfl).trans (ex_na1)))))), ((hF691.1 29 rfl).trans ((hF660.1 29 rfl).trans ((hF62.1 29 rfl).trans ((hF34.1 29 rfl).trans ((hF7.1 29 rfl).trans (fx_29)))))), (congrFun ((hF691.2 3 rfl).trans ((hF660.2 3 rfl).trans ((hF62.2 3 rfl).trans ((hF34.2 3 rfl).trans ((hF7.2 3 rfl).trans (hFx.2 3 rfl)))))) _), ec700, by omega, by omega, by omega, by omega, by omega, by omega, by first | exact Or.inl (by omega)⟩
                          · have _q : True := trivial
                            exfalso
                            omega
                      · have _q : True := trivial
                        refine jx_ld (pc' := 96) (l' := jSto1 L 2 (.int (i32 (r655)))) (st' := []) rfl rfl ?_
                        obtain ⟨L714, eL714⟩ : ∃ q, q = jSto1 L 2 (.int (i32 (r655))) := ⟨_, rfl⟩
                        rw [← eL714]
                        have gL714_0 : jGet L714 0 = some (.ref 66) := eL714 ▸ jg_ne (by decide) gL_0 rfl
                        have gL714_1 : jGet L714 1 = some (.int (i32 (many))) := eL714 ▸ jg_ne (by decide) gL_1 rfl
                        have gL714_2 : jGet L714 2 = some (.int (i32 (r655))) := eL714 ▸ jg_eq
                        refine jx_ld (pc' := 97) (l' := L714) (st' := [.ref 66]) rfl (jl_aloadn gL714_0) ?_
                        refine jx_vr (pc' := 100) (as := []) (st := []) rfl rfl rfl rfl ⟨rfl, rfl, Nat.le_of_ble_eq_true rfl⟩ rfl rfl (c_endLine (dd := d) (hd := by omega) (hW := hW659)  (ln := ln1) (e_ln := show G653 9 = ln1 from ((hF660.1 9 rfl).trans ((hF62.1 9 rfl).trans ((hF34.1 9 rfl).trans ((hF7.1 9 rfl).trans (ex_ln1)))))) (li := li) (e_li := show G653 3 = li from ((hF660.1 3 rfl).trans ((hF62.1 3 rfl).trans ((hF34.1 3 rfl).trans ((hF7.1 3 rfl).trans ((hFx.1 3 rfl).trans (e_li))))))) (fk := fk2_658) (e_fk := show G653 16 = fk2_658 from (e664)) (tk0 := tk2_657) (e_tk0 := show G653 11 = tk2_657 from (e663))    (p_0 := by omega)) (fun o V' hq => ?_)
                        obtain ⟨G715, A716, ln2_717, fk2_718, rfl, rfl, hW719, hF720, e721, e722, q723⟩ := hq
                        have hF724 := Fr_tr hF668 hF720 (Fr_sub (by decide)) (Fr_sub (by decide))
                        have hP725 := Pf_f hP669 hF720 (by decide)
                        have hS726 := Fx_f hS670 hF720 (by decide)
                        have hV727 := Fx_f hV671 hF720 (by decide)
                        have sf728 : wB A716 Vs pb (nd) (nd1) (sy) (sy1) := (show A716 = A654 from funext (fun k => hF720.2 k rfl)) ▸ sf672
                        have ec729 : ecn A716 (G715 31) = ec1 := (ecn_f (hF720.2 15 rfl) (hF720.1 31 rfl)).trans ec673
                        have bln2_717 : (0 : Int) ≤ ln2_717 ∧ ln2_717 ≤ 3000 := e721 ▸ hW719.1 9
                        have bfk2_718 : (0 : Int) ≤ fk2_718 ∧ fk2_718 ≤ 6 := e722 ▸ hW719.1 16
                        refine .inl ⟨rfl, ?_⟩
                        rcases q723 with ⟨a730, a731, a732, a733, a734⟩ | ⟨a735, a736⟩
                        · have _q : True := trivial
                          have b737 : (0 : Int) ≤ A 3 (ln2_717).toNat ∧ A 3 (ln2_717).toNat ≤ 3000 := hW.2 3 _
                          have lt738 : ln2_717 < li → A 4 (ln1).toNat < A 3 (ln2_717).toNat := fun hh => LT_nx (LT_ext (((hF720.1 3 rfl).trans ((hF660.1 3 rfl).trans ((hF62.1 3 rfl).trans ((hF34.1 3 rfl).trans ((hF7.1 3 rfl).trans (hFx.1 3 rfl))))))) (((hF720.2 3 rfl).trans ((hF660.2 3 rfl).trans ((hF62.2 3 rfl).trans ((hF34.2 3 rfl).trans ((hF7.2 3 rfl).trans (hFx.2 3 rfl))))))) (((hF720.2 4 rfl).trans ((hF660.2 4 rfl).trans ((hF62.2 4 rfl).trans ((hF34.2 4 rfl).trans ((hF7.2 4 rfl).trans (hFx.2 4 rfl))))))) i_LT) (show G715 3 = li from ((hF720.1 3 rfl).trans ((hF660.1 3 rfl).trans ((hF62.1 3 rfl).trans ((hF34.1 3 rfl).trans ((hF7.1 3 rfl).trans ((hFx.1 3 rfl).trans (e_li)))))))) (show A716 4 (ln1).toNat = A 4 (ln1).toNat from (congrFun ((hF720.2 4 rfl).trans ((hF660.2 4 rfl).trans ((hF62.2 4 rfl).trans ((hF34.2 4 rfl).trans ((hF7.2 4 rfl).trans (hFx.2 4 rfl)))))) _)) (show A716 3 (ln2_717).toNat = A 3 (ln2_717).toNat from (congrFun ((hF720.2 3 rfl).trans ((hF660.2 3 rfl).trans ((hF62.2 3 rfl).trans ((hF34.2 3 rfl).trans ((hF7.2 3 rfl).trans (hFx.2 3 rfl)))))) _)) (show ln2_717 = ln1 + 1 by omega) (by omega) hh
                          refine jx_ld (pc' := 101) (l' := L714) (st' := [.ref 66]) rfl (jl_aloadn gL714_0) ?_
                          refine jx_vr (pc' := 104) (as := []) (st := []) rfl rfl rfl rfl ⟨rfl, rfl, Nat.le_of_ble_eq_true rfl⟩ rfl rfl (c_bad (dd := d) (hd := by omega) (hW := hW719)  (fk := fk2_718) (e_fk := show G715 16 = fk2_718 from (e722))    ) (fun o V' hq => ?_)
                          obtain ⟨r739, rfl, rfl, b740, q741⟩ := hq
                          refine .inr ⟨_, rfl, ?_⟩
                          rcases q741 with ⟨rfl, a742⟩ | ⟨rfl, a743⟩
                          · have _q : True := trivial
                            exfalso
                            omega
                          · have _q : True := trivial
                            refine jx_if_eq (pc' := 107) (tg := 108) rfl rfl rfl (by decide) (by decide) (fun h744 => ?_) (fun h744 => ?_)
                            · have _q := h744
                              refine jx_ld (pc' := 109) (l' := L714) (st' := [.ref 66]) rfl (jl_aloadn gL714_0) ?_
                              refine jr_get (pc' := 112) (i := 55) (v := .ref 103) rfl rfl (by decide) rfl rfl ?_
                              refine jx_ld (pc' := 113) (l' := L714) (st' := [.int (i32 (r655)), .ref 103]) rfl (jl_iloadn gL714_2) ?_
                              refine jx_ld (pc' := 114) (l' := L714) (st' := [.ref 66, .int (i32 (r655)), .ref 103]) rfl (jl_aloadn gL714_0) ?_
                              refine jx_ar (pc' := 115) (st' := [.int (i32 (2)), .ref 66, .int (i32 (r655)), .ref 103]) rfl rfl rfl rfl ?_
                              refine jx_vr (pc' := 118) (as := [.int (i32 (2))]) (st := [.int (i32 (r655)), .ref 103]) rfl rfl rfl rfl ⟨rfl, rfl, Nat.le_of_ble_eq_true rfl⟩ rfl rfl (RP_all X 18 (dd := d) (hd := by omega) (hW := hW719) (lv := 2) (at0 := at2_656) (ln := ln2_717) (e_ln := show G715 9 = ln2_717 from (e721)) (li := li) (e_li := show G715 3 = li from ((hF720.1 3 rfl).trans ((hF660.1 3 rfl).trans ((hF62.1 3 rfl).trans ((hF34.1 3 rfl).trans ((hF7.1 3 rfl).trans ((hFx.1 3 rfl).trans (e_li)))))))) (fk := fk2_718) (e_fk := show G715 16 = fk2_718 from (e722)) (nd := nd1) (e_nd := show G715 31 = nd1 from ((hF720.1 31 rfl).trans ((hF660.1 31 rfl).trans ((hF62.1 31 rfl).trans ((hF34.1 31 rfl).trans ((hF7.1 31 rfl).trans (ex_nd1))))))) (sy := sy1) (e_sy := show G715 19 = sy1 from ((hF720.1 19 rfl).trans ((hF660.1 19 rfl).trans ((hF62.1 19 rfl).trans ((hF34.1 19 rfl).trans ((hF7.1 19 rfl).trans (ex_sy1))))))) (na := na1) (e_na := show G715 28 = na1 from ((hF720.1 28 rfl).trans ((hF660.1 28 rfl).trans ((hF62.1 28 rfl).trans ((hF34.1 28 rfl).trans ((hF7.1 28 rfl).trans (ex_na1))))))) (vi := vi) (e_vi := show G715 29 = vi from ((hF720.1 29 rfl).trans ((hF660.1 29 rfl).trans ((hF62.1 29 rfl).trans ((hF34.1 29 rfl).trans ((hF7.1 29 rfl).trans (fx_29))))))) (lf := A 3 (ln2_717).toNat) (e_lf := show A716 3 (ln2_717).toNat = A 3 (ln2_717).toNat from (congrFun ((hF720.2 3 rfl).trans ((hF660.2 3 rfl).trans ((hF62.2 3 rfl).trans ((hF34.2 3 rfl).trans ((hF7.2 3 rfl).trans (hFx.2 3 rfl)))))) _)) (ac := at2_656) (e_ac := show G715 10 = at2_656 from ((hF720.1 10 rfl).trans (e662))) (ec := ec1) (e_ec := show ecn A716 (G715 31) = ec1 from ec729) (i_LT := (LT_ext (((hF720.1 3 rfl).trans ((hF660.1 3 rfl).trans ((hF62.1 3 rfl).trans ((hF34.1 3 rfl).trans ((hF7.1 3 rfl).trans (hFx.1 3 rfl))))))) (((hF720.2 3 rfl).trans ((hF660.2 3 rfl).trans ((hF62.2 3 rfl).trans ((hF34.2 3 rfl).trans ((hF7.2 3 rfl).trans (hFx.2 3 rfl))))))) (((hF720.2 4 rfl).trans ((hF660.2 4 rfl).trans ((hF62.2 4 rfl).trans ((hF34.2 4 rfl).trans ((hF7.2 4 rfl).trans (hFx.2 4 rfl))))))) i_LT)) (i_SV := (SV_fx i_SV e_vi (show G715 29 = vi from ((hF720.1 29 rfl).trans ((hF660.1 29 rfl).trans ((hF62.1 29 rfl).trans ((hF34.1 29 rfl).trans ((hF7.1 29 rfl).trans (fx_29))))))) (by omega) hV727)) (i_PQ := (PQ_fx i_PQ hS726 (by omega) (hF724.2 29 rfl) (hF724.2 30 rfl))) (hvb := hvb) (h_lv := ⟨(by decide), (by decide)⟩)  (p_0 := by omega) (p_1 := by omega) (p_2 := by omega) (p_3 := by omega) (p_4 := by omega) (p_5 := by omega) (p_6 := by omega) (p_7 := by omega) (p_8 := by omega) (p_9 := by omega) (p_10 := by omega)) (fun o V' hq => ?_)
                              obtain ⟨G745, A746, r747, ln2_748, at2_749, fk2_750, nd2_751, sy2_752, na2_753, vi2_754, lf2_755, ec2_756, rfl, rfl, hW757, hF758, hQ759, hQ760, hQ761, b762, e763, e764, e765, e766, e767, e768, e769, e770, e771, p772, p773, p774, p775, p776, p777, p778, p779, p780, q781⟩ := hq
                              have hF782 := Fr_tr hF724 hF758 (Fr_sub (by decide)) (Fr_sub (by decide))
                              have hP783 := Pf_tr hP725 hQ759 (by omega)
                              have hS784 := Fx_tr hS726 hQ760 (by omega)
                              have hV785 := Fx_tr hV727 hQ761 (by omega)
                              have sf786 : wB A746 Vs pb (nd) (nd1) (sy) (sy1) := wB_fx (fun k j hk hj => hQ759 k j hk (by omega)) (Fx_su hQ760 (by omega)) (Qg_fx (Fx_f (w := pb) Fx_rf hF758 (by decide)) (by omega)) (hF758.2 36 rfl) (by omega) sf728
                              have bln2_748 : (0 : Int) ≤ ln2_748 ∧ ln2_748 ≤ 3000 := e763 ▸ hW757.1 9
                              have bat2_749 : (0 : Int) ≤ at2_749 ∧ at2_749 ≤ 3002 := e764 ▸ hW757.1 10
                              have bfk2_750 : (0 : Int) ≤ fk2_750 ∧ fk2_750 ≤ 6 := e765 ▸ hW757.1 16
                              have bnd2_751 : (0 : Int) ≤ nd2_751 ∧ nd2_751 ≤ 6999 := e766 ▸ hW757.1 31
                              have bsy2_752 : (0 : Int) ≤ sy2_752 ∧ sy2_752 ≤ 202 := e767 ▸ hW757.1 19
                              have bna2_753 : (0 : Int) ≤ na2_753 ∧ na2_753 ≤ 200 := e768 ▸ hW757.1 28
                              have bvi2_754 : (0 : Int) ≤ vi2_754 ∧ vi2_754 ≤ 202 := e769 ▸ hW757.1 29
                              have blf2_755 : (0 : Int) ≤ lf2_755 ∧ lf2_755 ≤ 3000 := e770 ▸ hW757.2 3 _
                              refine .inr ⟨_, rfl, ?_⟩
                              rcases q781 with ⟨a787, a788⟩ | ⟨a789, a790, a791, a792, a793, a794, a795, a796, a797, a798⟩
                              · have _q : True := trivial
                                refine jr_st (pc' := 119) (i := 36) (m := 6) (z := r655) (y := r747) rfl (by decide) rfl (by decide) (by omega) (by omega) rfl ?_
                                have hW800 : Wk G745 (uA A746 36 (r655).toNat (r747)) := Wk_a hW757 (show (-2147483648 : Int) ≤ r747 by omega) (show r747 ≤ (2147483647 : Int) by omega)
                                have hF801 := Fr_a (z := r747) (k := 36) (n := (r655).toNat) hF782 (by decide)
                                obtain ⟨A799, eA799⟩ : ∃ q, q = uA A746 36 (r655).toNat (r747) := ⟨_, rfl⟩
                                rw [← eA799]
                                rw [← eA799] at hW800 hF801
                                have q802 : A799 36 (r655).toNat = r747 := by rw [eA799]; exact uA_eq
                                have hP803 : Pf nd A A799 := eA799 ▸ Pf_n hP783 rfl
                                have hS804 : Fx sr (sy) A A799 := eA799 ▸ Fx_n hS784 rfl
                                have hV805 : Fx [14] (vi) A A799 := eA799 ▸ Fx_n hV785 rfl
                                have ec806 : ecn A799 (G745 31) = ec2_756 := (ecn_e ((congrFun eA799 15).trans (uA_ne (by decide)))).trans e771
                                refine jx_inc (pc' := 122) (l' := jSto1 L714 1 (.int (i32 ((many + (1)))))) (x := many) rfl gL714_1 (by decide) rfl rfl ?_
                                obtain ⟨L807, eL807⟩ : ∃ q, q = jSto1 L714 1 (.int (i32 ((many + (1))))) := ⟨_, rfl⟩
                                rw [← eL807]
                                have gL807_0 : jGet L807 0 = some (.ref 66) := eL807 ▸ jg_ne (by decide) gL714_0 rfl
                                have gL807_2 : jGet L807 2 = some (.int (i32 (r655))) := eL807 ▸ jg_ne (by decide) gL714_2 rfl
                                have gL807_1 : jGet L807 1 = some (.int (i32 ((many + (1))))) := eL807 ▸ jg_eq
                                refine jx_go (tg := 19) rfl rfl ?_
                                refine jx_ld (pc' := 20) (l' := L807) (st' := [.ref 66]) rfl (jl_aloadn gL807_0) ?_
                                refine jx_ar (pc' := 21) (st' := [.int (i32 (0)), .ref 66]) rfl rfl rfl rfl ?_
                                have b808 : (-1 : Int) ≤ A 5 (ln2_748).toNat ∧ A 5 (ln2_748).toNat ≤ 15 := hW.2 5 _
                                refine jx_vr (pc' := 24) (as := [.int (i32 (0))]) (st := []) rfl rfl rfl rfl ⟨rfl, rfl, Nat.le_of_ble_eq_true rfl⟩ rfl rfl (c_isBelow (dd := d) (hd := by omega) (hW := hW800) (lv := 0) (ln := ln2_748) (e_ln := show G745 9 = ln2_748 from (e763)) (li := li) (e_li := show G745 3 = li from ((hF758.1 3 rfl).trans ((hF720.1 3 rfl).trans ((hF660.1 3 rfl).trans ((hF62.1 3 rfl).trans ((hF34.1 3 rfl).trans ((hF7.1 3 rfl).trans ((hFx.1 3 rfl).trans (e_li))))))))) (fk := fk2_750) (e_fk := show G745 16 = fk2_750 from (e765)) (ll := A 5 (ln2_748).toNat) (e_ll := show A799 5 (ln2_748).toNat = A 5 (ln2_748).toNat from (congrFun (((congrFun eA799 5).trans (uA_ne (by decide))).trans ((hF758.2 5 rfl).trans ((hF720.2 5 rfl).trans ((hF660.2 5 rfl).trans ((hF62.2 5 rfl).trans ((hF34.2 5 rfl).trans ((hF7.2 5 rfl).trans (hFx.2 5 rfl)))))))) _))  (h_lv := ⟨(by decide), (by decide)⟩)  (p_0 := by omega)) (fun o V' hq => ?_)
                                obtain ⟨G809, A810, r811, fk2_812, rfl, rfl, hW813, hF814, b815, e816, q817⟩ := hq
                                have hF818 := Fr_tr hF801 hF814 (Fr_sub (by decide)) (Fr_sub (by decide))
                                have hP819 := Pf_f hP803 hF814 (by decide)
                                have hS820 := Fx_f hS804 hF814 (by decide)
                                have hV821 := Fx_f hV805 hF814 (by decide)
                                have ec822 : ecn A810 (G809 31) = ec2_756 := (ecn_f (hF814.2 15 rfl) (hF814.1 31 rfl)).trans ec806
                                have bfk2_812 : (0 : Int) ≤ fk2_812 ∧ fk2_812 ≤ 6 := e816 ▸ hW813.1 16
                                refine .inr ⟨_, rfl, ?_⟩
                                rcases q817 with ⟨rfl, a823, a824, a825, a826⟩ | ⟨rfl, a827⟩ | ⟨rfl, a828, a829, a830⟩
                                · have _q : True := trivial
                                  exfalso
                                  omega
                                · have _q : True := trivial
                                  refine jx_if_eq (pc' := 27) (tg := 125) rfl rfl rfl (by decide) (by decide) (fun h831 => ?_) (fun h831 => ?_)
                                  · have _q := h831
                                    refine jx_ld (pc' := 126) (l' := L807) (st' := [.ref 66]) rfl (jl_aloadn gL807_0) ?_
                                    refine jx_vr (pc' := 129) (as := []) (st := []) rfl rfl rfl rfl ⟨rfl, rfl, Nat.le_of_ble_eq_true rfl⟩ rfl rfl (c_bad (dd := d) (hd := by omega) (hW := hW813)  (fk := fk2_812) (e_fk := show G809 16 = fk2_812 from (e816))    ) (fun o V' hq => ?_)
                                    obtain ⟨r832, rfl, rfl, b833, q834⟩ := hq
                                    refine .inr ⟨_, rfl, ?_⟩
                                    rcases q834 with ⟨rfl, a835⟩ | ⟨rfl, a836⟩
                                    · have _q : True := trivial
                                      refine jx_if_ne (pc' := 132) (tg := 142) rfl rfl rfl (by decide) (by decide) (fun h837 => ?_) (fun h837 => ?_)
                                      · have _q := h837
                                        refine jx_rt (v := none) rfl rfl rfl rfl rfl rfl ?_
                                        exact ⟨_, _, ln2_748, at2_749, fk2_812, nd2_751, sy2_752, na2_753, vi2_754, lf2_755, ec2_756, rfl, rfl, hW813, hF818, hP819, hS820, hV821, ((hF814.1 9 rfl).trans (e763)), ((hF814.1 10 rfl).trans (e764)), (e816), ((hF814.1 31 rfl).trans (e766)), ((hF814.1 19 rfl).trans (e767)), ((hF814.1 28 rfl).trans (e768)), ((hF814.1 29 rfl).trans (e769)), (congrFun ((hF814.2 3 rfl).trans ((congrFun eA799 3).trans (uA_ne (by decide)))) _).trans (e770), ec822, by omega, by omega, by omega, by omega, by omega, by omega, by first | exact Or.inl (by omega)⟩
                                      · have _q := h837
                                        exact absurd h837 (by omega)
                                    · have _q : True := trivial
                                      exfalso
                                      omega
                                  · have _q := h831
                                    exact absurd h831 (by omega)
                                · have _q : True := trivial
                                  exfalso
                                  omega
                              · have _q : True := trivial
                                refine jr_st (pc' := 119) (i := 36) (m := 6) (z := r655) (y := r747) rfl (by decide) rfl (by decide) (by omega) (by omega) rfl ?_
                                have hW839 : Wk G745 (uA A746 36 (r655).toNat (r747)) := Wk_a hW757 (show (-2147483648 : Int) ≤ r747 by omega) (show r747 ≤ (2147483647 : Int) by omega)
                                have hF840 := Fr_a (z := r747) (k := 36) (n := (r655).toNat) hF782 (by decide)
                                obtain ⟨A838, eA838⟩ : ∃ q, q = uA A746 36 (r655).toNat (r747) := ⟨_, rfl⟩
                                rw [← eA838]
                                rw [← eA838] at hW839 hF840
                                have q841 : A838 36 (r655).toNat = r747 := by rw [eA838]; exact uA_eq
                                have hP842 : Pf nd A A838 := eA838 ▸ Pf_n hP783 rfl
                                have hS843 : Fx sr (sy) A A838 := eA838 ▸ Fx_n hS784 rfl
                                have hV844 : Fx [14] (vi) A A838 := eA838 ▸ Fx_n hV785 rfl
                                have sf845 : wB A838 Vs pb (nd) (nd2_751) (sy) (sy2_752) := wB_add eA838 sf786 (by omega) (by omega) (by omega) a795 (by omega) (by omega) rfl (by omega) (by omega) (by omega) (by omega) rfl
                                have sf846 : wP A838 (sy2_752) pb (18) (Vs) (r747) (nd1) (nd2_751) (sy1) (sy2_752) := wP_ag (Sg_ne eA838 rfl) (Qg_ne eA838 rfl) (by omega) (by omega) (Ax_ag (Ag_ne eA838 rfl)) a795
                                have sf847 : NX A838 (r747) := NX_r eA838 (by decide) a796
                                have ec848 : ecn A838 (G745 31) = ec2_756 := (ecn_e ((congrFun eA838 15).trans (uA_ne (by decide)))).trans e771
                                refine jx_inc (pc' := 122) (l' := jSto1 L714 1 (.int (i32 ((many + (1)))))) (x := many) rfl gL714_1 (by decide) rfl rfl ?_
                                obtain ⟨L849, eL849⟩ : ∃ q, q = jSto1 L714 1 (.int (i32 ((many + (1))))) := ⟨_, rfl⟩
                                rw [← eL849]
                                have gL849_0 : jGet L849 0 = some (.ref 66) := eL849 ▸ jg_ne (by decide) gL714_0 rfl
                                have gL849_2 : jGet L849 2 = some (.int (i32 (r655))) := eL849 ▸ jg_ne (by decide) gL714_2 rfl
                                have gL849_1 : jGet L849 1 = some (.int (i32 ((many + (1))))) := eL849 ▸ jg_eq
                                refine jx_go (tg := 19) rfl rfl ?_
                                exact ih19 _ (by omega) L849 G745 A838 ((many + (1))) (ln2_748) (at2_749) (fk2_750) (nd2_751) (sy2_752) (na2_753) (lf2_755) (ec2_756) rfl gL849_0 gL849_1 hW839 hF840 hP842 hS843 hV844 ((e763)) ((e764)) ((e765)) ((e766)) ((e767)) ((e768)) ((congrFun ((congrFun eA838 3).trans (uA_ne (by decide))) _).trans (e770)) (ec848) (Eq.trans (show G745 29 = vi2_754 from (e769)) (by omega)) (by omega) (by omega) (by omega) (by omega) (by omega) (by omega) (by omega) (by omega) (by omega) (by omega) (by omega) (by omega) (sf845) (by omega) (by omega)
                            · have _q := h744
                              exact absurd h744 (by omega)
                        · have _q : True := trivial
                          refine jx_ld (pc' := 101) (l' := L714) (st' := [.ref 66]) rfl (jl_aloadn gL714_0) ?_
                          refine jx_vr (pc' := 104) (as := []) (st := []) rfl rfl rfl rfl ⟨rfl, rfl, Nat.le_of_ble_eq_true rfl⟩ rfl rfl (c_bad (dd := d) (hd := by omega) (hW := hW719)  (fk := fk2_718) (e_fk := show G715 16 = fk2_718 from (e722))    ) (fun o V' hq => ?_)
                          obtain ⟨r850, rfl, rfl, b851, q852⟩ := hq
                          refine .inr ⟨_, rfl, ?_⟩
                          rcases q852 with ⟨rfl, a853⟩ | ⟨rfl, a854⟩
                          · have _q : True := trivial
                            refine jx_if_eq (pc' := 107) (tg := 108) rfl rfl rfl (by decide) (by decide) (fun h855 => ?_) (fun h855 => ?_)
                            · have _q := h855
                              exact absurd h855 (by omega)
                            · have _q := h855
                              refine jx_rt (v := none) rfl rfl rfl rfl rfl rfl ?_
                              exact ⟨_, _, ln2_717, at2_656, fk2_718, nd1, sy1, na1, vi, A 3 (ln2_717).toNat, ec1, rfl, rfl, hW719, hF724, hP725, hS726, hV727, (e721), ((hF720.1 10 rfl).trans (e662)), (e722), ((hF720.1 31 rfl).trans ((hF660.1 31 rfl).trans ((hF62.1 31 rfl).trans ((hF34.1 31 rfl).trans ((hF7.1 31 rfl).trans (ex_nd1)))))), ((hF720.1 19 rfl).trans ((hF660.1 19 rfl).trans ((hF62.1 19 rfl).trans ((hF34.1 19 rfl).trans ((hF7.1 19 rfl).trans (ex_sy1)))))), ((hF720.1 28 rfl).trans ((hF660.1 28 rfl).trans ((hF62.1 28 rfl).trans ((hF34.1 28 rfl).trans ((hF7.1 28 rfl).trans (ex_na1)))))), ((hF720.1 29 rfl).trans ((hF660.1 29 rfl).trans ((hF62.1 29 rfl).trans ((hF34.1 29 rfl).trans ((hF7.1 29 rfl).trans (fx_29)))))), (congrFun ((hF720.2 3 rfl).trans ((hF660.2 3 rfl).trans ((hF62.2 3 rfl).trans ((hF34.2 3 rfl).trans ((hF7.2 3 rfl).trans (hFx.2 3 rfl)))))) _), ec729, by omega, by omega, by omega, by omega, by omega, by omega, by first | exact Or.inl (by omega)⟩
                          · have _q : True := trivial
                            exfalso
                            omega
                    · have _q := h652
                      exact absurd h652 (by omega)
        · have _q : True := trivial
          refine jx_vr (pc' := 41) (as := [.int (i32 (0))]) (st := []) rfl rfl rfl rfl ⟨rfl, rfl, Nat.le_of_ble_eq_true rfl⟩ rfl rfl (c_need (dd := d) (hd := by omega) (hW := hW33) (g := 0) (ln := ln1) (e_ln := show G28 9 = ln1 from ((hF34.1 9 rfl).trans ((hF7.1 9 rfl).trans (ex_ln1)))) (le := A 4 (ln1).toNat) (e_le := show A29 4 (ln1).toNat = A 4 (ln1).toNat from (congrFun ((hF34.2 4 rfl).trans ((hF7.2 4 rfl).trans (hFx.2 4 rfl))) _)) (at0 := at2_30) (e_at0 := show G28 10 = at2_30 from (e35)) (fk := fk2_5) (e_fk := show G28 16 = fk2_5 from ((hF34.1 16 rfl).trans (e9))) (tk0 := tk2_31) (e_tk0 := show G28 11 = tk2_31 from (e36))  (h_g := ⟨(by decide), (by decide)⟩)  (p_0 := by omega)) (fun o V' hq => ?_)
          obtain ⟨G856, A857, at2_858, tk2_859, fk2_860, rfl, rfl, hW861, hF862, e863, e864, e865, p866, p867, q868⟩ := hq
          have hF869 := Fr_tr hF43 hF862 (Fr_sub (by decide)) (Fr_sub (by decide))
          have hP870 := Pf_f hP44 hF862 (by decide)
          have hS871 := Fx_f hS45 hF862 (by decide)
          have hV872 := Fx_f hV46 hF862 (by decide)
          have sf873 : wB A857 Vs pb (nd) (nd1) (sy) (sy1) := (show A857 = A29 from funext (fun k => hF862.2 k rfl)) ▸ sf47
          have ec874 : ecn A857 (G856 31) = ec1 := (ecn_f (hF862.2 15 rfl) (hF862.1 31 rfl)).trans ec48
          have bat2_858 : (0 : Int) ≤ at2_858 ∧ at2_858 ≤ 3002 := e863 ▸ hW861.1 10
          have ztk2_859 := tz_b tk2_859
          have btk2_859 : (0 : Int) ≤ tk2_859 ∧ tk2_859 ≤ 5 := e864 ▸ hW861.1 11
          have bfk2_860 : (0 : Int) ≤ fk2_860 ∧ fk2_860 ≤ 6 := e865 ▸ hW861.1 16
          refine .inl ⟨rfl, ?_⟩
          rcases q868 with ⟨a875, a876, a877, a878⟩ | ⟨a879, a880, a881, a882⟩
          · have _q : True := trivial
            refine jx_ld (pc' := 42) (l' := L) (st' := [.ref 66]) rfl (jl_aloadn gL_0) ?_
            refine jx_vr (pc' := 45) (as := []) (st := []) rfl rfl rfl rfl ⟨rfl, rfl, Nat.le_of_ble_eq_true rfl⟩ rfl rfl (c_bad (dd := d) (hd := by omega) (hW := hW861)  (fk := fk2_860) (e_fk := show G856 16 = fk2_860 from (e865))    ) (fun o V' hq => ?_)
            obtain ⟨r883, rfl, rfl, b884, q885⟩ := hq
            refine .inr ⟨_, rfl, ?_⟩
            rcases q885 with ⟨rfl, a886⟩ | ⟨rfl, a887⟩
            · have _q : True := trivial
              refine jx_if_ne (pc' := 48) (tg := 89) rfl rfl rfl (by decide) (by decide) (fun h888 => ?_) (fun h888 => ?_)
              · have _q := h888
                refine jx_ld (pc' := 90) (l' := L) (st' := [.ref 66]) rfl (jl_aloadn gL_0) ?_
                refine jx_ar (pc' := 91) (st' := [.int (i32 (0)), .ref 66]) rfl rfl rfl rfl ?_
                refine jx_ar (pc' := 92) (st' := [.int (i32 (5)), .int (i32 (0)), .ref 66]) rfl rfl rfl rfl ?_
                have b889 : (-2147483648 : Int) ≤ G856 13 ∧ G856 13 ≤ 2147483647 := hW861.1 13
                refine jx_vr (pc' := 95) (as := [.int (i32 (0)), .int (i32 (5))]) (st := []) rfl rfl rfl rfl ⟨rfl, rfl, Nat.le_of_ble_eq_true rfl⟩ rfl rfl (c_needNumber2 (dd := d) (hd := by omega) (hW := hW861) (lo := 0) (hi := 5) (ln := ln1) (e_ln := show G856 9 = ln1 from ((hF862.1 9 rfl).trans ((hF34.1 9 rfl).trans ((hF7.1 9 rfl).trans (ex_ln1))))) (le := A 4 (ln1).toNat) (e_le := show A857 4 (ln1).toNat = A 4 (ln1).toNat from (congrFun ((hF862.2 4 rfl).trans ((hF34.2 4 rfl).trans ((hF7.2 4 rfl).trans (hFx.2 4 rfl)))) _)) (at0 := at2_858) (e_at0 := show G856 10 = at2_858 from (e863)) (fk := fk2_860) (e_fk := show G856 16 = fk2_860 from (e865)) (tk0 := tk2_859) (e_tk0 := show G856 11 = tk2_859 from (e864)) (tn := G856 13) (e_tn := show G856 13 = G856 13 from rfl)  (h_lo := ⟨(by decide), (by decide)⟩) (h_hi := ⟨(by decide), (by decide)⟩)  (p_0 := by omega)) (fun o V' hq => ?_)
                obtain ⟨G890, A891, r892, at2_893, tk2_894, fk2_895, rfl, rfl, hW896, hF897, b898, e899, e900, e901, p902, p903, q904⟩ := hq
                have hF905 := Fr_tr hF869 hF897 (Fr_sub (by decide)) (Fr_sub (by decide))
                have hP906 := Pf_f hP870 hF897 (by decide)
                have hS907 := Fx_f hS871 hF897 (by decide)
                have hV908 := Fx_f hV872 hF897 (by decide)
                have sf909 : wB A891 Vs pb (nd) (nd1) (sy) (sy1) := (show A891 = A857 from funext (fun k => hF897.2 k rfl)) ▸ sf873
                have ec910 : ecn A891 (G890 31) = ec1 := (ecn_f (hF897.2 15 rfl) (hF897.1 31 rfl)).trans ec874
                have bat2_893 : (0 : Int) ≤ at2_893 ∧ at2_893 ≤ 3002 := e899 ▸ hW896.1 10
                have ztk2_894 := tz_b tk2_894
                have btk2_894 : (0 : Int) ≤ tk2_894 ∧ tk2_894 ≤ 5 := e900 ▸ hW896.1 11
                have bfk2_895 : (0 : Int) ≤ fk2_895 ∧ fk2_895 ≤ 6 := e901 ▸ hW896.1 16
                refine .inr ⟨_, rfl, ?_⟩
                rcases q904 with ⟨a911, a912, a913, a914⟩ | ⟨a915, a916, a917, a918, a919, a920, a921⟩
                · have _q : True := trivial
                  refine jx_ld (pc' := 96) (l' := jSto1 L 2 (.int (i32 (r892)))) (st' := []) rfl rfl ?_
                  obtain ⟨L922, eL922⟩ : ∃ q, q = jSto1 L 2 (.int (i32 (r892))) := ⟨_, rfl⟩
                  rw [← eL922]
                  have gL922_0 : jGet L922 0 = some (.ref 66) := eL922 ▸ jg_ne (by decide) gL_0 rfl
                  have gL922_1 : jGet L922 1 = some (.int (i32 (many))) := eL922 ▸ jg_ne (by decide) gL_1 rfl
                  have gL922_2 : jGet L922 2 = some (.int (i32 (r892))) := eL922 ▸ jg_eq
                  refine jx_ld (pc' := 97) (l' := L922) (st' := [.ref 66]) rfl (jl_aloadn gL922_0) ?_
                  refine jx_vr (pc' := 100) (as := []) (st := []) rfl rfl rfl rfl ⟨rfl, rfl, Nat.le_of_ble_eq_true rfl⟩ rfl rfl (c_endLine (dd := d) (hd := by omega) (hW := hW896)  (ln := ln1) (e_ln := show G890 9 = ln1 from ((hF897.1 9 rfl).trans ((hF862.1 9 rfl).trans ((hF34.1 9 rfl).trans ((hF7.1 9 rfl).trans (ex_ln1)))))) (li := li) (e_li := show G890 3 = li from ((hF897.1 3 rfl).trans ((hF862.1 3 rfl).trans ((hF34.1 3 rfl).trans ((hF7.1 3 rfl).trans ((hFx.1 3 rfl).trans (e_li))))))) (fk := fk2_895) (e_fk := show G890 16 = fk2_895 from (e901)) (tk0 := tk2_894) (e_tk0 := show G890 11 = tk2_894 from (e900))    (p_0 := by omega)) (fun o V' hq => ?_)
                  obtain ⟨G923, A924, ln2_925, fk2_926, rfl, rfl, hW927, hF928, e929, e930, q931⟩ := hq
                  have hF932 := Fr_tr hF905 hF928 (Fr_sub (by decide)) (Fr_sub (by decide))
                  have hP933 := Pf_f hP906 hF928 (by decide)
                  have hS934 := Fx_f hS907 hF928 (by decide)
                  have hV935 := Fx_f hV908 hF928 (by decide)
                  have sf936 : wB A924 Vs pb (nd) (nd1) (sy) (sy1) := (show A924 = A891 from funext (fun k => hF928.2 k rfl)) ▸ sf909
                  have ec937 : ecn A924 (G923 31) = ec1 := (ecn_f (hF928.2 15 rfl) (hF928.1 31 rfl)).trans ec910
                  have bln2_925 : (0 : Int) ≤ ln2_925 ∧ ln2_925 ≤ 3000 := e929 ▸ hW927.1 9
                  have bfk2_926 : (0 : Int) ≤ fk2_926 ∧ fk2_926 ≤ 6 := e930 ▸ hW927.1 16
                  refine .inl ⟨rfl, ?_⟩
                  rcases q931 with ⟨a938, a939, a940, a941, a942⟩ | ⟨a943, a944⟩
                  · have _q : True := trivial
                    exfalso
                    omega
                  · have _q : True := trivial
                    refine jx_ld (pc' := 101) (l' := L922) (st' := [.ref 66]) rfl (jl_aloadn gL922_0) ?_
                    refine jx_vr (pc' := 104) (as := []) (st := []) rfl rfl rfl rfl ⟨rfl, rfl, Nat.le_of_ble_eq_true rfl⟩ rfl rfl (c_bad (dd := d) (hd := by omega) (hW := hW927)  (fk := fk2_926) (e_fk := show G923 16 = fk2_926 from (e930))    ) (fun o V' hq => ?_)
                    obtain ⟨r945, rfl, rfl, b946, q947⟩ := hq
                    refine .inr ⟨_, rfl, ?_⟩
                    rcases q947 with ⟨rfl, a948⟩ | ⟨rfl, a949⟩
                    · have _q : True := trivial
                      refine jx_if_eq (pc' := 107) (tg := 108) rfl rfl rfl (by decide) (by decide) (fun h950 => ?_) (fun h950 => ?_)
                      · have _q := h950
                        exact absurd h950 (by omega)
                      · have _q := h950
                        refine jx_rt (v := none) rfl rfl rfl rfl rfl rfl ?_
                        exact ⟨_, _, ln2_925, at2_893, fk2_926, nd1, sy1, na1, vi, A 3 (ln2_925).toNat, ec1, rfl, rfl, hW927, hF932, hP933, hS934, hV935, (e929), ((hF928.1 10 rfl).trans (e899)), (e930), ((hF928.1 31 rfl).trans ((hF897.1 31 rfl).trans ((hF862.1 31 rfl).trans ((hF34.1 31 rfl).trans ((hF7.1 31 rfl).trans (ex_nd1)))))), ((hF928.1 19 rfl).trans ((hF897.1 19 rfl).trans ((hF862.1 19 rfl).trans ((hF34.1 19 rfl).trans ((hF7.1 19 rfl).trans (ex_sy1)))))), ((hF928.1 28 rfl).trans ((hF897.1 28 rfl).trans ((hF862.1 28 rfl).trans ((hF34.1 28 rfl).trans ((hF7.1 28 rfl).trans (ex_na1)))))), ((hF928.1 29 rfl).trans ((hF897.1 29 rfl).trans ((hF862.1 29 rfl).trans ((hF34.1 29 rfl).trans ((hF7.1 29 rfl).trans (fx_29)))))), (congrFun ((hF928.2 3 rfl).trans ((hF897.2 3 rfl).trans ((hF862.2 3 rfl).trans ((hF34.2 3 rfl).trans ((hF7.2 3 rfl).trans (hFx.2 3 rfl)))))) _), ec937, by omega, by omega, by omega, by omega, by omega, by omega, by first | exact Or.inl (by omega)⟩
                    · have _q : True := trivial
                      exfalso
                      omega
                · have _q : True := trivial
                  exfalso
                  omega
              · have _q := h888
                exact absurd h888 (by omega)
            · have _q : True := trivial
              exfalso
              omega
          · have _q : True := trivial
            exfalso
            omega
    · have _q : True := trivial
      refine jx_if_eq (pc' := 27) (tg := 125) rfl rfl rfl (by decide) (by decide) (fun h951 => ?_) (fun h951 => ?_)
      · have _q := h951
        refine jx_ld (pc' := 126) (l' := L) (st' := [.ref 66]) rfl (jl_aloadn gL_0) ?_
        refine jx_vr (pc' := 129) (as := []) (st := []) rfl rfl rfl rfl ⟨rfl, rfl, Nat.le_of_ble_eq_true rfl⟩ rfl rfl (c_bad (dd := d) (hd := by omega) (hW := hW6)  (fk := fk2_5) (e_fk := show G2 16 = fk2_5 from (e9))    ) (fun o V' hq => ?_)
        obtain ⟨r952, rfl, rfl, b953, q954⟩ := hq
        refine .inr ⟨_, rfl, ?_⟩
        rcases q954 with ⟨rfl, a955⟩ | ⟨rfl, a956⟩
        · have _q : True := trivial
          refine jx_if_ne (pc' := 132) (tg := 142) rfl rfl rfl (by decide) (by decide) (fun h957 => ?_) (fun h957 => ?_)
          · have _q := h957
            refine jx_rt (v := none) rfl rfl rfl rfl rfl rfl ?_
            exact ⟨_, _, ln1, at1, fk2_5, nd1, sy1, na1, vi, lf1, ec1, rfl, rfl, hW6, hF11, hP12, hS13, hV14, ((hF7.1 9 rfl).trans (ex_ln1)), ((hF7.1 10 rfl).trans (ex_at1)), (e9), ((hF7.1 31 rfl).trans (ex_nd1)), ((hF7.1 19 rfl).trans (ex_sy1)), ((hF7.1 28 rfl).trans (ex_na1)), ((hF7.1 29 rfl).trans (fx_29)), (congrFun (hF7.2 3 rfl) _).trans (ex_lf1), ec16, by omega, by omega, by omega, by omega, by omega, by omega, by first | exact Or.inl (by omega)⟩
          · have _q := h957
            exact absurd h957 (by omega)
        · have _q : True := trivial
          exfalso
          omega
      · have _q := h951
        exact absurd h951 (by omega)
    · have _q : True := trivial
      refine jx_if_eq (pc' := 27) (tg := 125) rfl rfl rfl (by decide) (by decide) (fun h958 => ?_) (fun h958 => ?_)
      · have _q := h958
        refine jx_ld (pc' := 126) (l' := L) (st' := [.ref 66]) rfl (jl_aloadn gL_0) ?_
        refine jx_vr (pc' := 129) (as := []) (st := []) rfl rfl rfl rfl ⟨rfl, rfl, Nat.le_of_ble_eq_true rfl⟩ rfl rfl (c_bad (dd := d) (hd := by omega) (hW := hW6)  (fk := fk2_5) (e_fk := show G2 16 = fk2_5 from (e9))    ) (fun o V' hq => ?_)
        obtain ⟨r959, rfl, rfl, b960, q961⟩ := hq
        refine .inr ⟨_, rfl, ?_⟩
        rcases q961 with ⟨rfl, a962⟩ | ⟨rfl, a963⟩
        · have _q : True := trivial
          exfalso
          omega
        · have _q : True := trivial
          refine jx_if_ne (pc' := 132) (tg := 142) rfl rfl rfl (by decide) (by decide) (fun h964 => ?_) (fun h964 => ?_)
          · have _q := h964
            exact absurd h964 (by omega)
          · have _q := h964
            refine jx_ld (pc' := 133) (l' := L) (st' := [.int (i32 (many))]) rfl (jl_iloadn gL_1) ?_
            refine jx_if_ne (pc' := 136) (tg := 142) rfl rfl rfl (Int.le_trans (by decide : (-2147483648 : Int) ≤ -2147483648) rx_many.1) (Int.le_trans rx_many.2 (by decide : (2147483647 : Int) ≤ 2147483647)) (fun h965 => ?_) (fun h965 => ?_)
            · have _q := h965
              refine jx_rt (v := none) rfl rfl rfl rfl rfl rfl ?_
              exact ⟨_, _, ln1, at1, fk2_5, nd1, sy1, na1, vi, lf1, ec1, rfl, rfl, hW6, hF11, hP12, hS13, hV14, ((hF7.1 9 rfl).trans (ex_ln1)), ((hF7.1 10 rfl).trans (ex_at1)), (e9), ((hF7.1 31 rfl).trans (ex_nd1)), ((hF7.1 19 rfl).trans (ex_sy1)), ((hF7.1 28 rfl).trans (ex_na1)), ((hF7.1 29 rfl).trans (fx_29)), (congrFun (hF7.2 3 rfl) _).trans (ex_lf1), ec16, by omega, by omega, by omega, by omega, by omega, by omega, by first | exact Or.inr ((⟨by omega, sf15, by omega⟩))⟩
            · have _q := h965
              refine jx_ld (pc' := 137) (l' := L) (st' := [.ref 66]) rfl (jl_aloadn gL_0) ?_
              refine jx_ar (pc' := 138) (st' := [.int (i32 (1)), .ref 66]) rfl rfl rfl rfl ?_
              refine jx_vr (pc' := 141) (as := [.int (i32 (1))]) (st := []) rfl rfl rfl rfl ⟨rfl, rfl, Nat.le_of_ble_eq_true rfl⟩ rfl rfl (c_needLevel (dd := d) (hd := by omega) (hW := hW6) (lv := 1) (ln := ln1) (e_ln := show G2 9 = ln1 from ((hF7.1 9 rfl).trans (ex_ln1))) (li := li) (e_li := show G2 3 = li from ((hF7.1 3 rfl).trans ((hFx.1 3 rfl).trans (e_li)))) (fk := fk2_5) (e_fk := show G2 16 = fk2_5 from (e9)) (ll := A 5 (ln1).toNat) (e_ll := show A3 5 (ln1).toNat = A 5 (ln1).toNat from (congrFun ((hF7.2 5 rfl).trans (hFx.2 5 rfl)) _))  (h_lv := ⟨(by decide), (by decide)⟩)  ) (fun o V' hq => ?_)
              obtain ⟨G966, A967, r968, fk2_969, rfl, rfl, hW970, hF971, b972, e973, q974⟩ := hq
              have hF975 := Fr_tr hF11 hF971 (Fr_sub (by decide)) (Fr_sub (by decide))
              have hP976 := Pf_f hP12 hF971 (by decide)
              have hS977 := Fx_f hS13 hF971 (by decide)
              have hV978 := Fx_f hV14 hF971 (by decide)
              have sf979 : wB A967 Vs pb (nd) (nd1) (sy) (sy1) := (show A967 = A3 from funext (fun k => hF971.2 k rfl)) ▸ sf15
              have ec980 : ecn A967 (G966 31) = ec1 := (ecn_f (hF971.2 15 rfl) (hF971.1 31 rfl)).trans ec16
              have bfk2_969 : (0 : Int) ≤ fk2_969 ∧ fk2_969 ≤ 6 := e973 ▸ hW970.1 16
              refine .inr ⟨_, rfl, ?_⟩
              rcases q974 with ⟨rfl, a981, a982, a983, a984⟩ | ⟨rfl, a985⟩
              · have _q : True := trivial
                have b986 : (0 : Int) ≤ A 4 (ln1).toNat ∧ A 4 (ln1).toNat ≤ 3000 := hW.2 4 _
                have lt987 : lf1 < A 4 (ln1).toNat := LT_at (LT_ext (((hF971.1 3 rfl).trans ((hF7.1 3 rfl).trans (hFx.1 3 rfl)))) (((hF971.2 3 rfl).trans ((hF7.2 3 rfl).trans (hFx.2 3 rfl)))) (((hF971.2 4 rfl).trans ((hF7.2 4 rfl).trans (hFx.2 4 rfl)))) i_LT) (show G966 3 = li from ((hF971.1 3 rfl).trans ((hF7.1 3 rfl).trans ((hFx.1 3 rfl).trans (e_li))))) (show A967 3 (ln1).toNat = lf1 from (congrFun ((hF971.2 3 rfl).trans (hF7.2 3 rfl)) _).trans (ex_lf1)) (show A967 4 (ln1).toNat = A 4 (ln1).toNat from (congrFun ((hF971.2 4 rfl).trans ((hF7.2 4 rfl).trans (hFx.2 4 rfl))) _)) (by omega) (by omega)
                refine jx_ar (pc' := 142) (st' := []) rfl rfl rfl rfl ?_
                refine jx_rt (v := none) rfl rfl rfl rfl rfl rfl ?_
                exact ⟨_, _, ln1, at1, fk2_969, nd1, sy1, na1, vi, lf1, ec1, rfl, rfl, hW970, hF975, hP976, hS977, hV978, ((hF971.1 9 rfl).trans ((hF7.1 9 rfl).trans (ex_ln1))), ((hF971.1 10 rfl).trans ((hF7.1 10 rfl).trans (ex_at1))), (e973), ((hF971.1 31 rfl).trans ((hF7.1 31 rfl).trans (ex_nd1))), ((hF971.1 19 rfl).trans ((hF7.1 19 rfl).trans (ex_sy1))), ((hF971.1 28 rfl).trans ((hF7.1 28 rfl).trans (ex_na1))), ((hF971.1 29 rfl).trans ((hF7.1 29 rfl).trans (fx_29))), (congrFun ((hF971.2 3 rfl).trans (hF7.2 3 rfl)) _).trans (ex_lf1), ec980, by omega, by omega, by omega, by omega, by omega, by omega, by first | exact Or.inr ((⟨by omega, sf979, by omega⟩))⟩
              · have _q : True := trivial
                refine jx_ar (pc' := 142) (st' := []) rfl rfl rfl rfl ?_
                refine jx_rt (v := none) rfl rfl rfl rfl rfl rfl ?_
                exact ⟨_, _, ln1, at1, fk2_969, nd1, sy1, na1, vi, lf1, ec1, rfl, rfl, hW970, hF975, hP976, hS977, hV978, ((hF971.1 9 rfl).trans ((hF7.1 9 rfl).trans (ex_ln1))), ((hF971.1 10 rfl).trans ((hF7.1 10 rfl).trans (ex_at1))), (e973), ((hF971.1 31 rfl).trans ((hF7.1 31 rfl).trans (ex_nd1))), ((hF971.1 19 rfl).trans ((hF7.1 19 rfl).trans (ex_sy1))), ((hF971.1 28 rfl).trans ((hF7.1 28 rfl).trans (ex_na1))), ((hF971.1 29 rfl).trans ((hF7.1 29 rfl).trans (fx_29))), (congrFun ((hF971.2 3 rfl).trans (hF7.2 3 rfl)) _).trans (ex_lf1), ec980, by omega, by omega, by omega, by omega, by omega, by omega, by first | exact Or.inl (by omega)⟩
      · have _q := h958
        exact absurd h958 (by omega)
set_option maxRecDepth 20000 in
set_option maxHeartbeats 4000000 in
theorem c_readPlaced_w {X : jX} {dd : Nat} {Vs : Nat → Prop} {sb pb : Int} (hvb : VB Vs sb) {c0 c1 : jC} {G : Nat → Int} {A : Nat → Nat → Int} {T : jH} {ln li at0 fk nd sy na vi le op0 tk0 ec : Int} (hd : 8 * 18 + 81 ≤ dd) (hW : Wk G A) (e_ln : G 9 = ln) (e_li : G 3 = li) (e_at0 : G 10 = at0) (e_fk : G 16 = fk) (e_nd : G 31 = nd) (e_sy : G 19 = sy) (e_na : G 28 = na) (e_vi : G 29 = vi) (e_le : A 4 (ln).toNat = le) (e_op0 : G 15 = op0) (e_tk0 : G 11 = tk0) (e_ec : ecn A (G 31) = ec) (i_LT : LT G A) (i_SV : SV Vs sb G A) (i_PQ : PQ Vs sb pb G A) (p_0 : fk = 0) (p_1 : 1 ≤ nd) (p_2 : ln < li) (p_3 : at0 ≤ le) (p_4 : nd ≤ 2 * at0 - tz tk0 + 30) (p_5 : sy ≤ na + 2) (p_6 : vi ≤ sy) (p_7 : sb ≤ sy) (p_8 : PZ A) (p_9 : nd + 5 * ec ≤ 2 * at0 - tz tk0 + 30) : wk X dd 311 [.ref 66] (rV c0 c1 G A T) (fun o V' => ∃ (G' : Nat → Int) (A' : Nat → Nat → Int) (ln2 : Int) (at2 : Int) (fk2 : Int) (nd2 : Int) (sy2 : Int) (na2 : Int) (vi2 : Int) (lf2 : Int) (ec2 : Int), V' = rV c0 c1 G' A' T ∧ o = .inl none ∧ Wk G' A' ∧ Fr [9, 10, 11, 12, 13, 14, 15, 16, 17, 18, 19, 28, 29, 31] [6, 7, 8, 9, 10, 11, 12, 14, 15, 16, 17, 18, 19, 20, 21, 22, 23, 24, 28, 36] G A G' A' ∧ Pf nd A A' ∧ Fx sr (sy) A A' ∧ Fx [14] (vi) A A' ∧ G' 9 = ln2 ∧ G' 10 = at2 ∧ G' 16 = fk2 ∧ G' 31 = nd2 ∧ G' 19 = sy2 ∧ G' 28 = na2 ∧ G' 29 = vi2 ∧ A' 3 (ln2).toNat = lf2 ∧ ecn A' (G' 31) = ec2 ∧ (nd ≤ nd2) ∧ (sy ≤ sy2) ∧ (sy2 ≤ na2 + 2) ∧ (vi2 = vi) ∧ (ln ≤ ln2) ∧ (ln2 ≤ li) ∧ (((1 ≤ fk2)) ∨ ((fk2 = 0) ∧ (wB A' Vs pb (nd) (nd2) (sy) (sy2)) ∧ (nd2 + 5 * ec2 ≤ 6050)))) := by
  obtain ⟨d, rfl⟩ : ∃ d, dd = d + 1 := ⟨dd - 1, by omega⟩
  refine wk_of (e := jm311) rfl (Nat.le_of_ble_eq_true rfl) ?_
  show wj X d jm311 (0, [(0, .ref 66)], [], rV c0 c1 G A T) _
  have hF0 : Fr [9, 10, 11, 12, 13, 14, 15, 16, 17, 18, 19, 28, 29, 31] [6, 7, 8, 9, 10, 11, 12, 14, 15, 16, 17, 18, 19, 20, 21, 22, 23, 24, 28, 36] G A G A := Fr_rf
  have hP0 : Pf nd A A := Pf_rf
  have hS0 : Fx sr (sy) A A := Fx_rf
  have hV0 : Fx [14] (vi) A A := Fx_rf
  have b_ln : (0 : Int) ≤ ln ∧ ln ≤ 3000 := e_ln ▸ hW.1 9
  have b_li : (0 : Int) ≤ li ∧ li ≤ 3000 := e_li ▸ hW.1 3
  have b_at0 : (0 : Int) ≤ at0 ∧ at0 ≤ 3002 := e_at0 ▸ hW.1 10
  have b_fk : (0 : Int) ≤ fk ∧ fk ≤ 6 := e_fk ▸ hW.1 16
  have b_nd : (0 : Int) ≤ nd ∧ nd ≤ 6999 := e_nd ▸ hW.1 31
  have b_sy : (0 : Int) ≤ sy ∧ sy ≤ 202 := e_sy ▸ hW.1 19
  have b_na : (0 : Int) ≤ na ∧ na ≤ 200 := e_na ▸ hW.1 28
  have b_vi : (0 : Int) ≤ vi ∧ vi ≤ 202 := e_vi ▸ hW.1 29
  have b_le : (0 : Int) ≤ le ∧ le ≤ 3000 := e_le ▸ hW.2 4 _
  have b_op0 : (-2147483648 : Int) ≤ op0 ∧ op0 ≤ 2147483647 := e_op0 ▸ hW.1 15
  have z_tk0 := tz_f tk0
  have b_tk0 : (0 : Int) ≤ tk0 ∧ tk0 ≤ 5 := e_tk0 ▸ hW.1 11
  refine jx_ld (pc' := 1) (l' := [(0, .ref 66)]) (st' := [.ref 66]) rfl (jl_aloadn rfl) ?_
  refine jx_vr (pc' := 4) (as := []) (st := []) rfl rfl rfl rfl ⟨rfl, rfl, Nat.le_of_ble_eq_true rfl⟩ rfl rfl (c_next (dd := d) (hd := by omega) (hW := hW)  (ln := ln) (e_ln := show G 9 = ln from (e_ln)) (le := le) (e_le := show A 4 (ln).toNat = le from (e_le)) (at0 := at0) (e_at0 := show G 10 = at0 from (e_at0))    (p_0 := by omega)) (fun o V' hq => ?_)
  obtain ⟨G988, A989, at2_990, tk2_991, rfl, rfl, hW992, hF993, e994, e995, p996, p997, p998, -⟩ := hq
  have hF1000 := Fr_tr hF0 hF993 (Fr_sub (by decide)) (Fr_sub (by decide))
  have hP1001 := Pf_f hP0 hF993 (by decide)
  have hS1002 := Fx_f hS0 hF993 (by decide)
  have hV1003 := Fx_f hV0 hF993 (by decide)
  have sf1004 : PZ A989 := (show A989 = A from funext (fun k => hF993.2 k rfl)) ▸ p_8
  have ec1005 : ecn A989 (G988 31) = ec := (ecn_f (hF993.2 15 rfl) (hF993.1 31 rfl)).trans e_ec
  have bat2_990 : (0 : Int) ≤ at2_990 ∧ at2_990 ≤ 3002 := e994 ▸ hW992.1 10
  have ztk2_991 := tz_b tk2_991
  have btk2_991 : (0 : Int) ≤ tk2_991 ∧ tk2_991 ≤ 5 := e995 ▸ hW992.1 11
  refine .inl ⟨rfl, ?_⟩
  refine jx_ld (pc' := 5) (l' := [(0, .ref 66)]) (st' := [.ref 66]) rfl (jl_aloadn rfl) ?_
  refine jx_ld (pc' := 6) (l' := [(0, .ref 66)]) (st' := [.ref 66, .ref 66]) rfl (jl_aloadn rfl) ?_
  refine jx_ar (pc' := 7) (st' := [.int (i32 (2)), .ref 66, .ref 66]) rfl rfl rfl rfl ?_
  have b1006 : (-2147483648 : Int) ≤ G988 13 ∧ G988 13 ≤ 2147483647 := hW992.1 13
  refine jx_vr (pc' := 10) (as := [.int (i32 (2))]) (st := [.ref 66]) rfl rfl rfl rfl ⟨rfl, rfl, Nat.le_of_ble_eq_true rfl⟩ rfl rfl (c_isKey (dd := d) (hd := by omega) (hW := hW992) (k := 2) (tk := tk2_991) (e_tk := show G988 11 = tk2_991 from (e995)) (tn := G988 13) (e_tn := show G988 13 = G988 13 from rfl)  (h_k := ⟨(by decide), (by decide)⟩)  ) (fun o V' hq => ?_)
  obtain ⟨r1007, rfl, rfl, b1008, q1009⟩ := hq
  refine .inr ⟨_, rfl, ?_⟩
  rcases q1009 with ⟨rfl, a1010, a1011, a1012⟩ | rfl
  · have _q : True := trivial
    refine jx_vr (pc' := 13) (as := [.int (i32 (1))]) (st := []) rfl rfl rfl rfl ⟨rfl, rfl, Nat.le_of_ble_eq_true rfl⟩ rfl rfl (c_need (dd := d) (hd := by omega) (hW := hW992) (g := 1) (ln := ln) (e_ln := show G988 9 = ln from ((hF993.1 9 rfl).trans (e_ln))) (le := le) (e_le := show A989 4 (ln).toNat = le from (congrFun (hF993.2 4 rfl) _).trans (e_le)) (at0 := at2_990) (e_at0 := show G988 10 = at2_990 from (e994)) (fk := fk) (e_fk := show G988 16 = fk from ((hF993.1 16 rfl).trans (e_fk))) (tk0 := tk2_991) (e_tk0 := show G988 11 = tk2_991 from (e995))  (h_g := ⟨(by decide), (by decide)⟩)  (p_0 := by omega)) (fun o V' hq => ?_)
    obtain ⟨G1013, A1014, at2_1015, tk2_1016, fk2_1017, rfl, rfl, hW1018, hF1019, e1020, e1021, e1022, p1023, p1024, q1025⟩ := hq
    have hF1026 := Fr_tr hF1000 hF1019 (Fr_sub (by decide)) (Fr_sub (by decide))
    have hP1027 := Pf_f hP1001 hF1019 (by decide)
    have hS1028 := Fx_f hS1002 hF1019 (by decide)
    have hV1029 := Fx_f hV1003 hF1019 (by decide)
    have sf1030 : PZ A1014 := (show A1014 = A989 from funext (fun k => hF1019.2 k rfl)) ▸ sf1004
    have ec1031 : ecn A1014 (G1013 31) = ec := (ecn_f (hF1019.2 15 rfl) (hF1019.1 31 rfl)).trans ec1005
    have bat2_1015 : (0 : Int) ≤ at2_1015 ∧ at2_1015 ≤ 3002 := e1020 ▸ hW1018.1 10
    have ztk2_1016 := tz_b tk2_1016
    have btk2_1016 : (0 : Int) ≤ tk2_1016 ∧ tk2_1016 ≤ 5 := e1021 ▸ hW1018.1 11
    have bfk2_1017 : (0 : Int) ≤ fk2_1017 ∧ fk2_1017 ≤ 6 := e1022 ▸ hW1018.1 16
    refine .inl ⟨rfl, ?_⟩
    rcases q1025 with ⟨a1032, a1033, a1034, a1035⟩ | ⟨a1036, a1037, a1038, a1039⟩
    · have _q : True := trivial
      refine jx_ld (pc' := 14) (l' := [(0, .ref 66)]) (st' := [.ref 66]) rfl (jl_aloadn rfl) ?_
      refine jx_vr (pc' := 17) (as := []) (st := []) rfl rfl rfl rfl ⟨rfl, rfl, Nat.le_of_ble_eq_true rfl⟩ rfl rfl (c_endLine (dd := d) (hd := by omega) (hW := hW1018)  (ln := ln) (e_ln := show G1013 9 = ln from ((hF1019.1 9 rfl).trans ((hF993.1 9 rfl).trans (e_ln)))) (li := li) (e_li := show G1013 3 = li from ((hF1019.1 3 rfl).trans ((hF993.1 3 rfl).trans (e_li)))) (fk := fk2_1017) (e_fk := show G1013 16 = fk2_1017 from (e1022)) (tk0 := tk2_1016) (e_tk0 := show G1013 11 = tk2_1016 from (e1021))    (p_0 := by omega)) (fun o V' hq => ?_)
      obtain ⟨G1040, A1041, ln2_1042, fk2_1043, rfl, rfl, hW1044, hF1045, e1046, e1047, q1048⟩ := hq
      have hF1049 := Fr_tr hF1026 hF1045 (Fr_sub (by decide)) (Fr_sub (by decide))
      have hP1050 := Pf_f hP1027 hF1045 (by decide)
      have hS1051 := Fx_f hS1028 hF1045 (by decide)
      have hV1052 := Fx_f hV1029 hF1045 (by decide)
      have sf1053 : PZ A1041 := (show A1041 = A1014 from funext (fun k => hF1045.2 k rfl)) ▸ sf1030
      have ec1054 : ecn A1041 (G1040 31) = ec := (ecn_f (hF1045.2 15 rfl) (hF1045.1 31 rfl)).trans ec1031
      have bln2_1042 : (0 : Int) ≤ ln2_1042 ∧ ln2_1042 ≤ 3000 := e1046 ▸ hW1044.1 9
      have bfk2_1043 : (0 : Int) ≤ fk2_1043 ∧ fk2_1043 ≤ 6 := e1047 ▸ hW1044.1 16
      refine .inl ⟨rfl, ?_⟩
      rcases q1048 with ⟨a1055, a1056, a1057, a1058, a1059⟩ | ⟨a1060, a1061⟩
      · have _q : True := trivial
        exfalso
        omega
      · have _q : True := trivial
        refine jx_ar (pc' := 18) (st' := [.int (i32 (0))]) rfl rfl rfl rfl ?_
        refine jx_ld (pc' := 19) (l' := jSto1 [(0, .ref 66)] 1 (.int (i32 (0)))) (st' := []) rfl rfl ?_
        obtain ⟨L1062, eL1062⟩ : ∃ q, q = jSto1 [(0, .ref 66)] 1 (.int (i32 (0))) := ⟨_, rfl⟩
        rw [← eL1062]
        have gL1062_0 : jGet L1062 0 = some (.ref 66) := eL1062 ▸ jg_ne (by decide) (rfl : jGet [(0, .ref 66)] 0 = some (.ref 66)) rfl
        have gL1062_1 : jGet L1062 1 = some (.int (i32 (0))) := eL1062 ▸ jg_eq
        refine jx_ld (pc' := 20) (l' := L1062) (st' := [.ref 66]) rfl (jl_aloadn gL1062_0) ?_
        refine jx_ar (pc' := 21) (st' := [.int (i32 (0)), .ref 66]) rfl rfl rfl rfl ?_
        have b1063 : (-1 : Int) ≤ A 5 (ln2_1042).toNat ∧ A 5 (ln2_1042).toNat ≤ 15 := hW.2 5 _
        refine jx_vr (pc' := 24) (as := [.int (i32 (0))]) (st := []) rfl rfl rfl rfl ⟨rfl, rfl, Nat.le_of_ble_eq_true rfl⟩ rfl rfl (c_isBelow (dd := d) (hd := by omega) (hW := hW1044) (lv := 0) (ln := ln2_1042) (e_ln := show G1040 9 = ln2_1042 from (e1046)) (li := li) (e_li := show G1040 3 = li from ((hF1045.1 3 rfl).trans ((hF1019.1 3 rfl).trans ((hF993.1 3 rfl).trans (e_li))))) (fk := fk2_1043) (e_fk := show G1040 16 = fk2_1043 from (e1047)) (ll := A 5 (ln2_1042).toNat) (e_ll := show A1041 5 (ln2_1042).toNat = A 5 (ln2_1042).toNat from (congrFun ((hF1045.2 5 rfl).trans ((hF1019.2 5 rfl).trans (hF993.2 5 rfl))) _))  (h_lv := ⟨(by decide), (by decide)⟩)  (p_0 := by omega)) (fun o V' hq => ?_)
        obtain ⟨G1064, A1065, r1066, fk2_1067, rfl, rfl, hW1068, hF1069, b1070, e1071, q1072⟩ := hq
        have hF1073 := Fr_tr hF1049 hF1069 (Fr_sub (by decide)) (Fr_sub (by decide))
        have hP1074 := Pf_f hP1050 hF1069 (by decide)
        have hS1075 := Fx_f hS1051 hF1069 (by decide)
        have hV1076 := Fx_f hV1052 hF1069 (by decide)
        have sf1077 : PZ A1065 := (show A1065 = A1041 from funext (fun k => hF1069.2 k rfl)) ▸ sf1053
        have ec1078 : ecn A1065 (G1064 31) = ec := (ecn_f (hF1069.2 15 rfl) (hF1069.1 31 rfl)).trans ec1054
        have bfk2_1067 : (0 : Int) ≤ fk2_1067 ∧ fk2_1067 ≤ 6 := e1071 ▸ hW1068.1 16
        refine .inr ⟨_, rfl, ?_⟩
        rcases q1072 with ⟨rfl, a1079, a1080, a1081, a1082⟩ | ⟨rfl, a1083⟩ | ⟨rfl, a1084, a1085, a1086⟩
        · have _q : True := trivial
          exfalso
          omega
        · have _q : True := trivial
          refine jx_if_eq (pc' := 27) (tg := 125) rfl rfl rfl (by decide) (by decide) (fun h1087 => ?_) (fun h1087 => ?_)
          · have _q := h1087
            refine jx_ld (pc' := 126) (l' := L1062) (st' := [.ref 66]) rfl (jl_aloadn gL1062_0) ?_
            refine jx_vr (pc' := 129) (as := []) (st := []) rfl rfl rfl rfl ⟨rfl, rfl, Nat.le_of_ble_eq_true rfl⟩ rfl rfl (c_bad (dd := d) (hd := by omega) (hW := hW1068)  (fk := fk2_1067) (e_fk := show G1064 16 = fk2_1067 from (e1071))    ) (fun o V' hq => ?_)
            obtain ⟨r1088, rfl, rfl, b1089, q1090⟩ := hq
            refine .inr ⟨_, rfl, ?_⟩
            rcases q1090 with ⟨rfl, a1091⟩ | ⟨rfl, a1092⟩
            · have _q : True := trivial
              refine jx_if_ne (pc' := 132) (tg := 142) rfl rfl rfl (by decide) (by decide) (fun h1093 => ?_) (fun h1093 => ?_)
              · have _q := h1093
                refine jx_rt (v := none) rfl rfl rfl rfl rfl rfl ?_
                exact ⟨_, _, ln2_1042, at2_1015, fk2_1067, nd, sy, na, vi, A 3 (ln2_1042).toNat, ec, rfl, rfl, hW1068, hF1073, hP1074, hS1075, hV1076, ((hF1069.1 9 rfl).trans (e1046)), ((hF1069.1 10 rfl).trans ((hF1045.1 10 rfl).trans (e1020))), (e1071), ((hF1069.1 31 rfl).trans ((hF1045.1 31 rfl).trans ((hF1019.1 31 rfl).trans ((hF993.1 31 rfl).trans (e_nd))))), ((hF1069.1 19 rfl).trans ((hF1045.1 19 rfl).trans ((hF1019.1 19 rfl).trans ((hF993.1 19 rfl).trans (e_sy))))), ((hF1069.1 28 rfl).trans ((hF1045.1 28 rfl).trans ((hF1019.1 28 rfl).trans ((hF993.1 28 rfl).trans (e_na))))), ((hF1069.1 29 rfl).trans ((hF1045.1 29 rfl).trans ((hF1019.1 29 rfl).trans ((hF993.1 29 rfl).trans (e_vi))))), (congrFun ((hF1069.2 3 rfl).trans ((hF1045.2 3 rfl).trans ((hF1019.2 3 rfl).trans (hF993.2 3 rfl)))) _), ec1078, by omega, by omega, by omega, by omega, by omega, by omega, by first | exact Or.inl (by omega)⟩
              · have _q := h1093
                exact absurd h1093 (by omega)
            · have _q : True := trivial
              exfalso
              omega
          · have _q := h1087
            exact absurd h1087 (by omega)
        · have _q : True := trivial
          exfalso
          omega
    · have _q : True := trivial
      refine jx_ld (pc' := 14) (l' := [(0, .ref 66)]) (st' := [.ref 66]) rfl (jl_aloadn rfl) ?_
      refine jx_vr (pc' := 17) (as := []) (st := []) rfl rfl rfl rfl ⟨rfl, rfl, Nat.le_of_ble_eq_true rfl⟩ rfl rfl (c_endLine (dd := d) (hd := by omega) (hW := hW1018)  (ln := ln) (e_ln := show G1013 9 = ln from ((hF1019.1 9 rfl).trans ((hF993.1 9 rfl).trans (e_ln)))) (li := li) (e_li := show G1013 3 = li from ((hF1019.1 3 rfl).trans ((hF993.1 3 rfl).trans (e_li)))) (fk := fk2_1017) (e_fk := show G1013 16 = fk2_1017 from (e1022)) (tk0 := tk2_1016) (e_tk0 := show G1013 11 = tk2_1016 from (e1021))    (p_0 := by omega)) (fun o V' hq => ?_)
      obtain ⟨G1094, A1095, ln2_1096, fk2_1097, rfl, rfl, hW1098, hF1099, e1100, e1101, q1102⟩ := hq
      have hF1103 := Fr_tr hF1026 hF1099 (Fr_sub (by decide)) (Fr_sub (by decide))
      have hP1104 := Pf_f hP1027 hF1099 (by decide)
      have hS1105 := Fx_f hS1028 hF1099 (by decide)
      have hV1106 := Fx_f hV1029 hF1099 (by decide)
      have sf1107 : PZ A1095 := (show A1095 = A1014 from funext (fun k => hF1099.2 k rfl)) ▸ sf1030
      have ec1108 : ecn A1095 (G1094 31) = ec := (ecn_f (hF1099.2 15 rfl) (hF1099.1 31 rfl)).trans ec1031
      have bln2_1096 : (0 : Int) ≤ ln2_1096 ∧ ln2_1096 ≤ 3000 := e1100 ▸ hW1098.1 9
      have bfk2_1097 : (0 : Int) ≤ fk2_1097 ∧ fk2_1097 ≤ 6 := e1101 ▸ hW1098.1 16
      refine .inl ⟨rfl, ?_⟩
      rcases q1102 with ⟨a1109, a1110, a1111, a1112, a1113⟩ | ⟨a1114, a1115⟩
      · have _q : True := trivial
        have b1116 : (0 : Int) ≤ A 3 (ln2_1096).toNat ∧ A 3 (ln2_1096).toNat ≤ 3000 := hW.2 3 _
        have lt1117 : ln2_1096 < li → le < A 3 (ln2_1096).toNat := fun hh => LT_nx (LT_ext (((hF1099.1 3 rfl).trans ((hF1019.1 3 rfl).trans (hF993.1 3 rfl)))) (((hF1099.2 3 rfl).trans ((hF1019.2 3 rfl).trans (hF993.2 3 rfl)))) (((hF1099.2 4 rfl).trans ((hF1019.2 4 rfl).trans (hF993.2 4 rfl)))) i_LT) (show G1094 3 = li from ((hF1099.1 3 rfl).trans ((hF1019.1 3 rfl).trans ((hF993.1 3 rfl).trans (e_li))))) (show A1095 4 (ln).toNat = le from (congrFun ((hF1099.2 4 rfl).trans ((hF1019.2 4 rfl).trans (hF993.2 4 rfl))) _).trans (e_le)) (show A1095 3 (ln2_1096).toNat = A 3 (ln2_1096).toNat from (congrFun ((hF1099.2 3 rfl).trans ((hF1019.2 3 rfl).trans (hF993.2 3 rfl))) _)) (show ln2_1096 = ln + 1 by omega) (by omega) hh
        refine jx_ar (pc' := 18) (st' := [.int (i32 (0))]) rfl rfl rfl rfl ?_
        refine jx_ld (pc' := 19) (l' := jSto1 [(0, .ref 66)] 1 (.int (i32 (0)))) (st' := []) rfl rfl ?_
        obtain ⟨L1118, eL1118⟩ : ∃ q, q = jSto1 [(0, .ref 66)] 1 (.int (i32 (0))) := ⟨_, rfl⟩
        rw [← eL1118]
        have gL1118_0 : jGet L1118 0 = some (.ref 66) := eL1118 ▸ jg_ne (by decide) (rfl : jGet [(0, .ref 66)] 0 = some (.ref 66)) rfl
        have gL1118_1 : jGet L1118 1 = some (.int (i32 (0))) := eL1118 ▸ jg_eq
        exact c_readPlaced_w_at_19 (X := X) (d := d) (Vs := Vs) (sb := sb) (pb := pb) (hvb := hvb) (c0 := c0) (c1 := c1) (G := G) (A := A) (T := T) (ln := ln) (li := li) (at0 := at0) (fk := fk) (nd := nd) (sy := sy) (na := na) (vi := vi) (le := le) (op0 := op0) (tk0 := tk0) (ec := ec) (hd := hd) (hW := hW) (e_ln := e_ln) (e_li := e_li) (e_at0 := e_at0) (e_fk := e_fk) (e_nd := e_nd) (e_sy := e_sy) (e_na := e_na) (e_vi := e_vi) (e_le := e_le) (e_op0 := e_op0) (e_tk0 := e_tk0) (e_ec := e_ec) (i_LT := i_LT) (i_SV := i_SV) (i_PQ := i_PQ) (p_0 := p_0) (p_1 := p_1) (p_2 := p_2) (p_3 := p_3) (p_4 := p_4) (p_5 := p_5) (p_6 := p_6) (p_7 := p_7) (p_8 := p_8) (p_9 := p_9) _ L1118 G1094 A1095 (0) (ln2_1096) (at2_1015) (fk2_1097) (nd) (sy) (na) (A 3 (ln2_1096).toNat) (ec) rfl gL1118_0 gL1118_1 hW1098 hF1103 hP1104 hS1105 hV1106 ((e1100)) (((hF1099.1 10 rfl).trans (e1020))) ((e1101)) (((hF1099.1 31 rfl).trans ((hF1019.1 31 rfl).trans ((hF993.1 31 rfl).trans (e_nd))))) (((hF1099.1 19 rfl).trans ((hF1019.1 19 rfl).trans ((hF993.1 19 rfl).trans (e_sy))))) (((hF1099.1 28 rfl).trans ((hF1019.1 28 rfl).trans ((hF993.1 28 rfl).trans (e_na))))) ((congrFun ((hF1099.2 3 rfl).trans ((hF1019.2 3 rfl).trans (hF993.2 3 rfl))) _)) (ec1108) (((hF1099.1 29 rfl).trans ((hF1019.1 29 rfl).trans ((hF993.1 29 rfl).trans (e_vi))))) (by omega) (by omega) (by omega) (by omega) (by omega) (by omega) (by omega) (by omega) (by omega) (by omega) (by omega) (by omega) ((wB_nil sf1107 (by omega) (by omega))) (by omega) (by omega)
      · have _q : True := trivial
        refine jx_ar (pc' := 18) (st' := [.int (i32 (0))]) rfl rfl rfl rfl ?_
        refine jx_ld (pc' := 19) (l' := jSto1 [(0, .ref 66)] 1 (.int (i32 (0)))) (st' := []) rfl rfl ?_
        obtain ⟨L1119, eL1119⟩ : ∃ q, q = jSto1 [(0, .ref 66)] 1 (.int (i32 (0))) := ⟨_, rfl⟩
        rw [← eL1119]
        have gL1119_0 : jGet L1119 0 = some (.ref 66) := eL1119 ▸ jg_ne (by decide) (rfl : jGet [(0, .ref 66)] 0 = some (.ref 66)) rfl
        have gL1119_1 : jGet L1119 1 = some (.int (i32 (0))) := eL1119 ▸ jg_eq
        refine jx_ld (pc' := 20) (l' := L1119) (st' := [.ref 66]) rfl (jl_aloadn gL1119_0) ?_
        refine jx_ar (pc' := 21) (st' := [.int (i32 (0)), .ref 66]) rfl rfl rfl rfl ?_
        have b1120 : (-1 : Int) ≤ A 5 (ln2_1096).toNat ∧ A 5 (ln2_1096).toNat ≤ 15 := hW.2 5 _
        refine jx_vr (pc' := 24) (as := [.int (i32 (0))]) (st := []) rfl rfl rfl rfl ⟨rfl, rfl, Nat.le_of_ble_eq_true rfl⟩ rfl rfl (c_isBelow (dd := d) (hd := by omega) (hW := hW1098) (lv := 0) (ln := ln2_1096) (e_ln := show G1094 9 = ln2_1096 from (e1100)) (li := li) (e_li := show G1094 3 = li from ((hF1099.1 3 rfl).trans ((hF1019.1 3 rfl).trans ((hF993.1 3 rfl).trans (e_li))))) (fk := fk2_1097) (e_fk := show G1094 16 = fk2_1097 from (e1101)) (ll := A 5 (ln2_1096).toNat) (e_ll := show A1095 5 (ln2_1096).toNat = A 5 (ln2_1096).toNat from (congrFun ((hF1099.2 5 rfl).trans ((hF1019.2 5 rfl).trans (hF993.2 5 rfl))) _))  (h_lv := ⟨(by decide), (by decide)⟩)  (p_0 := by omega)) (fun o V' hq => ?_)
        obtain ⟨G1121, A1122, r1123, fk2_1124, rfl, rfl, hW1125, hF1126, b1127, e1128, q1129⟩ := hq
        have hF1130 := Fr_tr hF1103 hF1126 (Fr_sub (by decide)) (Fr_sub (by decide))
        have hP1131 := Pf_f hP1104 hF1126 (by decide)
        have hS1132 := Fx_f hS1105 hF1126 (by decide)
        have hV1133 := Fx_f hV1106 hF1126 (by decide)
        have sf1134 : PZ A1122 := (show A1122 = A1095 from funext (fun k => hF1126.2 k rfl)) ▸ sf1107
        have ec1135 : ecn A1122 (G1121 31) = ec := (ecn_f (hF1126.2 15 rfl) (hF1126.1 31 rfl)).trans ec1108
        have bfk2_1124 : (0 : Int) ≤ fk2_1124 ∧ fk2_1124 ≤ 6 := e1128 ▸ hW1125.1 16
        refine .inr ⟨_, rfl, ?_⟩
        rcases q1129 with ⟨rfl, a1136, a1137, a1138, a1139⟩ | ⟨rfl, a1140⟩ | ⟨rfl, a1141, a1142, a1143⟩
        · have _q : True := trivial
          exfalso
          omega
        · have _q : True := trivial
          refine jx_if_eq (pc' := 27) (tg := 125) rfl rfl rfl (by decide) (by decide) (fun h1144 => ?_) (fun h1144 => ?_)
          · have _q := h1144
            refine jx_ld (pc' := 126) (l' := L1119) (st' := [.ref 66]) rfl (jl_aloadn gL1119_0) ?_
            refine jx_vr (pc' := 129) (as := []) (st := []) rfl rfl rfl rfl ⟨rfl, rfl, Nat.le_of_ble_eq_true rfl⟩ rfl rfl (c_bad (dd := d) (hd := by omega) (hW := hW1125)  (fk := fk2_1124) (e_fk := show G1121 16 = fk2_1124 from (e1128))    ) (fun o V' hq => ?_)
            obtain ⟨r1145, rfl, rfl, b1146, q1147⟩ := hq
            refine .inr ⟨_, rfl, ?_⟩
            rcases q1147 with ⟨rfl, a1148⟩ | ⟨rfl, a1149⟩
            · have _q : True := trivial
              refine jx_if_ne (pc' := 132) (tg := 142) rfl rfl rfl (by decide) (by decide) (fun h1150 => ?_) (fun h1150 => ?_)
              · have _q := h1150
                refine jx_rt (v := none) rfl rfl rfl rfl rfl rfl ?_
                exact ⟨_, _, ln2_1096, at2_1015, fk2_1124, nd, sy, na, vi, A 3 (ln2_1096).toNat, ec, rfl, rfl, hW1125, hF1130, hP1131, hS1132, hV1133, ((hF1126.1 9 rfl).trans (e1100)), ((hF1126.1 10 rfl).trans ((hF1099.1 10 rfl).trans (e1020))), (e1128), ((hF1126.1 31 rfl).trans ((hF1099.1 31 rfl).trans ((hF1019.1 31 rfl).trans ((hF993.1 31 rfl).trans (e_nd))))), ((hF1126.1 19 rfl).trans ((hF1099.1 19 rfl).trans ((hF1019.1 19 rfl).trans ((hF993.1 19 rfl).trans (e_sy))))), ((hF1126.1 28 rfl).trans ((hF1099.1 28 rfl).trans ((hF1019.1 28 rfl).trans ((hF993.1 28 rfl).trans (e_na))))), ((hF1126.1 29 rfl).trans ((hF1099.1 29 rfl).trans ((hF1019.1 29 rfl).trans ((hF993.1 29 rfl).trans (e_vi))))), (congrFun ((hF1126.2 3 rfl).trans ((hF1099.2 3 rfl).trans ((hF1019.2 3 rfl).trans (hF993.2 3 rfl)))) _), ec1135, by omega, by omega, by omega, by omega, by omega, by omega, by first | exact Or.inl (by omega)⟩
              · have _q := h1150
                exact absurd h1150 (by omega)
            · have _q : True := trivial
              exfalso
              omega
          · have _q := h1144
            exact absurd h1144 (by omega)
        · have _q : True := trivial
          exfalso
          omega
  · have _q : True := trivial
    refine jx_vr (pc' := 13) (as := [.int (i32 (0))]) (st := []) rfl rfl rfl rfl ⟨rfl, rfl, Nat.le_of_ble_eq_true rfl⟩ rfl rfl (c_need (dd := d) (hd := by omega) (hW := hW992) (g := 0) (ln := ln) (e_ln := show G988 9 = ln from ((hF993.1 9 rfl).trans (e_ln))) (le := le) (e_le := show A989 4 (ln).toNat = le from (congrFun (hF993.2 4 rfl) _).trans (e_le)) (at0 := at2_990) (e_at0 := show G988 10 = at2_990 from (e994)) (fk := fk) (e_fk := show G988 16 = fk from ((hF993.1 16 rfl).trans (e_fk))) (tk0 := tk2_991) (e_tk0 := show G988 11 = tk2_991 from (e995))  (h_g := ⟨(by decide), (by decide)⟩)  (p_0 := by omega)) (fun o V' hq => ?_)
    obtain ⟨G1151, A1152, at2_1153, tk2_1154, fk2_1155, rfl, rfl, hW1156, hF1157, e1158, e1159, e1160, p1161, p1162, q1163⟩ := hq
    have hF1164 := Fr_tr hF1000 hF1157 (Fr_sub (by decide)) (Fr_sub (by decide))
    have hP1165 := Pf_f hP1001 hF1157 (by decide)
    have hS1166 := Fx_f hS1002 hF1157 (by decide)
    have hV1167 := Fx_f hV1003 hF1157 (by decide)
    have sf1168 : PZ A1152 := (show A1152 = A989 from funext (fun k => hF1157.2 k rfl)) ▸ sf1004
    have ec1169 : ecn A1152 (G1151 31) = ec := (ecn_f (hF1157.2 15 rfl) (hF1157.1 31 rfl)).trans ec1005
    have bat2_1153 : (0 : Int) ≤ at2_1153 ∧ at2_1153 ≤ 3002 := e1158 ▸ hW1156.1 10
    have ztk2_1154 := tz_b tk2_1154
    have btk2_1154 : (0 : Int) ≤ tk2_1154 ∧ tk2_1154 ≤ 5 := e1159 ▸ hW1156.1 11
    have bfk2_1155 : (0 : Int) ≤ fk2_1155 ∧ fk2_1155 ≤ 6 := e1160 ▸ hW1156.1 16
    refine .inl ⟨rfl, ?_⟩
    rcases q1163 with ⟨a1170, a1171, a1172, a1173⟩ | ⟨a1174, a1175, a1176, a1177⟩
    · have _q : True := trivial
      refine jx_ld (pc' := 14) (l' := [(0, .ref 66)]) (st' := [.ref 66]) rfl (jl_aloadn rfl) ?_
      refine jx_vr (pc' := 17) (as := []) (st := []) rfl rfl rfl rfl ⟨rfl, rfl, Nat.le_of_ble_eq_true rfl⟩ rfl rfl (c_endLine (dd := d) (hd := by omega) (hW := hW1156)  (ln := ln) (e_ln := show G1151 9 = ln from ((hF1157.1 9 rfl).trans ((hF993.1 9 rfl).trans (e_ln)))) (li := li) (e_li := show G1151 3 = li from ((hF1157.1 3 rfl).trans ((hF993.1 3 rfl).trans (e_li)))) (fk := fk2_1155) (e_fk := show G1151 16 = fk2_1155 from (e1160)) (tk0 := tk2_1154) (e_tk0 := show G1151 11 = tk2_1154 from (e1159))    (p_0 := by omega)) (fun o V' hq => ?_)
      obtain ⟨G1178, A1179, ln2_1180, fk2_1181, rfl, rfl, hW1182, hF1183, e1184, e1185, q1186⟩ := hq
      have hF1187 := Fr_tr hF1164 hF1183 (Fr_sub (by decide)) (Fr_sub (by decide))
      have hP1188 := Pf_f hP1165 hF1183 (by decide)
      have hS1189 := Fx_f hS1166 hF1183 (by decide)
      have hV1190 := Fx_f hV1167 hF1183 (by decide)
      have sf1191 : PZ A1179 := (show A1179 = A1152 from funext (fun k => hF1183.2 k rfl)) ▸ sf1168
      have ec1192 : ecn A1179 (G1178 31) = ec := (ecn_f (hF1183.2 15 rfl) (hF1183.1 31 rfl)).trans ec1169
      have bln2_1180 : (0 : Int) ≤ ln2_1180 ∧ ln2_1180 ≤ 3000 := e1184 ▸ hW1182.1 9
      have bfk2_1181 : (0 : Int) ≤ fk2_1181 ∧ fk2_1181 ≤ 6 := e1185 ▸ hW1182.1 16
      refine .inl ⟨rfl, ?_⟩
      rcases q1186 with ⟨a1193, a1194, a1195, a1196, a1197⟩ | ⟨a1198, a1199⟩
      · have _q : True := trivial
        exfalso
        omega
      · have _q : True := trivial
        refine jx_ar (pc' := 18) (st' := [.int (i32 (0))]) rfl rfl rfl rfl ?_
        refine jx_ld (pc' := 19) (l' := jSto1 [(0, .ref 66)] 1 (.int (i32 (0)))) (st' := []) rfl rfl ?_
        obtain ⟨L1200, eL1200⟩ : ∃ q, q = jSto1 [(0, .ref 66)] 1 (.int (i32 (0))) := ⟨_, rfl⟩
        rw [← eL1200]
        have gL1200_0 : jGet L1200 0 = some (.ref 66) := eL1200 ▸ jg_ne (by decide) (rfl : jGet [(0, .ref 66)] 0 = some (.ref 66)) rfl
        have gL1200_1 : jGet L1200 1 = some (.int (i32 (0))) := eL1200 ▸ jg_eq
        refine jx_ld (pc' := 20) (l' := L1200) (st' := [.ref 66]) rfl (jl_aloadn gL1200_0) ?_
        refine jx_ar (pc' := 21) (st' := [.int (i32 (0)), .ref 66]) rfl rfl rfl rfl ?_
        have b1201 : (-1 : Int) ≤ A 5 (ln2_1180).toNat ∧ A 5 (ln2_1180).toNat ≤ 15 := hW.2 5 _
        refine jx_vr (pc' := 24) (as := [.int (i32 (0))]) (st := []) rfl rfl rfl rfl ⟨rfl, rfl, Nat.le_of_ble_eq_true rfl⟩ rfl rfl (c_isBelow (dd := d) (hd := by omega) (hW := hW1182) (lv := 0) (ln := ln2_1180) (e_ln := show G1178 9 = ln2_1180 from (e1184)) (li := li) (e_li := show G1178 3 = li from ((hF1183.1 3 rfl).trans ((hF1157.1 3 rfl).trans ((hF993.1 3 rfl).trans (e_li))))) (fk := fk2_1181) (e_fk := show G1178 16 = fk2_1181 from (e1185)) (ll := A 5 (ln2_1180).toNat) (e_ll := show A1179 5 (ln2_1180).toNat = A 5 (ln2_1180).toNat from (congrFun ((hF1183.2 5 rfl).trans ((hF1157.2 5 rfl).trans (hF993.2 5 rfl))) _))  (h_lv := ⟨(by decide), (by decide)⟩)  (p_0 := by omega)) (fun o V' hq => ?_)
        obtain ⟨G1202, A1203, r1204, fk2_1205, rfl, rfl, hW1206, hF1207, b1208, e1209, q1210⟩ := hq
        have hF1211 := Fr_tr hF1187 hF1207 (Fr_sub (by decide)) (Fr_sub (by decide))
        have hP1212 := Pf_f hP1188 hF1207 (by decide)
        have hS1213 := Fx_f hS1189 hF1207 (by decide)
        have hV1214 := Fx_f hV1190 hF1207 (by decide)
        have sf1215 : PZ A1203 := (show A1203 = A1179 from funext (fun k => hF1207.2 k rfl)) ▸ sf1191
        have ec1216 : ecn A1203 (G1202 31) = ec := (ecn_f (hF1207.2 15 rfl) (hF1207.1 31 rfl)).trans ec1192
        have bfk2_1205 : (0 : Int) ≤ fk2_1205 ∧ fk2_1205 ≤ 6 := e1209 ▸ hW1206.1 16
        refine .inr ⟨_, rfl, ?_⟩
        rcases q1210 with ⟨rfl, a1217, a1218, a1219, a1220⟩ | ⟨rfl, a1221⟩ | ⟨rfl, a1222, a1223, a1224⟩
        · have _q : True := trivial
          exfalso
          omega
        · have _q : True := trivial
          refine jx_if_eq (pc' := 27) (tg := 125) rfl rfl rfl (by decide) (by decide) (fun h1225 => ?_) (fun h1225 => ?_)
          · have _q := h1225
            refine jx_ld (pc' := 126) (l' := L1200) (st' := [.ref 66]) rfl (jl_aloadn gL1200_0) ?_
            refine jx_vr (pc' := 129) (as := []) (st := []) rfl rfl rfl rfl ⟨rfl, rfl, Nat.le_of_ble_eq_true rfl⟩ rfl rfl (c_bad (dd := d) (hd := by omega) (hW := hW1206)  (fk := fk2_1205) (e_fk := show G1202 16 = fk2_1205 from (e1209))    ) (fun o V' hq => ?_)
            obtain ⟨r1226, rfl, rfl, b1227, q1228⟩ := hq
            refine .inr ⟨_, rfl, ?_⟩
            rcases q1228 with ⟨rfl, a1229⟩ | ⟨rfl, a1230⟩
            · have _q : True := trivial
              refine jx_if_ne (pc' := 132) (tg := 142) rfl rfl rfl (by decide) (by decide) (fun h1231 => ?_) (fun h1231 => ?_)
              · have _q := h1231
                refine jx_rt (v := none) rfl rfl rfl rfl rfl rfl ?_
                exact ⟨_, _, ln2_1180, at2_1153, fk2_1205, nd, sy, na, vi, A 3 (ln2_1180).toNat, ec, rfl, rfl, hW1206, hF1211, hP1212, hS1213, hV1214, ((hF1207.1 9 rfl).trans (e1184)), ((hF1207.1 10 rfl).trans ((hF1183.1 10 rfl).trans (e1158))), (e1209), ((hF1207.1 31 rfl).trans ((hF1183.1 31 rfl).trans ((hF1157.1 31 rfl).trans ((hF993.1 31 rfl).trans (e_nd))))), ((hF1207.1 19 rfl).trans ((hF1183.1 19 rfl).trans ((hF1157.1 19 rfl).trans ((hF993.1 19 rfl).trans (e_sy))))), ((hF1207.1 28 rfl).trans ((hF1183.1 28 rfl).trans ((hF1157.1 28 rfl).trans ((hF993.1 28 rfl).trans (e_na))))), ((hF1207.1 29 rfl).trans ((hF1183.1 29 rfl).trans ((hF1157.1 29 rfl).trans ((hF993.1 29 rfl).trans (e_vi))))), (congrFun ((hF1207.2 3 rfl).trans ((hF1183.2 3 rfl).trans ((hF1157.2 3 rfl).trans (hF993.2 3 rfl)))) _), ec1216, by omega, by omega, by omega, by omega, by omega, by omega, by first | exact Or.inl (by omega)⟩
              · have _q := h1231
                exact absurd h1231 (by omega)
            · have _q : True := trivial
              exfalso
              omega
          · have _q := h1225
            exact absurd h1225 (by omega)
        · have _q : True := trivial
          exfalso
          omega
    · have _q : True := trivial
      exfalso
      omega
set_option maxRecDepth 20000 in
set_option maxHeartbeats 4000000 in
theorem c_readProgram_w_at_141_1 {X : jX} {d : Nat} {c0 c1 : jC} {G : Nat → Int} {A : Nat → Nat → Int} {T : jH} {ln li fk nd sy na vi lf pc lk ec : Int} (hd : 8 * 18 + 82 ≤ d + 1) (hW : Wk G A) (e_ln : G 9 = ln) (e_li : G 3 = li) (e_fk : G 16 = fk) (e_nd : G 31 = nd) (e_sy : G 19 = sy) (e_na : G 28 = na) (e_vi : G 29 = vi) (e_lf : A 3 (ln).toNat = lf) (e_pc : G 46 = pc) (e_lk : G 52 = lk) (e_ec : ecn A (G 31) = ec) (i_LT : LT G A) (p_0 : fk = 0) (p_1 : ln = 0) (p_2 : nd = 1) (p_3 : sy = 0) (p_4 : na = 0) (p_5 : vi = 0) (p_6 : pc = 0) (p_7 : lk = 0) (p_8 : PZ A) (p_9 : ec = 0) : ∀ (L : jL) (Gx : Nat → Int) (Ax : Nat → Nat → Int) (ln1 at1 tk1 fk1 op1 nd1 sy1 na1 vi1 lf1 le1 pc1 lk1 ec1 : Int), jGet L 0 = some (.ref 66) → jGet L 2 = some (.int (i32 (1))) → Wk Gx Ax → Fr [9, 10, 11, 12, 13, 14, 15, 16, 17, 18, 19, 28, 29, 31, 46, 52] [6, 7, 8, 9, 10, 11, 12, 14, 15, 16, 17, 18, 19, 20, 21, 22, 23, 24, 28, 29, 30, 31, 34, 35, 36] G A Gx Ax → Gx 9 = ln1 → Gx 10 = at1 → Gx 11 = tk1 → Gx 16 = fk1 → Gx 15 = op1 → Gx 31 = nd1 → Gx 19 = sy1 → Gx 28 = na1 → Gx 29 = vi1 → Ax 3 (ln1).toNat = lf1 → Ax 4 (ln1).toNat = le1 → Gx 46 = pc1 → Gx 52 = lk1 → ecn Ax (Gx 31) = ec1 → (fk1 = 0) → (0 ≤ lf1) → (ln1 < li) → (lf1 < le1) → (2 * lf1 ≤ 2 * at1 - tz tk1) → (lf1 ≤ at1) → (at1 ≤ le1) → (nd1 ≤ 2 * lf1 + 2) → (op1 = 0) → (sy1 ≤ na1 + 2) → (vi1 ≤ sy1) → (PZ Ax) → (TL Ax (pc1) (nd1) (sy1) (lk1) (vi1)) → (nd1 + 5 * ec1 ≤ 2 * lf1 + 2) → wj X d jm312 (141, L, [], rV c0 c1 Gx Ax T) (fun o V' => ∃ (G' : Nat → Int) (A' : Nat → Nat → Int) (ln2 : Int) (fk2 : Int) (nd2 : Int) (sy2 : Int) (na2 : Int) (vi2 : Int) (pc2 : Int) (lk2 : Int) (ec2 : Int), V' = rV c0 c1 G' A' T ∧ o = .inl none ∧ Wk G' A' ∧ Fr [9, 10, 11, 12, 13, 14, 15, 16, 17, 18, 19, 28, 29, 31, 46, 52] [6, 7, 8, 9, 10, 11, 12, 14, 15, 16, 17, 18, 19, 20, 21, 22, 23, 24, 28, 29, 30, 31, 34, 35, 36] G A G' A' ∧ G' 9 = ln2 ∧ G' 16 = fk2 ∧ G' 31 = nd2 ∧ G' 19 = sy2 ∧ G' 28 = na2 ∧ G' 29 = vi2 ∧ G' 46 = pc2 ∧ G' 52 = lk2 ∧ ecn A' (G' 31) = ec2 ∧ (((1 ≤ fk2)) ∨ ((fk2 = 0) ∧ (TT A' (pc2) (nd2) (sy2) (lk2)) ∧ (nd2 + 5 * ec2 ≤ 6050)))) := by
  have hF0 : Fr [9, 10, 11, 12, 13, 14, 15, 16, 17, 18, 19, 28, 29, 31, 46, 52] [6, 7, 8, 9, 10, 11, 12, 14, 15, 16, 17, 18, 19, 20, 21, 22, 23, 24, 28, 29, 30, 31, 34, 35, 36] G A G A := Fr_rf
  have b_ln : (0 : Int) ≤ ln ∧ ln ≤ 3000 := e_ln ▸ hW.1 9
  have b_li : (0 : Int) ≤ li ∧ li ≤ 3000 := e_li ▸ hW.1 3
  have b_fk : (0 : Int) ≤ fk ∧ fk ≤ 6 := e_fk ▸ hW.1 16
  have b_nd : (0 : Int) ≤ nd ∧ nd ≤ 6999 := e_nd ▸ hW.1 31
  have b_sy : (0 : Int) ≤ sy ∧ sy ≤ 202 := e_sy ▸ hW.1 19
  have b_na : (0 : Int) ≤ na ∧ na ≤ 200 := e_na ▸ hW.1 28
  have b_vi : (0 : Int) ≤ vi ∧ vi ≤ 202 := e_vi ▸ hW.1 29
  have b_lf : (0 : Int) ≤ lf ∧ lf ≤ 3000 := e_lf ▸ hW.2 3 _
  have b_pc : (0 : Int) ≤ pc ∧ pc ≤ 24 := e_pc ▸ hW.1 46
  have b_lk : (0 : Int) ≤ lk ∧ lk ≤ 12 := e_lk ▸ hW.1 52
  intro L Gx Ax ln1 at1 tk1 fk1 op1 nd1 sy1 na1 vi1 lf1 le1 pc1 lk1 ec1 gL_0 gL_2 hWx hFx ex_ln1 ex_at1 ex_tk1 ex_fk1 ex_op1 ex_nd1 ex_sy1 ex_na1 ex_vi1 ex_lf1 ex_le1 ex_pc1 ex_lk1 ex_ec1 iv_0 iv_1 iv_2 iv_3 iv_4 iv_5 iv_6 iv_7 iv_8 iv_9 iv_10 iv_11 iv_12 iv_13
  have b_ln1 : (0 : Int) ≤ ln1 ∧ ln1 ≤ 3000 := ex_ln1 ▸ hWx.1 9
  have b_at1 : (0 : Int) ≤ at1 ∧ at1 ≤ 3002 := ex_at1 ▸ hWx.1 10
  have z_tk1 := tz_f tk1
  have b_tk1 : (0 : Int) ≤ tk1 ∧ tk1 ≤ 5 := ex_tk1 ▸ hWx.1 11
  have b_fk1 : (0 : Int) ≤ fk1 ∧ fk1 ≤ 6 := ex_fk1 ▸ hWx.1 16
  have b_op1 : (-2147483648 : Int) ≤ op1 ∧ op1 ≤ 2147483647 := ex_op1 ▸ hWx.1 15
  have b_nd1 : (0 : Int) ≤ nd1 ∧ nd1 ≤ 6999 := ex_nd1 ▸ hWx.1 31
  have b_sy1 : (0 : Int) ≤ sy1 ∧ sy1 ≤ 202 := ex_sy1 ▸ hWx.1 19
  have b_na1 : (0 : Int) ≤ na1 ∧ na1 ≤ 200 := ex_na1 ▸ hWx.1 28
  have b_vi1 : (0 : Int) ≤ vi1 ∧ vi1 ≤ 202 := ex_vi1 ▸ hWx.1 29
  have b_pc1 : (0 : Int) ≤ pc1 ∧ pc1 ≤ 24 := ex_pc1 ▸ hWx.1 46
  have b_lk1 : (0 : Int) ≤ lk1 ∧ lk1 ≤ 12 := ex_lk1 ▸ hWx.1 52
  obtain ⟨Vs, s0, hs0, hlk0, h2s, hvb, hSW0, hPW0, hVL0, hwQ0, hwK0⟩ := iv_12; obtain ⟨sb, hsb⟩ : ∃ z : Int, z = sy1 := ⟨_, rfl⟩; obtain ⟨pb, hpb⟩ : ∃ z : Int, z = pc1 := ⟨_, rfl⟩; rw [← hsb] at hvb hSW0 hPW0 hVL0; rw [← hpb] at hPW0; have hle0 := wQ_le hwQ0
  refine jx_ld (pc' := 142) (l' := L) (st' := [.int (i32 (1))]) rfl (jl_iloadn gL_2) ?_
  refine jx_if_eq (pc' := 145) (tg := 184) rfl rfl rfl (by decide) (by decide) (fun h1 => ?_) (fun h1 => ?_)
  · have _q := h1
    exact absurd h1 (by omega)
  · have _q := h1
    refine jx_ld (pc' := 146) (l' := L) (st' := [.ref 66]) rfl (jl_aloadn gL_0) ?_
    refine jx_vr (pc' := 149) (as := []) (st := []) rfl rfl rfl rfl ⟨rfl, rfl, Nat.le_of_ble_eq_true rfl⟩ rfl rfl (c_bad (dd := d) (hd := by omega) (hW := hWx)  (fk := fk1) (e_fk := show Gx 16 = fk1 from (ex_fk1))    ) (fun o V' hq => ?_)
    obtain ⟨r2, rfl, rfl, b3, q4⟩ := hq
    refine .inr ⟨_, rfl, ?_⟩
    rcases q4 with ⟨rfl, a5⟩ | ⟨rfl, a6⟩
    · have _q : True := trivial
      exfalso
      omega
    · have _q : True := trivial
      refine jx_if_ne (pc' := 152) (tg := 170) rfl rfl rfl (by decide) (by decide) (fun h7 => ?_) (fun h7 => ?_)
      · have _q := h7
        exact absurd h7 (by omega)
      · have _q := h7
        refine jx_ld (pc' := 153) (l' := L) (st' := [.ref 66]) rfl (jl_aloadn gL_0) ?_
        refine jx_ar (pc' := 155) (st' := [.int (i32 (19)), .ref 66]) rfl rfl rfl rfl ?_
        have b8 : (-2147483648 : Int) ≤ Gx 13 ∧ Gx 13 ≤ 2147483647 := hWx.1 13
        refine jx_vr (pc' := 158) (as := [.int (i32 (19))]) (st := []) rfl rfl rfl rfl ⟨rfl, rfl, Nat.le_of_ble_eq_true rfl⟩ rfl rfl (c_isKey (dd := d) (hd := by omega) (hW := hWx) (k := 19) (tk := tk1) (e_tk := show Gx 11 = tk1 from (ex_tk1)) (tn := Gx 13) (e_tn := show Gx 13 = Gx 13 from rfl)  (h_k := ⟨(by decide), (by decide)⟩)  ) (fun o V' hq => ?_)
        obtain ⟨r9, rfl, rfl, b10, q11⟩ := hq
        refine .inr ⟨_, rfl, ?_⟩
        rcases q11 with ⟨rfl, a12, a13, a14⟩ | rfl
        · have _q : True := trivial
          refine jx_if_ne (pc' := 161) (tg := 170) rfl rfl rfl (by decide) (by decide) (fun h15 => ?_) (fun h15 => ?_)
          · have _q := h15
            refine jx_ld (pc' := 171) (l' := L) (st' := [.ref 66]) rfl (jl_aloadn gL_0) ?_
            refine jx_vr (pc' := 174) (as := []) (st := []) rfl rfl rfl rfl ⟨rfl, rfl, Nat.le_of_ble_eq_true rfl⟩ rfl rfl (c_bad (dd := d) (hd := by omega) (hW := hWx)  (fk := fk1) (e_fk := show Gx 16 = fk1 from (ex_fk1))    ) (fun o V' hq => ?_)
            obtain ⟨r16, rfl, rfl, b17, q18⟩ := hq
            refine .inr ⟨_, rfl, ?_⟩
            rcases q18 with ⟨rfl, a19⟩ | ⟨rfl, a20⟩
            · have _q : True := trivial
              exfalso
              omega
            · have _q : True := trivial
              refine jx_if_ne (pc' := 177) (tg := 195) rfl rfl rfl (by decide) (by decide) (fun h21 => ?_) (fun h21 => ?_)
              · have _q := h21
                exact absurd h21 (by omega)
              · have _q := h21
                refine jx_ld (pc' := 178) (l' := L) (st' := [.ref 66]) rfl (jl_aloadn gL_0) ?_
                refine jx_vr (pc' := 181) (as := []) (st := []) rfl rfl rfl rfl ⟨rfl, rfl, Nat.le_of_ble_eq_true rfl⟩ rfl rfl (c_readPlaced_w (dd := d) (hd := by omega) (hW := hWx)  (ln := ln1) (e_ln := show Gx 9 = ln1 from (ex_ln1)) (li := li) (e_li := show Gx 3 = li from ((hFx.1 3 rfl).trans (e_li))) (at0 := at1) (e_at0 := show Gx 10 = at1 from (ex_at1)) (fk := fk1) (e_fk := show Gx 16 = fk1 from (ex_fk1)) (nd := nd1) (e_nd := show Gx 31 = nd1 from (ex_nd1)) (sy := sy1) (e_sy := show Gx 19 = sy1 from (ex_sy1)) (na := na1) (e_na := show Gx 28 = na1 from (ex_na1)) (vi := vi1) (e_vi := show Gx 29 = vi1 from (ex_vi1)) (le := le1) (e_le := show Ax 4 (ln1).toNat = le1 from (ex_le1)) (op0 := op1) (e_op0 := show Gx 15 = op1 from (ex_op1)) (tk0 := tk1) (e_tk0 := show Gx 11 = tk1 from (ex_tk1)) (ec := ec1) (e_ec := show ecn Ax (Gx 31) = ec1 from ex_ec1) (i_LT := (LT_ext ((hFx.1 3 rfl)) ((hFx.2 3 rfl)) ((hFx.2 4 rfl)) i_LT)) (i_SV := (SW_sv hSW0 ((show Gx 29 = vi1 from (ex_vi1)).trans (by omega)))) (i_PQ := hPW0) (hvb := hvb)   (p_0 := by omega) (p_1 := by omega) (p_2 := by omega) (p_3 := by omega) (p_4 := by omega) (p_5 := by omega) (p_6 := by omega) (p_7 := by omega) (p_8 := iv_11) (p_9 := by omega)) (fun o V' hq => ?_)
                obtain ⟨G22, A23, ln2_24, at2_25, fk2_26, nd2_27, sy2_28, na2_29, vi2_30, lf2_31, ec2_32, rfl, rfl, hW33, hF34, hQ35, hQ36, hQ37, e38, e39, e40, e41, e42, e43, e44, e45, e46, p47, p48, p49, p50, p51, p52, q53⟩ := hq
                have hF54 := Fr_tr hFx hF34 (Fr_sub (by decide)) (Fr_sub (by decide))
                have sf55 : SW (Vs) (sb) (vi1) A23 := SW_fx hQ37 (by omega) hSW0
                have sf56 : PQ (Vs) (sb) (pb) (fun _ => 0) A23 := PQ_fxq hPW0 hQ36 (by omega) (Fx_f (w := pb) Fx_rf hF34 (by decide)) (by omega)
                have sf57 : VL (Vs) A23 (s0) (sb) := VL_fx hQ36 (by omega) hVL0
                have sf58 : wQ A23 (pc1).toNat (nd1) (s0) := wQ_fx (fun k j hk hj => hQ35 k j hk (by omega)) (Fx_su hQ36 (by omega)) (Fx_su (Fx_f (w := pc1) Fx_rf hF34 (by decide)) (by omega)) hwQ0
                have sf59 : wK A23 (s0) (lk1) := wK_fx hQ36 (Fx_f (w := lk1) Fx_rf hF34 (by decide)) (by omega) (by omega) (by omega) hwK0
                have bln2_24 : (0 : Int) ≤ ln2_24 ∧ ln2_24 ≤ 3000 := e38 ▸ hW33.1 9
                have bat2_25 : (0 : Int) ≤ at2_25 ∧ at2_25 ≤ 3002 := e39 ▸ hW33.1 10
                have bfk2_26 : (0 : Int) ≤ fk2_26 ∧ fk2_26 ≤ 6 := e40 ▸ hW33.1 16
                have bnd2_27 : (0 : Int) ≤ nd2_27 ∧ nd2_27 ≤ 6999 := e41 ▸ hW33.1 31
                have bsy2_28 : (0 : Int) ≤ sy2_28 ∧ sy2_28 ≤ 202 := e42 ▸ hW33.1 19
                have bna2_29 : (0 : Int) ≤ na2_29 ∧ na2_29 ≤ 200 := e43 ▸ hW33.1 28
                have bvi2_30 : (0 : Int) ≤ vi2_30 ∧ vi2_30 ≤ 202 := e44 ▸ hW33.1 29
                have blf2_31 : (0 : Int) ≤ lf2_31 ∧ lf2_31 ≤ 3000 := e45 ▸ hW33.2 3 _
                refine .inl ⟨rfl, ?_⟩
                rcases q53 with a60 | ⟨a61, a62, a63⟩
                · have _q : True := trivial
                  refine jx_go (tg := 195) rfl rfl ?_
                  refine jx_ld (pc' := 196) (l' := L) (st' := [.ref 66]) rfl (jl_aloadn gL_0) ?_
                  refine jx_vr (pc' := 199) (as := []) (st := []) rfl rfl rfl rfl ⟨rfl, rfl, Nat.le_of_ble_eq_true rfl⟩ rfl rfl (c_bad (dd := d) (hd := by omega) (hW := hW33)  (fk := fk2_26) (e_fk := show G22 16 = fk2_26 from (e40))    ) (fun o V' hq => ?_)
                  obtain ⟨r64, rfl, rfl, b65, q66⟩ := hq
                  refine .inr ⟨_, rfl, ?_⟩
                  rcases q66 with ⟨rfl, a67⟩ | ⟨rfl, a68⟩
                  · have _q : True := trivial
                    refine jx_if_ne (pc' := 202) (tg := 237) rfl rfl rfl (by decide) (by decide) (fun h69 => ?_) (fun h69 => ?_)
                    · have _q := h69
                      refine jx_rt (v := none) rfl rfl rfl rfl rfl rfl ?_
                      exact ⟨_, _, ln2_24, fk2_26, nd2_27, sy2_28, na2_29, vi2_30, pc1, lk1, ec2_32, rfl, rfl, hW33, hF54, (e38), (e40), (e41), (e42), (e43), (e44), ((hF34.1 46 rfl).trans (ex_pc1)), ((hF34.1 52 rfl).trans (ex_lk1)), e46, by first | exact Or.inl (by omega)⟩
                    · have _q := h69
                      exact absurd h69 (by omega)
                  · have _q : True := trivial
                    exfalso
                    omega
                · have _q : True := trivial
                  refine jx_go (tg := 195) rfl rfl ?_
                  refine jx_ld (pc' := 196) (l' := L) (st' := [.ref 66]) rfl (jl_aloadn gL_0) ?_
                  refine jx_vr (pc' := 199) (as := []) (st := []) rfl rfl rfl rfl ⟨rfl, rfl, Nat.le_of_ble_eq_true rfl⟩ rfl rfl (c_bad (dd := d) (hd := by omega) (hW := hW33)  (fk := fk2_26) (e_fk := show G22 16 = fk2_26 from (e40))    ) (fun o V' hq => ?_)
                  obtain ⟨r70, rfl, rfl, b71, q72⟩ := hq
                  refine .inr ⟨_, rfl, ?_⟩
                  rcases q72 with ⟨rfl, a73⟩ | ⟨rfl, a74⟩
                  · have _q : True := trivial
                    exfalso
                    omega
                  · have _q : True := trivial
                    refine jx_if_ne (pc' := 202) (tg := 237) rfl rfl rfl (by decide) (by decide) (fun h75 => ?_) (fun h75 => ?_)
                    · have _q := h75
                      exact absurd h75 (by omega)
                    · have _q := h75
                      refine jx_ld (pc' := 203) (l' := L) (st' := [.ref 66]) rfl (jl_aloadn gL_0) ?_
                      refine jr_get (pc' := 206) (i := 9) (v := .int (i32 (ln2_24))) rfl rfl (by decide) (rFv_eq (by decide) (show G22 9 = ln2_24 from (e38))) rfl ?_
                      refine jx_ld (pc' := 207) (l' := L) (st' := [.ref 66, .int (i32 (ln2_24))]) rfl (jl_aloadn gL_0) ?_
                      refine jr_get (pc' := 210) (i := 3) (v := .int (i32 (li))) rfl rfl (by decide) (rFv_eq (by decide) (show G22 3 = li from ((hF34.1 3 rfl).trans ((hFx.1 3 rfl).trans (e_li))))) rfl ?_
                      refine jx_icmp_ge (pc' := 213) (tg := 237) rfl rfl rfl (Int.le_trans (by decide : (-2147483648 : Int) ≤ 0) bln2_24.1) (Int.le_trans bln2_24.2 (by decide : (3000 : Int) ≤ 2147483647)) (Int.le_trans (by decide : (-2147483648 : Int) ≤ 0) b_li.1) (Int.le_trans b_li.2 (by decide : (3000 : Int) ≤ 2147483647)) (fun h76 => ?_) (fun h76 => ?_)
                      · have _q := h76
                        refine jx_rt (v := none) rfl rfl rfl rfl rfl rfl ?_
                        exact ⟨_, _, ln2_24, fk2_26, nd2_27, sy2_28, na2_29, vi2_30, pc1, lk1, ec2_32, rfl, rfl, hW33, hF54, (e38), (e40), (e41), (e42), (e43), (e44), ((hF34.1 46 rfl).trans (ex_pc1)), ((hF34.1 52 rfl).trans (ex_lk1)), e46, by first | exact Or.inr ((⟨by omega, (TT_mk (V := Vs) (lo := nd1) (s0 := s0) (t0 := sb) (by omega) (by omega) (by omega) hvb sf57 sf58 sf59 a62 (by omega) (by omega) (by omega) (by omega) (by omega) (by omega) (by omega) (by omega) (by omega) (by omega) (by omega)), by omega⟩))⟩
                      · have _q := h76
                        refine jx_ld (pc' := 214) (l' := L) (st' := [.ref 66]) rfl (jl_aloadn gL_0) ?_
                        refine jx_ar (pc' := 215) (st' := [.int (i32 (1)), .ref 66]) rfl rfl rfl rfl ?_
                        refine jx_ld (pc' := 216) (l' := L) (st' := [.ref 66, .int (i32 (1)), .ref 66]) rfl (jl_aloadn gL_0) ?_
                        refine jr_get (pc' := 219) (i := 6) (v := .ref 70) rfl rfl (by decide) rfl rfl ?_
                        refine jx_ld (pc' := 220) (l' := L) (st' := [.ref 66, .ref 70, .int (i32 (1)), .ref 66]) rfl (jl_aloadn gL_0) ?_
                        refine jr_get (pc' := 223) (i := 9) (v := .int (i32 (ln2_24))) rfl rfl (by decide) (rFv_eq (by decide) (show G22 9 = ln2_24 from (e38))) rfl ?_
                        refine jr_ldv (pc' := 224) (i := 3) (m := 3001) (z := ln2_24) (y := lf2_31) rfl (by decide) rfl (by decide) (Int.le_trans (by decide : (0 : Int) ≤ 0) bln2_24.1) (Int.lt_of_le_of_lt bln2_24.2 (by decide : (3000 : Int) < ((3001 : Nat) : Int))) rfl (show A23 3 (ln2_24).toNat = lf2_31 from (e45)) ?_
                        refine jx_ld (pc' := 225) (l' := L) (st' := [.ref 66, .int (i32 (lf2_31)), .int (i32 (1)), .ref 66]) rfl (jl_aloadn gL_0) ?_
                        refine jr_get (pc' := 228) (i := 5) (v := .ref 69) rfl rfl (by decide) rfl rfl ?_
                        refine jx_ld (pc' := 229) (l' := L) (st' := [.ref 66, .ref 69, .int (i32 (lf2_31)), .int (i32 (1)), .ref 66]) rfl (jl_aloadn gL_0) ?_
                        refine jr_get (pc' := 232) (i := 9) (v := .int (i32 (ln2_24))) rfl rfl (by decide) (rFv_eq (by decide) (show G22 9 = ln2_24 from (e38))) rfl ?_
                        have b77 : (0 : Int) ≤ A 2 (ln2_24).toNat ∧ A 2 (ln2_24).toNat ≤ 3000 := hW.2 2 _
                        refine jr_ldv (pc' := 233) (i := 2) (m := 3001) (z := ln2_24) (y := A 2 (ln2_24).toNat) rfl (by decide) rfl (by decide) (Int.le_trans (by decide : (0 : Int) ≤ 0) bln2_24.1) (Int.lt_of_le_of_lt bln2_24.2 (by decide : (3000 : Int) < ((3001 : Nat) : Int))) rfl (show A23 2 (ln2_24).toNat = A 2 (ln2_24).toNat from (congrFun ((hF34.2 2 rfl).trans (hFx.2 2 rfl)) _)) ?_
                        refine jx_sub (pc' := 234) rfl rfl ?_
                        refine jx_vr (pc' := 237) (as := [.int (i32 (1)), .int (i32 ((lf2_31 - A 2 (ln2_24).toNat)))]) (st := []) rfl rfl rfl rfl ⟨rfl, rfl, Nat.le_of_ble_eq_true rfl⟩ rfl rfl (c_fail (dd := d) (hd := by omega) (hW := hW33) (kind := 1) (place := (lf2_31 - A 2 (ln2_24).toNat)) (fk := fk2_26) (e_fk := show G22 16 = fk2_26 from (e40))  (h_kind := ⟨(by decide), (by decide)⟩) (h_place := ⟨(by omega), (by omega)⟩)  (p_0 := by omega) (p_1 := by omega)) (fun o V' hq => ?_)
                        obtain ⟨G78, A79, fk2_80, rfl, rfl, hW81, hF82, e83, p84, -⟩ := hq
                        have hF86 := Fr_tr hF54 hF82 (Fr_sub (by decide)) (Fr_sub (by decide))
                        have sf87 : SW (Vs) (sb) (vi1) A79 := (show A79 = A23 from funext (fun k => hF82.2 k rfl)) ▸ sf55
                        have sf88 : PQ (Vs) (sb) (pb) (fun _ => 0) A79 := (show A79 = A23 from funext (fun k => hF82.2 k rfl)) ▸ sf56
                        have sf89 : VL (Vs) A79 (s0) (sb) := (show A79 = A23 from funext (fun k => hF82.2 k rfl)) ▸ sf57
                        have sf90 : wQ A79 (pc1).toNat (nd1) (s0) := (show A79 = A23 from funext (fun k => hF82.2 k rfl)) ▸ sf58
                        have sf91 : wK A79 (s0) (lk1) := (show A79 = A23 from funext (fun k => hF82.2 k rfl)) ▸ sf59
                        have sf92 : wB A79 Vs pb (nd1) (nd2_27) (sy1) (sy2_28) := (show A79 = A23 from funext (fun k => hF82.2 k rfl)) ▸ a62
                        have ec93 : ecn A79 (G78 31) = ec2_32 := (ecn_f (hF82.2 15 rfl) (hF82.1 31 rfl)).trans e46
                        have bfk2_80 : (0 : Int) ≤ fk2_80 ∧ fk2_80 ≤ 6 := e83 ▸ hW81.1 16
                        refine .inl ⟨rfl, ?_⟩
                        refine jx_rt (v := none) rfl rfl rfl rfl rfl rfl ?_
                        exact ⟨_, _, ln2_24, fk2_80, nd2_27, sy2_28, na2_29, vi2_30, pc1, lk1, ec2_32, rfl, rfl, hW81, hF86, ((hF82.1 9 rfl).trans (e38)), (e83), ((hF82.1 31 rfl).trans (e41)), ((hF82.1 19 rfl).trans (e42)), ((hF82.1 28 rfl).trans (e43)), ((hF82.1 29 rfl).trans (e44)), ((hF82.1 46 rfl).trans ((hF34.1 46 rfl).trans (ex_pc1))), ((hF82.1 52 rfl).trans ((hF34.1 52 rfl).trans (ex_lk1))), ec93, by first | exact Or.inl (by omega)⟩
          · have _q := h15
            exact absurd h15 (by omega)
        · have _q : True := trivial
          refine jx_if_ne (pc' := 161) (tg := 170) rfl rfl rfl (by decide) (by decide) (fun h94 => ?_) (fun h94 => ?_)
          · have _q := h94
            exact absurd h94 (by omega)
          · have _q := h94
            refine jx_ld (pc' := 162) (l' := L) (st' := [.ref 66]) rfl (jl_aloadn gL_0) ?_
            refine jx_ar (pc' := 163) (st' := [.int (i32 (1)), .ref 66]) rfl rfl rfl rfl ?_
            refine jx_ld (pc' := 164) (l' := L) (st' := [.ref 66, .int (i32 (1)), .ref 66]) rfl (jl_aloadn gL_0) ?_
            have b95 : (-3000 : Int) ≤ Gx 12 ∧ Gx 12 ≤ 3002 := hWx.1 12
            refine jr_get (pc' := 167) (i := 12) (v := .int (i32 (Gx 12))) rfl rfl (by decide) rfl rfl ?_
            refine jx_vr (pc' := 170) (as := [.int (i32 (1)), .int (i32 (Gx 12))]) (st := []) rfl rfl rfl rfl ⟨rfl, rfl, Nat.le_of_ble_eq_true rfl⟩ rfl rfl (c_fail (dd := d) (hd := by omega) (hW := hWx) (kind := 1) (place := Gx 12) (fk := fk1) (e_fk := show Gx 16 = fk1 from (ex_fk1))  (h_kind := ⟨(by decide), (by decide)⟩) (h_place := ⟨(Int.le_trans (by decide : (-2147483648 : Int) ≤ -3000) b95.1), (Int.le_trans b95.2 (by decide : (3002 : Int) ≤ 2147483647))⟩)  (p_0 := by omega) (p_1 := by omega)) (fun o V' hq => ?_)
            obtain ⟨G96, A97, fk2_98, rfl, rfl, hW99, hF100, e101, p102, -⟩ := hq
            have hF104 := Fr_tr hFx hF100 (Fr_sub (by decide)) (Fr_sub (by decide))
            have sf105 : PZ A97 := (show A97 = Ax from funext (fun k => hF100.2 k rfl)) ▸ iv_11
            have sf106 : SW (Vs) (sb) (vi1) A97 := (show A97 = Ax from funext (fun k => hF100.2 k rfl)) ▸ hSW0
            have sf107 : PQ (Vs) (sb) (pb) (fun _ => 0) A97 := (show A97 = Ax from funext (fun k => hF100.2 k rfl)) ▸ hPW0
            have sf108 : VL (Vs) A97 (s0) (sb) := (show A97 = Ax from funext (fun k => hF100.2 k rfl)) ▸ hVL0
            have sf109 : wQ A97 (pc1).toNat (nd1) (s0) := (show A97 = Ax from funext (fun k => hF100.2 k rfl)) ▸ hwQ0
            have sf110 : wK A97 (s0) (lk1) := (show A97 = Ax from funext (fun k => hF100.2 k rfl)) ▸ hwK0
            have ec111 : ecn A97 (G96 31) = ec1 := (ecn_f (hF100.2 15 rfl) (hF100.1 31 rfl)).trans ex_ec1
            have bfk2_98 : (0 : Int) ≤ fk2_98 ∧ fk2_98 ≤ 6 := e101 ▸ hW99.1 16
            refine .inl ⟨rfl, ?_⟩
            refine jx_ld (pc' := 171) (l' := L) (st' := [.ref 66]) rfl (jl_aloadn gL_0) ?_
            refine jx_vr (pc' := 174) (as := []) (st := []) rfl rfl rfl rfl ⟨rfl, rfl, Nat.le_of_ble_eq_true rfl⟩ rfl rfl (c_bad (dd := d) (hd := by omega) (hW := hW99)  (fk := fk2_98) (e_fk := show G96 16 = fk2_98 from (e101))    ) (fun o V' hq => ?_)
            obtain ⟨r112, rfl, rfl, b113, q114⟩ := hq
            refine .inr ⟨_, rfl, ?_⟩
            rcases q114 with ⟨rfl, a115⟩ | ⟨rfl, a116⟩
            · have _q : True := trivial
              refine jx_if_ne (pc' := 177) (tg := 195) rfl rfl rfl (by decide) (by decide) (fun h117 => ?_) (fun h117 => ?_)
              · have _q := h117
                refine jx_ld (pc' := 196) (l' := L) (st' := [.ref 66]) rfl (jl_aloadn gL_0) ?_
                refine jx_vr (pc' := 199) (as := []) (st := []) rfl rfl rfl rfl ⟨rfl, rfl, Nat.le_of_ble_eq_true rfl⟩ rfl rfl (c_bad (dd := d) (hd := by omega) (hW := hW99)  (fk := fk2_98) (e_fk := show G96 16 = fk2_98 from (e101))    ) (fun o V' hq => ?_)
                obtain ⟨r118, rfl, rfl, b119, q120⟩ := hq
                refine .inr ⟨_, rfl, ?_⟩
                rcases q120 with ⟨rfl, a121⟩ | ⟨rfl, a122⟩
                · have _q : True := trivial
                  refine jx_if_ne (pc' := 202) (tg := 237) rfl rfl rfl (by decide) (by decide) (fun h123 => ?_) (fun h123 => ?_)
                  · have _q := h123
                    refine jx_rt (v := none) rfl rfl rfl rfl rfl rfl ?_
                    exact ⟨_, _, ln1, fk2_98, nd1, sy1, na1, vi1, pc1, lk1, ec1, rfl, rfl, hW99, hF104, ((hF100.1 9 rfl).trans (ex_ln1)), (e101), ((hF100.1 31 rfl).trans (ex_nd1)), ((hF100.1 19 rfl).trans (ex_sy1)), ((hF100.1 28 rfl).trans (ex_na1)), ((hF100.1 29 rfl).trans (ex_vi1)), ((hF100.1 46 rfl).trans (ex_pc1)), ((hF100.1 52 rfl).trans (ex_lk1)), ec111, by first | exact Or.inl (by omega)⟩
                  · have _q := h123
                    exact absurd h123 (by omega)
                · have _q : True := trivial
                  exfalso
                  omega
              · have _q := h117
                exact absurd h117 (by omega)
            · have _q : True := trivial
              exfalso
              omega
set_option maxRecDepth 20000 in
set_option maxHeartbeats 4000000 in
theorem c_readProgram_w_at_106_1 {X : jX} {d : Nat} {c0 c1 : jC} {G : Nat → Int} {A : Nat → Nat → Int} {T : jH} {ln li fk nd sy na vi lf pc lk ec : Int} (hd : 8 * 18 + 82 ≤ d + 1) (hW : Wk G A) (e_ln : G 9 = ln) (e_li : G 3 = li) (e_fk : G 16 = fk) (e_nd : G 31 = nd) (e_sy : G 19 = sy) (e_na : G 28 = na) (e_vi : G 29 = vi) (e_lf : A 3 (ln).toNat = lf) (e_pc : G 46 = pc) (e_lk : G 52 = lk) (e_ec : ecn A (G 31) = ec) (i_LT : LT G A) (p_0 : fk = 0) (p_1 : ln = 0) (p_2 : nd = 1) (p_3 : sy = 0) (p_4 : na = 0) (p_5 : vi = 0) (p_6 : pc = 0) (p_7 : lk = 0) (p_8 : PZ A) (p_9 : ec = 0) : ∀ (m : Nat) (L : jL) (Gx : Nat → Int) (Ax : Nat → Nat → Int) (ln1 at1 tk1 fk1 op1 nd1 sy1 na1 vi1 lf1 le1 pc1 lk1 ec1 : Int), (li - ln1).toNat = m → jGet L 0 = some (.ref 66) → jGet L 2 = some (.int (i32 (1))) → Wk Gx Ax → Fr [9, 10, 11, 12, 13, 14, 15, 16, 17, 18, 19, 28, 29, 31, 46, 52] [6, 7, 8, 9, 10, 11, 12, 14, 15, 16, 17, 18, 19, 20, 21, 22, 23, 24, 28, 29, 30, 31, 34, 35, 36] G A Gx Ax → Gx 9 = ln1 → Gx 10 = at1 → Gx 11 = tk1 → Gx 16 = fk1 → Gx 15 = op1 → Gx 31 = nd1 → Gx 19 = sy1 → Gx 28 = na1 → Gx 29 = vi1 → Ax 3 (ln1).toNat = lf1 → Ax 4 (ln1).toNat = le1 → Gx 46 = pc1 → Gx 52 = lk1 → ecn Ax (Gx 31) = ec1 → (fk1 = 0) → (0 ≤ lf1) → (ln1 < li) → (lf1 < le1) → (2 * lf1 ≤ 2 * at1 - tz tk1) → (lf1 ≤ at1) → (at1 ≤ le1) → (nd1 ≤ 2 * lf1 + 2) → (op1 = 0) → (sy1 ≤ na1 + 2) → (vi1 ≤ sy1) → (PZ Ax) → (TL Ax (pc1) (nd1) (sy1) (lk1) (vi1)) → (nd1 + 5 * ec1 ≤ 2 * lf1 + 2) → wj X d jm312 (106, L, [], rV c0 c1 Gx Ax T) (fun o V' => ∃ (G' : Nat → Int) (A' : Nat → Nat → Int) (ln2 : Int) (fk2 : Int) (nd2 : Int) (sy2 : Int) (na2 : Int) (vi2 : Int) (pc2 : Int) (lk2 : Int) (ec2 : Int), V' = rV c0 c1 G' A' T ∧ o = .inl none ∧ Wk G' A' ∧ Fr [9, 10, 11, 12, 13, 14, 15, 16, 17, 18, 19, 28, 29, 31, 46, 52] [6, 7, 8, 9, 10, 11, 12, 14, 15, 16, 17, 18, 19, 20, 21, 22, 23, 24, 28, 29, 30, 31, 34, 35, 36] G A G' A' ∧ G' 9 = ln2 ∧ G' 16 = fk2 ∧ G' 31 = nd2 ∧ G' 19 = sy2 ∧ G' 28 = na2 ∧ G' 29 = vi2 ∧ G' 46 = pc2 ∧ G' 52 = lk2 ∧ ecn A' (G' 31) = ec2 ∧ (((1 ≤ fk2)) ∨ ((fk2 = 0) ∧ (TT A' (pc2) (nd2) (sy2) (lk2)) ∧ (nd2 + 5 * ec2 ≤ 6050)))) := by
  have hF0 : Fr [9, 10, 11, 12, 13, 14, 15, 16, 17, 18, 19, 28, 29, 31, 46, 52] [6, 7, 8, 9, 10, 11, 12, 14, 15, 16, 17, 18, 19, 20, 21, 22, 23, 24, 28, 29, 30, 31, 34, 35, 36] G A G A := Fr_rf
  have b_ln : (0 : Int) ≤ ln ∧ ln ≤ 3000 := e_ln ▸ hW.1 9
  have b_li : (0 : Int) ≤ li ∧ li ≤ 3000 := e_li ▸ hW.1 3
  have b_fk : (0 : Int) ≤ fk ∧ fk ≤ 6 := e_fk ▸ hW.1 16
  have b_nd : (0 : Int) ≤ nd ∧ nd ≤ 6999 := e_nd ▸ hW.1 31
  have b_sy : (0 : Int) ≤ sy ∧ sy ≤ 202 := e_sy ▸ hW.1 19
  have b_na : (0 : Int) ≤ na ∧ na ≤ 200 := e_na ▸ hW.1 28
  have b_vi : (0 : Int) ≤ vi ∧ vi ≤ 202 := e_vi ▸ hW.1 29
  have b_lf : (0 : Int) ≤ lf ∧ lf ≤ 3000 := e_lf ▸ hW.2 3 _
  have b_pc : (0 : Int) ≤ pc ∧ pc ≤ 24 := e_pc ▸ hW.1 46
  have b_lk : (0 : Int) ≤ lk ∧ lk ≤ 12 := e_lk ▸ hW.1 52
  intro m
  induction m using Nat.strongRecOn with
  | ind m ih106_1 =>
    intro L Gx Ax ln1 at1 tk1 fk1 op1 nd1 sy1 na1 vi1 lf1 le1 pc1 lk1 ec1 hm gL_0 gL_2 hWx hFx ex_ln1 ex_at1 ex_tk1 ex_fk1 ex_op1 ex_nd1 ex_sy1 ex_na1 ex_vi1 ex_lf1 ex_le1 ex_pc1 ex_lk1 ex_ec1 iv_0 iv_1 iv_2 iv_3 iv_4 iv_5 iv_6 iv_7 iv_8 iv_9 iv_10 iv_11 iv_12 iv_13
    have b_ln1 : (0 : Int) ≤ ln1 ∧ ln1 ≤ 3000 := ex_ln1 ▸ hWx.1 9
    have b_at1 : (0 : Int) ≤ at1 ∧ at1 ≤ 3002 := ex_at1 ▸ hWx.1 10
    have z_tk1 := tz_f tk1
    have b_tk1 : (0 : Int) ≤ tk1 ∧ tk1 ≤ 5 := ex_tk1 ▸ hWx.1 11
    have b_fk1 : (0 : Int) ≤ fk1 ∧ fk1 ≤ 6 := ex_fk1 ▸ hWx.1 16
    have b_op1 : (-2147483648 : Int) ≤ op1 ∧ op1 ≤ 2147483647 := ex_op1 ▸ hWx.1 15
    have b_nd1 : (0 : Int) ≤ nd1 ∧ nd1 ≤ 6999 := ex_nd1 ▸ hWx.1 31
    have b_sy1 : (0 : Int) ≤ sy1 ∧ sy1 ≤ 202 := ex_sy1 ▸ hWx.1 19
    have b_na1 : (0 : Int) ≤ na1 ∧ na1 ≤ 200 := ex_na1 ▸ hWx.1 28
    have b_vi1 : (0 : Int) ≤ vi1 ∧ vi1 ≤ 202 := ex_vi1 ▸ hWx.1 29
    have b_pc1 : (0 : Int) ≤ pc1 ∧ pc1 ≤ 24 := ex_pc1 ▸ hWx.1 46
    have b_lk1 : (0 : Int) ≤ lk1 ∧ lk1 ≤ 12 := ex_lk1 ▸ hWx.1 52
    obtain ⟨Vs, s0, hs0, hlk0, h2s, hvb, hSW0, hPW0, hVL0, hwQ0, hwK0⟩ := iv_12; obtain ⟨sb, hsb⟩ : ∃ z : Int, z = sy1 := ⟨_, rfl⟩; obtain ⟨pb, hpb⟩ : ∃ z : Int, z = pc1 := ⟨_, rfl⟩; rw [← hsb] at hvb hSW0 hPW0 hVL0; rw [← hpb] at hPW0; have hle0 := wQ_le hwQ0
    refine jx_ld (pc' := 107) (l' := L) (st' := [.ref 66]) rfl (jl_aloadn gL_0) ?_
    refine jx_vr (pc' := 110) (as := []) (st := []) rfl rfl rfl rfl ⟨rfl, rfl, Nat.le_of_ble_eq_true rfl⟩ rfl rfl (c_bad (dd := d) (hd := by omega) (hW := hWx)  (fk := fk1) (e_fk := show Gx 16 = fk1 from (ex_fk1))    ) (fun o V' hq => ?_)
    obtain ⟨r124, rfl, rfl, b125, q126⟩ := hq
    refine .inr ⟨_, rfl, ?_⟩
    rcases q126 with ⟨rfl, a127⟩ | ⟨rfl, a128⟩
    · have _q : True := trivial
      exfalso
      omega
    · have _q : True := trivial
      refine jx_if_ne (pc' := 113) (tg := 141) rfl rfl rfl (by decide) (by decide) (fun h129 => ?_) (fun h129 => ?_)
      · have _q := h129
        exact absurd h129 (by omega)
      · have _q := h129
        refine jx_ld (pc' := 114) (l' := L) (st' := [.ref 66]) rfl (jl_aloadn gL_0) ?_
        refine jx_ar (pc' := 116) (st' := [.int (i32 (21)), .ref 66]) rfl rfl rfl rfl ?_
        have b130 : (-2147483648 : Int) ≤ Gx 13 ∧ Gx 13 ≤ 2147483647 := hWx.1 13
        refine jx_vr (pc' := 119) (as := [.int (i32 (21))]) (st := []) rfl rfl rfl rfl ⟨rfl, rfl, Nat.le_of_ble_eq_true rfl⟩ rfl rfl (c_isKey2 (dd := d) (hd := by omega) (hW := hWx) (k := 21) (tk := tk1) (e_tk := show Gx 11 = tk1 from (ex_tk1)) (tn := Gx 13) (e_tn := show Gx 13 = Gx 13 from rfl)  (h_k := ⟨(by decide), (by decide)⟩)  ) (fun o V' hq => ?_)
        obtain ⟨r131, rfl, rfl, b132, q133⟩ := hq
        refine .inr ⟨_, rfl, ?_⟩
        rcases q133 with ⟨rfl, a134, a135, a136⟩ | ⟨rfl, a137⟩
        · have _q : True := trivial
          refine jx_if_eq (pc' := 122) (tg := 141) rfl rfl rfl (by decide) (by decide) (fun h138 => ?_) (fun h138 => ?_)
          · have _q := h138
            exact absurd h138 (by omega)
          · have _q := h138
            refine jx_ld (pc' := 123) (l' := L) (st' := [.ref 66]) rfl (jl_aloadn gL_0) ?_
            refine jx_vr (pc' := 126) (as := []) (st := []) rfl rfl rfl rfl ⟨rfl, rfl, Nat.le_of_ble_eq_true rfl⟩ rfl rfl (c_readLink (dd := d) (hd := by omega) (hW := hWx)  (ln := ln1) (e_ln := show Gx 9 = ln1 from (ex_ln1)) (le := le1) (e_le := show Ax 4 (ln1).toNat = le1 from (ex_le1)) (at0 := at1) (e_at0 := show Gx 10 = at1 from (ex_at1)) (fk := fk1) (e_fk := show Gx 16 = fk1 from (ex_fk1)) (tk0 := tk1) (e_tk0 := show Gx 11 = tk1 from (ex_tk1)) (sy := sy1) (e_sy := show Gx 19 = sy1 from (ex_sy1)) (na := na1) (e_na := show Gx 28 = na1 from (ex_na1)) (li := li) (e_li := show Gx 3 = li from ((hFx.1 3 rfl).trans (e_li))) (vi := vi1) (e_vi := show Gx 29 = vi1 from (ex_vi1)) (lk0 := lk1) (e_lk0 := show Gx 52 = lk1 from (ex_lk1)) (i_LT := (LT_ext ((hFx.1 3 rfl)) ((hFx.2 3 rfl)) ((hFx.2 4 rfl)) i_LT)) (i_SV := (SW_sv hSW0 ((show Gx 29 = vi1 from (ex_vi1)).trans (by omega)))) (i_PQ := hPW0) (hvb := hvb)   (p_0 := by omega) (p_1 := by omega) (p_2 := by omega) (p_3 := by omega) (p_4 := by omega) (p_5 := by omega)) (fun o V' hq => ?_)
            obtain ⟨G139, A140, ln2_141, at2_142, fk2_143, sy2_144, na2_145, vi2_146, lk2_147, rfl, rfl, hW148, hF149, hQ150, hQ151, hQ152, e153, e154, e155, e156, e157, e158, e159, p160, p161, p162, p163, p164, p165, p166, q167⟩ := hq
            have hF168 := Fr_tr hFx hF149 (Fr_sub (by decide)) (Fr_sub (by decide))
            have sf169 : PZ A140 := PZ_ext (hF149.2 36 rfl) iv_11
            have sf170 : SW (Vs) (sb) (vi1) A140 := SW_fx hQ151 (by omega) hSW0
            have sf171 : PQ (Vs) (sb) (pb) (fun _ => 0) A140 := PQ_fxq hPW0 hQ150 (by omega) (Fx_f (w := pb) Fx_rf hF149 (by decide)) (by omega)
            have sf172 : VL (Vs) A140 (s0) (sb) := VL_fx hQ150 (by omega) hVL0
            have sf173 : wQ A140 (pc1).toNat (nd1) (s0) := wQ_fx (Pf_f Pf_rf hF149 (by decide)) (Fx_su hQ150 (by omega)) (Fx_su (Fx_f (w := pc1) Fx_rf hF149 (by decide)) (by omega)) hwQ0
            have sf174 : wK A140 (s0) (lk1) := wK_fx hQ150 hQ152 (by omega) (by omega) (by omega) hwK0
            have ec175 : ecn A140 (G139 31) = ec1 := (ecn_f (hF149.2 15 rfl) (hF149.1 31 rfl)).trans ex_ec1
            have bln2_141 : (0 : Int) ≤ ln2_141 ∧ ln2_141 ≤ 3000 := e153 ▸ hW148.1 9
            have bat2_142 : (0 : Int) ≤ at2_142 ∧ at2_142 ≤ 3002 := e154 ▸ hW148.1 10
            have bfk2_143 : (0 : Int) ≤ fk2_143 ∧ fk2_143 ≤ 6 := e155 ▸ hW148.1 16
            have bsy2_144 : (0 : Int) ≤ sy2_144 ∧ sy2_144 ≤ 202 := e156 ▸ hW148.1 19
            have bna2_145 : (0 : Int) ≤ na2_145 ∧ na2_145 ≤ 200 := e157 ▸ hW148.1 28
            have bvi2_146 : (0 : Int) ≤ vi2_146 ∧ vi2_146 ≤ 202 := e158 ▸ hW148.1 29
            have blk2_147 : (0 : Int) ≤ lk2_147 ∧ lk2_147 ≤ 12 := e159 ▸ hW148.1 52
            refine .inl ⟨rfl, ?_⟩
            rcases q167 with a176 | ⟨a177, a178, a179, a180, a181, a182, a183, a184⟩
            · have _q : True := trivial
              refine jx_ld (pc' := 127) (l' := L) (st' := [.ref 66]) rfl (jl_aloadn gL_0) ?_
              refine jx_ar (pc' := 128) (st' := [.int (i32 (0)), .ref 66]) rfl rfl rfl rfl ?_
              have b185 : (-1 : Int) ≤ A 5 (ln2_141).toNat ∧ A 5 (ln2_141).toNat ≤ 15 := hW.2 5 _
              refine jx_vr (pc' := 131) (as := [.int (i32 (0))]) (st := []) rfl rfl rfl rfl ⟨rfl, rfl, Nat.le_of_ble_eq_true rfl⟩ rfl rfl (c_needLevel (dd := d) (hd := by omega) (hW := hW148) (lv := 0) (ln := ln2_141) (e_ln := show G139 9 = ln2_141 from (e153)) (li := li) (e_li := show G139 3 = li from ((hF149.1 3 rfl).trans ((hFx.1 3 rfl).trans (e_li)))) (fk := fk2_143) (e_fk := show G139 16 = fk2_143 from (e155)) (ll := A 5 (ln2_141).toNat) (e_ll := show A140 5 (ln2_141).toNat = A 5 (ln2_141).toNat from (congrFun ((hF149.2 5 rfl).trans (hFx.2 5 rfl)) _))  (h_lv := ⟨(by decide), (by decide)⟩)  ) (fun o V' hq => ?_)
              obtain ⟨G186, A187, r188, fk2_189, rfl, rfl, hW190, hF191, b192, e193, q194⟩ := hq
              have hF195 := Fr_tr hF168 hF191 (Fr_sub (by decide)) (Fr_sub (by decide))
              have sf196 : PZ A187 := (show A187 = A140 from funext (fun k => hF191.2 k rfl)) ▸ sf169
              have sf197 : SW (Vs) (sb) (vi1) A187 := (show A187 = A140 from funext (fun k => hF191.2 k rfl)) ▸ sf170
              have sf198 : PQ (Vs) (sb) (pb) (fun _ => 0) A187 := (show A187 = A140 from funext (fun k => hF191.2 k rfl)) ▸ sf171
              have sf199 : VL (Vs) A187 (s0) (sb) := (show A187 = A140 from funext (fun k => hF191.2 k rfl)) ▸ sf172
              have sf200 : wQ A187 (pc1).toNat (nd1) (s0) := (show A187 = A140 from funext (fun k => hF191.2 k rfl)) ▸ sf173
              have sf201 : wK A187 (s0) (lk1) := (show A187 = A140 from funext (fun k => hF191.2 k rfl)) ▸ sf174
              have ec202 : ecn A187 (G186 31) = ec1 := (ecn_f (hF191.2 15 rfl) (hF191.1 31 rfl)).trans ec175
              have bfk2_189 : (0 : Int) ≤ fk2_189 ∧ fk2_189 ≤ 6 := e193 ▸ hW190.1 16
              refine .inr ⟨_, rfl, ?_⟩
              rcases q194 with ⟨rfl, a203, a204, a205, a206⟩ | ⟨rfl, a207⟩
              · have _q : True := trivial
                exfalso
                omega
              · have _q : True := trivial
                refine jx_if_eq (pc' := 134) (tg := 106) rfl rfl rfl (by decide) (by decide) (fun h208 => ?_) (fun h208 => ?_)
                · have _q := h208
                  refine jx_ld (pc' := 107) (l' := L) (st' := [.ref 66]) rfl (jl_aloadn gL_0) ?_
                  refine jx_vr (pc' := 110) (as := []) (st := []) rfl rfl rfl rfl ⟨rfl, rfl, Nat.le_of_ble_eq_true rfl⟩ rfl rfl (c_bad (dd := d) (hd := by omega) (hW := hW190)  (fk := fk2_189) (e_fk := show G186 16 = fk2_189 from (e193))    ) (fun o V' hq => ?_)
                  obtain ⟨r209, rfl, rfl, b210, q211⟩ := hq
                  refine .inr ⟨_, rfl, ?_⟩
                  rcases q211 with ⟨rfl, a212⟩ | ⟨rfl, a213⟩
                  · have _q : True := trivial
                    refine jx_if_ne (pc' := 113) (tg := 141) rfl rfl rfl (by decide) (by decide) (fun h214 => ?_) (fun h214 => ?_)
                    · have _q := h214
                      refine jx_ld (pc' := 142) (l' := L) (st' := [.int (i32 (1))]) rfl (jl_iloadn gL_2) ?_
                      refine jx_if_eq (pc' := 145) (tg := 184) rfl rfl rfl (by decide) (by decide) (fun h215 => ?_) (fun h215 => ?_)
                      · have _q := h215
                        exact absurd h215 (by omega)
                      · have _q := h215
                        refine jx_ld (pc' := 146) (l' := L) (st' := [.ref 66]) rfl (jl_aloadn gL_0) ?_
                        refine jx_vr (pc' := 149) (as := []) (st := []) rfl rfl rfl rfl ⟨rfl, rfl, Nat.le_of_ble_eq_true rfl⟩ rfl rfl (c_bad (dd := d) (hd := by omega) (hW := hW190)  (fk := fk2_189) (e_fk := show G186 16 = fk2_189 from (e193))    ) (fun o V' hq => ?_)
                        obtain ⟨r216, rfl, rfl, b217, q218⟩ := hq
                        refine .inr ⟨_, rfl, ?_⟩
                        rcases q218 with ⟨rfl, a219⟩ | ⟨rfl, a220⟩
                        · have _q : True := trivial
                          refine jx_if_ne (pc' := 152) (tg := 170) rfl rfl rfl (by decide) (by decide) (fun h221 => ?_) (fun h221 => ?_)
                          · have _q := h221
                            refine jx_ld (pc' := 171) (l' := L) (st' := [.ref 66]) rfl (jl_aloadn gL_0) ?_
                            refine jx_vr (pc' := 174) (as := []) (st := []) rfl rfl rfl rfl ⟨rfl, rfl, Nat.le_of_ble_eq_true rfl⟩ rfl rfl (c_bad (dd := d) (hd := by omega) (hW := hW190)  (fk := fk2_189) (e_fk := show G186 16 = fk2_189 from (e193))    ) (fun o V' hq => ?_)
                            obtain ⟨r222, rfl, rfl, b223, q224⟩ := hq
                            refine .inr ⟨_, rfl, ?_⟩
                            rcases q224 with ⟨rfl, a225⟩ | ⟨rfl, a226⟩
                            · have _q : True := trivial
                              refine jx_if_ne (pc' := 177) (tg := 195) rfl rfl rfl (by decide) (by decide) (fun h227 => ?_) (fun h227 => ?_)
                              · have _q := h227
                                refine jx_ld (pc' := 196) (l' := L) (st' := [.ref 66]) rfl (jl_aloadn gL_0) ?_
                                refine jx_vr (pc' := 199) (as := []) (st := []) rfl rfl rfl rfl ⟨rfl, rfl, Nat.le_of_ble_eq_true rfl⟩ rfl rfl (c_bad (dd := d) (hd := by omega) (hW := hW190)  (fk := fk2_189) (e_fk := show G186 16 = fk2_189 from (e193))    ) (fun o V' hq => ?_)
                                obtain ⟨r228, rfl, rfl, b229, q230⟩ := hq
                                refine .inr ⟨_, rfl, ?_⟩
                                rcases q230 with ⟨rfl, a231⟩ | ⟨rfl, a232⟩
                                · have _q : True := trivial
                                  refine jx_if_ne (pc' := 202) (tg := 237) rfl rfl rfl (by decide) (by decide) (fun h233 => ?_) (fun h233 => ?_)
                                  · have _q := h233
                                    refine jx_rt (v := none) rfl rfl rfl rfl rfl rfl ?_
                                    exact ⟨_, _, ln2_141, fk2_189, nd1, sy2_144, na2_145, vi2_146, pc1, lk2_147, ec1, rfl, rfl, hW190, hF195, ((hF191.1 9 rfl).trans (e153)), (e193), ((hF191.1 31 rfl).trans ((hF149.1 31 rfl).trans (ex_nd1))), ((hF191.1 19 rfl).trans (e156)), ((hF191.1 28 rfl).trans (e157)), ((hF191.1 29 rfl).trans (e158)), ((hF191.1 46 rfl).trans ((hF149.1 46 rfl).trans (ex_pc1))), ((hF191.1 52 rfl).trans (e159)), ec202, by first | exact Or.inl (by omega)⟩
                                  · have _q := h233
                                    exact absurd h233 (by omega)
                                · have _q : True := trivial
                                  exfalso
                                  omega
                              · have _q := h227
                                exact absurd h227 (by omega)
                            · have _q : True := trivial
                              exfalso
                              omega
                          · have _q := h221
                            exact absurd h221 (by omega)
                        · have _q : True := trivial
                          exfalso
                          omega
                    · have _q := h214
                      exact absurd h214 (by omega)
                  · have _q : True := trivial
                    exfalso
                    omega
                · have _q := h208
                  exact absurd h208 (by omega)
            · have _q : True := trivial
              have b234 : (0 : Int) ≤ A 3 (ln2_141).toNat ∧ A 3 (ln2_141).toNat ≤ 3000 := hW.2 3 _
              have lt235 : ln2_141 < li → le1 < A 3 (ln2_141).toNat := fun hh => LT_nx (LT_ext (((hF149.1 3 rfl).trans (hFx.1 3 rfl))) (((hF149.2 3 rfl).trans (hFx.2 3 rfl))) (((hF149.2 4 rfl).trans (hFx.2 4 rfl))) i_LT) (show G139 3 = li from ((hF149.1 3 rfl).trans ((hFx.1 3 rfl).trans (e_li)))) (show A140 4 (ln1).toNat = le1 from (congrFun (hF149.2 4 rfl) _).trans (ex_le1)) (show A140 3 (ln2_141).toNat = A 3 (ln2_141).toNat from (congrFun ((hF149.2 3 rfl).trans (hFx.2 3 rfl)) _)) (show ln2_141 = ln1 + 1 by omega) (by omega) hh
              refine jx_ld (pc' := 127) (l' := L) (st' := [.ref 66]) rfl (jl_aloadn gL_0) ?_
              refine jx_ar (pc' := 128) (st' := [.int (i32 (0)), .ref 66]) rfl rfl rfl rfl ?_
              have b236 : (-1 : Int) ≤ A 5 (ln2_141).toNat ∧ A 5 (ln2_141).toNat ≤ 15 := hW.2 5 _
              refine jx_vr (pc' := 131) (as := [.int (i32 (0))]) (st := []) rfl rfl rfl rfl ⟨rfl, rfl, Nat.le_of_ble_eq_true rfl⟩ rfl rfl (c_needLevel (dd := d) (hd := by omega) (hW := hW148) (lv := 0) (ln := ln2_141) (e_ln := show G139 9 = ln2_141 from (e153)) (li := li) (e_li := show G139 3 = li from ((hF149.1 3 rfl).trans ((hFx.1 3 rfl).trans (e_li)))) (fk := fk2_143) (e_fk := show G139 16 = fk2_143 from (e155)) (ll := A 5 (ln2_141).toNat) (e_ll := show A140 5 (ln2_141).toNat = A 5 (ln2_141).toNat from (congrFun ((hF149.2 5 rfl).trans (hFx.2 5 rfl)) _))  (h_lv := ⟨(by decide), (by decide)⟩)  ) (fun o V' hq => ?_)
              obtain ⟨G237, A238, r239, fk2_240, rfl, rfl, hW241, hF242, b243, e244, q245⟩ := hq
              have hF246 := Fr_tr hF168 hF242 (Fr_sub (by decide)) (Fr_sub (by decide))
              have sf247 : PZ A238 := (show A238 = A140 from funext (fun k => hF242.2 k rfl)) ▸ sf169
              have sf248 : SW (Vs) (sb) (vi1) A238 := (show A238 = A140 from funext (fun k => hF242.2 k rfl)) ▸ sf170
              have sf249 : PQ (Vs) (sb) (pb) (fun _ => 0) A238 := (show A238 = A140 from funext (fun k => hF242.2 k rfl)) ▸ sf171
              have sf250 : VL (Vs) A238 (s0) (sb) := (show A238 = A140 from funext (fun k => hF242.2 k rfl)) ▸ sf172
              have sf251 : wQ A238 (pc1).toNat (nd1) (s0) := (show A238 = A140 from funext (fun k => hF242.2 k rfl)) ▸ sf173
              have sf252 : wK A238 (s0) (lk1) := (show A238 = A140 from funext (fun k => hF242.2 k rfl)) ▸ sf174
              have sf253 : SW (Vu Vs sy1) (sy2_144) (vi2_146) A238 := (show A238 = A140 from funext (fun k => hF242.2 k rfl)) ▸ a182
              have sf254 : PQ (Vu Vs sy1) (sy2_144) (pb) (fun _ => 0) A238 := (show A238 = A140 from funext (fun k => hF242.2 k rfl)) ▸ a183
              have sf255 : LK A238 (sy1) (lk1) := (show A238 = A140 from funext (fun k => hF242.2 k rfl)) ▸ a184
              have ec256 : ecn A238 (G237 31) = ec1 := (ecn_f (hF242.2 15 rfl) (hF242.1 31 rfl)).trans ec175
              have bfk2_240 : (0 : Int) ≤ fk2_240 ∧ fk2_240 ≤ 6 := e244 ▸ hW241.1 16
              refine .inr ⟨_, rfl, ?_⟩
              rcases q245 with ⟨rfl, a257, a258, a259, a260⟩ | ⟨rfl, a261⟩
              · have _q : True := trivial
                have b262 : (0 : Int) ≤ A 4 (ln2_141).toNat ∧ A 4 (ln2_141).toNat ≤ 3000 := hW.2 4 _
                have lt263 : A 3 (ln2_141).toNat < A 4 (ln2_141).toNat := LT_at (LT_ext (((hF242.1 3 rfl).trans ((hF149.1 3 rfl).trans (hFx.1 3 rfl)))) (((hF242.2 3 rfl).trans ((hF149.2 3 rfl).trans (hFx.2 3 rfl)))) (((hF242.2 4 rfl).trans ((hF149.2 4 rfl).trans (hFx.2 4 rfl)))) i_LT) (show G237 3 = li from ((hF242.1 3 rfl).trans ((hF149.1 3 rfl).trans ((hFx.1 3 rfl).trans (e_li))))) (show A238 3 (ln2_141).toNat = A 3 (ln2_141).toNat from (congrFun ((hF242.2 3 rfl).trans ((hF149.2 3 rfl).trans (hFx.2 3 rfl))) _)) (show A238 4 (ln2_141).toNat = A 4 (ln2_141).toNat from (congrFun ((hF242.2 4 rfl).trans ((hF149.2 4 rfl).trans (hFx.2 4 rfl))) _)) (by omega) (by omega)
                refine jx_if_eq (pc' := 134) (tg := 106) rfl rfl rfl (by decide) (by decide) (fun h264 => ?_) (fun h264 => ?_)
                · have _q := h264
                  exact absurd h264 (by omega)
                · have _q := h264
                  refine jx_ld (pc' := 135) (l' := L) (st' := [.ref 66]) rfl (jl_aloadn gL_0) ?_
                  refine jx_vr (pc' := 138) (as := []) (st := []) rfl rfl rfl rfl ⟨rfl, rfl, Nat.le_of_ble_eq_true rfl⟩ rfl rfl (c_openLine (dd := d) (hd := by omega) (hW := hW241)  (ln := ln2_141) (e_ln := show G237 9 = ln2_141 from ((hF242.1 9 rfl).trans (e153))) (le := A 4 (ln2_141).toNat) (e_le := show A238 4 (ln2_141).toNat = A 4 (ln2_141).toNat from (congrFun ((hF242.2 4 rfl).trans ((hF149.2 4 rfl).trans (hFx.2 4 rfl))) _)) (lf := A 3 (ln2_141).toNat) (e_lf := show A238 3 (ln2_141).toNat = A 3 (ln2_141).toNat from (congrFun ((hF242.2 3 rfl).trans ((hF149.2 3 rfl).trans (hFx.2 3 rfl))) _))    (p_0 := by omega)) (fun o V' hq => ?_)
                  obtain ⟨G265, A266, at2_267, tk2_268, op2_269, rfl, rfl, hW270, hF271, e272, e273, e274, p275, p276, p277, p278, -⟩ := hq
                  have hF280 := Fr_tr hF246 hF271 (Fr_sub (by decide)) (Fr_sub (by decide))
                  have sf281 : PZ A266 := (show A266 = A238 from funext (fun k => hF271.2 k rfl)) ▸ sf247
                  have sf282 : SW (Vs) (sb) (vi1) A266 := (show A266 = A238 from funext (fun k => hF271.2 k rfl)) ▸ sf248
                  have sf283 : PQ (Vs) (sb) (pb) (fun _ => 0) A266 := (show A266 = A238 from funext (fun k => hF271.2 k rfl)) ▸ sf249
                  have sf284 : VL (Vs) A266 (s0) (sb) := (show A266 = A238 from funext (fun k => hF271.2 k rfl)) ▸ sf250
                  have sf285 : wQ A266 (pc1).toNat (nd1) (s0) := (show A266 = A238 from funext (fun k => hF271.2 k rfl)) ▸ sf251
                  have sf286 : wK A266 (s0) (lk1) := (show A266 = A238 from funext (fun k => hF271.2 k rfl)) ▸ sf252
                  have sf287 : SW (Vu Vs sy1) (sy2_144) (vi2_146) A266 := (show A266 = A238 from funext (fun k => hF271.2 k rfl)) ▸ sf253
                  have sf288 : PQ (Vu Vs sy1) (sy2_144) (pb) (fun _ => 0) A266 := (show A266 = A238 from funext (fun k => hF271.2 k rfl)) ▸ sf254
                  have sf289 : LK A266 (sy1) (lk1) := (show A266 = A238 from funext (fun k => hF271.2 k rfl)) ▸ sf255
                  have ec290 : ecn A266 (G265 31) = ec1 := (ecn_f (hF271.2 15 rfl) (hF271.1 31 rfl)).trans ec256
                  have bat2_267 : (0 : Int) ≤ at2_267 ∧ at2_267 ≤ 3002 := e272 ▸ hW270.1 10
                  have ztk2_268 := tz_b tk2_268
                  have btk2_268 : (0 : Int) ≤ tk2_268 ∧ tk2_268 ≤ 5 := e273 ▸ hW270.1 11
                  have bop2_269 : (-2147483648 : Int) ≤ op2_269 ∧ op2_269 ≤ 2147483647 := e274 ▸ hW270.1 15
                  refine .inl ⟨rfl, ?_⟩
                  refine jx_go (tg := 106) rfl rfl ?_
                  have z291 := tz_f (tk2_268)
                  exact ih106_1 _ (by omega) L G265 A266 (ln2_141) (at2_267) (tk2_268) (fk2_240) (op2_269) (nd1) (sy2_144) (na2_145) (vi2_146) (A 3 (ln2_141).toNat) (A 4 (ln2_141).toNat) (pc1) (lk2_147) (ec1) rfl gL_0 gL_2 hW270 hF280 (((hF271.1 9 rfl).trans ((hF242.1 9 rfl).trans (e153)))) ((e272)) ((e273)) (((hF271.1 16 rfl).trans (e244))) ((e274)) (((hF271.1 31 rfl).trans ((hF242.1 31 rfl).trans ((hF149.1 31 rfl).trans (ex_nd1))))) (((hF271.1 19 rfl).trans ((hF242.1 19 rfl).trans (e156)))) (((hF271.1 28 rfl).trans ((hF242.1 28 rfl).trans (e157)))) (((hF271.1 29 rfl).trans ((hF242.1 29 rfl).trans (e158)))) ((congrFun ((hF271.2 3 rfl).trans ((hF242.2 3 rfl).trans ((hF149.2 3 rfl).trans (hFx.2 3 rfl)))) _)) ((congrFun ((hF271.2 4 rfl).trans ((hF242.2 4 rfl).trans ((hF149.2 4 rfl).trans (hFx.2 4 rfl)))) _)) (((hF271.1 46 rfl).trans ((hF242.1 46 rfl).trans ((hF149.1 46 rfl).trans (ex_pc1))))) (((hF271.1 52 rfl).trans ((hF242.1 52 rfl).trans (e159)))) (ec290) (by omega) (by omega) (by omega) (by omega) (by omega) (by omega) (by omega) (by omega) (by omega) (by omega) (by omega) (sf281) ((TL_mk (s0 := s0) (by omega) (by omega) (by omega) (VB_u hvb (by omega) (by omega)) sf287 sf288 (VL_u (t1 := sy2_144) sf284 (by omega) (by omega) (by omega)) sf285 (wK_add sf286 sf289 (by omega) (by omega) rfl) (by omega) (by omega) (by omega) (by omega) (by omega) (by omega) (by omega) (by omega) (by omega) (by omega))) (by omega)
              · have _q : True := trivial
                refine jx_if_eq (pc' := 134) (tg := 106) rfl rfl rfl (by decide) (by decide) (fun h292 => ?_) (fun h292 => ?_)
                · have _q := h292
                  refine jx_ld (pc' := 107) (l' := L) (st' := [.ref 66]) rfl (jl_aloadn gL_0) ?_
                  refine jx_vr (pc' := 110) (as := []) (st := []) rfl rfl rfl rfl ⟨rfl, rfl, Nat.le_of_ble_eq_true rfl⟩ rfl rfl (c_bad (dd := d) (hd := by omega) (hW := hW241)  (fk := fk2_240) (e_fk := show G237 16 = fk2_240 from (e244))    ) (fun o V' hq => ?_)
                  obtain ⟨r293, rfl, rfl, b294, q295⟩ := hq
                  refine .inr ⟨_, rfl, ?_⟩
                  rcases q295 with ⟨rfl, a296⟩ | ⟨rfl, a297⟩
                  · have _q : True := trivial
                    refine jx_if_ne (pc' := 113) (tg := 141) rfl rfl rfl (by decide) (by decide) (fun h298 => ?_) (fun h298 => ?_)
                    · have _q := h298
                      refine jx_ld (pc' := 142) (l' := L) (st' := [.int (i32 (1))]) rfl (jl_iloadn gL_2) ?_
                      refine jx_if_eq (pc' := 145) (tg := 184) rfl rfl rfl (by decide) (by decide) (fun h299 => ?_) (fun h299 => ?_)
                      · have _q := h299
                        exact absurd h299 (by omega)
                      · have _q := h299
                        refine jx_ld (pc' := 146) (l' := L) (st' := [.ref 66]) rfl (jl_aloadn gL_0) ?_
                        refine jx_vr (pc' := 149) (as := []) (st := []) rfl rfl rfl rfl ⟨rfl, rfl, Nat.le_of_ble_eq_true rfl⟩ rfl rfl (c_bad (dd := d) (hd := by omega) (hW := hW241)  (fk := fk2_240) (e_fk := show G237 16 = fk2_240 from (e244))    ) (fun o V' hq => ?_)
                        obtain ⟨r300, rfl, rfl, b301, q302⟩ := hq
                        refine .inr ⟨_, rfl, ?_⟩
                        rcases q302 with ⟨rfl, a303⟩ | ⟨rfl, a304⟩
                        · have _q : True := trivial
                          refine jx_if_ne (pc' := 152) (tg := 170) rfl rfl rfl (by decide) (by decide) (fun h305 => ?_) (fun h305 => ?_)
                          · have _q := h305
                            refine jx_ld (pc' := 171) (l' := L) (st' := [.ref 66]) rfl (jl_aloadn gL_0) ?_
                            refine jx_vr (pc' := 174) (as := []) (st := []) rfl rfl rfl rfl ⟨rfl, rfl, Nat.le_of_ble_eq_true rfl⟩ rfl rfl (c_bad (dd := d) (hd := by omega) (hW := hW241)  (fk := fk2_240) (e_fk := show G237 16 = fk2_240 from (e244))    ) (fun o V' hq => ?_)
                            obtain ⟨r306, rfl, rfl, b307, q308⟩ := hq
                            refine .inr ⟨_, rfl, ?_⟩
                            rcases q308 with ⟨rfl, a309⟩ | ⟨rfl, a310⟩
                            · have _q : True := trivial
                              refine jx_if_ne (pc' := 177) (tg := 195) rfl rfl rfl (by decide) (by decide) (fun h311 => ?_) (fun h311 => ?_)
                              · have _q := h311
                                refine jx_ld (pc' := 196) (l' := L) (st' := [.ref 66]) rfl (jl_aloadn gL_0) ?_
                                refine jx_vr (pc' := 199) (as := []) (st := []) rfl rfl rfl rfl ⟨rfl, rfl, Nat.le_of_ble_eq_true rfl⟩ rfl rfl (c_bad (dd := d) (hd := by omega) (hW := hW241)  (fk := fk2_240) (e_fk := show G237 16 = fk2_240 from (e244))    ) (fun o V' hq => ?_)
                                obtain ⟨r312, rfl, rfl, b313, q314⟩ := hq
                                refine .inr ⟨_, rfl, ?_⟩
                                rcases q314 with ⟨rfl, a315⟩ | ⟨rfl, a316⟩
                                · have _q : True := trivial
                                  refine jx_if_ne (pc' := 202) (tg := 237) rfl rfl rfl (by decide) (by decide) (fun h317 => ?_) (fun h317 => ?_)
                                  · have _q := h317
                                    refine jx_rt (v := none) rfl rfl rfl rfl rfl rfl ?_
                                    exact ⟨_, _, ln2_141, fk2_240, nd1, sy2_144, na2_145, vi2_146, pc1, lk2_147, ec1, rfl, rfl, hW241, hF246, ((hF242.1 9 rfl).trans (e153)), (e244), ((hF242.1 31 rfl).trans ((hF149.1 31 rfl).trans (ex_nd1))), ((hF242.1 19 rfl).trans (e156)), ((hF242.1 28 rfl).trans (e157)), ((hF242.1 29 rfl).trans (e158)), ((hF242.1 46 rfl).trans ((hF149.1 46 rfl).trans (ex_pc1))), ((hF242.1 52 rfl).trans (e159)), ec256, by first | exact Or.inl (by omega)⟩
                                  · have _q := h317
                                    exact absurd h317 (by omega)
                                · have _q : True := trivial
                                  exfalso
                                  omega
                              · have _q := h311
                                exact absurd h311 (by omega)
                            · have _q : True := trivial
                              exfalso
                              omega
                          · have _q := h305
                            exact absurd h305 (by omega)
                        · have _q : True := trivial
                          exfalso
                          omega
                    · have _q := h298
                      exact absurd h298 (by omega)
                  · have _q : True := trivial
                    exfalso
                    omega
                · have _q := h292
                  exact absurd h292 (by omega)
        · have _q : True := trivial
          refine jx_if_eq (pc' := 122) (tg := 141) rfl rfl rfl (by decide) (by decide) (fun h318 => ?_) (fun h318 => ?_)
          · have _q := h318
            have z319 := tz_f (tk1)
            exact c_readProgram_w_at_141_1 (X := X) (d := d) (c0 := c0) (c1 := c1) (G := G) (A := A) (T := T) (ln := ln) (li := li) (fk := fk) (nd := nd) (sy := sy) (na := na) (vi := vi) (lf := lf) (pc := pc) (lk := lk) (ec := ec) (hd := hd) (hW := hW) (e_ln := e_ln) (e_li := e_li) (e_fk := e_fk) (e_nd := e_nd) (e_sy := e_sy) (e_na := e_na) (e_vi := e_vi) (e_lf := e_lf) (e_pc := e_pc) (e_lk := e_lk) (e_ec := e_ec) (i_LT := i_LT) (p_0 := p_0) (p_1 := p_1) (p_2 := p_2) (p_3 := p_3) (p_4 := p_4) (p_5 := p_5) (p_6 := p_6) (p_7 := p_7) (p_8 := p_8) (p_9 := p_9) L Gx Ax (ln1) (at1) (tk1) (fk1) (op1) (nd1) (sy1) (na1) (vi1) (lf1) (le1) (pc1) (lk1) (ec1) gL_0 gL_2 hWx hFx ((ex_ln1)) ((ex_at1)) ((ex_tk1)) ((ex_fk1)) ((ex_op1)) ((ex_nd1)) ((ex_sy1)) ((ex_na1)) ((ex_vi1)) ((ex_lf1)) ((ex_le1)) ((ex_pc1)) ((ex_lk1)) (ex_ec1) (by omega) (by omega) (by omega) (by omega) (by omega) (by omega) (by omega) (by omega) (by omega) (by omega) (by omega) (iv_11) ((TL_mk (s0 := s0) (by omega) (by omega) (by omega) (VB_eq hvb (by omega)) hSW0 hPW0 hVL0 hwQ0 hwK0 (by omega) (by omega) (by omega) (by omega) (by omega) (by omega) (by omega) (by omega) (by omega) (by omega))) (by omega)
          · have _q := h318
            exact absurd h318 (by omega)
set_option maxRecDepth 20000 in
set_option maxHeartbeats 4000000 in
theorem c_readProgram_w_at_74 {X : jX} {d : Nat} {c0 c1 : jC} {G : Nat → Int} {A : Nat → Nat → Int} {T : jH} {ln li fk nd sy na vi lf pc lk ec : Int} (hd : 8 * 18 + 82 ≤ d + 1) (hW : Wk G A) (e_ln : G 9 = ln) (e_li : G 3 = li) (e_fk : G 16 = fk) (e_nd : G 31 = nd) (e_sy : G 19 = sy) (e_na : G 28 = na) (e_vi : G 29 = vi) (e_lf : A 3 (ln).toNat = lf) (e_pc : G 46 = pc) (e_lk : G 52 = lk) (e_ec : ecn A (G 31) = ec) (i_LT : LT G A) (p_0 : fk = 0) (p_1 : ln = 0) (p_2 : nd = 1) (p_3 : sy = 0) (p_4 : na = 0) (p_5 : vi = 0) (p_6 : pc = 0) (p_7 : lk = 0) (p_8 : PZ A) (p_9 : ec = 0) : ∀ (L : jL) (Gx : Nat → Int) (Ax : Nat → Nat → Int) (ln1 at1 tk1 fk1 op1 nd1 sy1 na1 vi1 lf1 le1 pc1 ec1 : Int), jGet L 0 = some (.ref 66) → Wk Gx Ax → Fr [9, 10, 11, 12, 13, 14, 15, 16, 17, 18, 19, 28, 29, 31, 46, 52] [6, 7, 8, 9, 10, 11, 12, 14, 15, 16, 17, 18, 19, 20, 21, 22, 23, 24, 28, 29, 30, 31, 34, 35, 36] G A Gx Ax → Gx 9 = ln1 → Gx 10 = at1 → Gx 11 = tk1 → Gx 16 = fk1 → Gx 15 = op1 → Gx 31 = nd1 → Gx 19 = sy1 → Gx 28 = na1 → Gx 29 = vi1 → Ax 3 (ln1).toNat = lf1 → Ax 4 (ln1).toNat = le1 → Gx 46 = pc1 → ecn Ax (Gx 31) = ec1 → Gx 52 = lk → (fk1 = 0) → (0 ≤ lf1) → (ln1 < li) → (lf1 < le1) → (2 * lf1 ≤ 2 * at1 - tz tk1) → (lf1 ≤ at1) → (at1 ≤ le1) → (nd1 ≤ 2 * lf1 + 2) → (op1 = 0) → (sy1 ≤ na1 + 2) → (vi1 ≤ sy1) → (PZ Ax) → (TP Ax (pc1) (nd1) (sy1) (vi1)) → (nd1 + 5 * ec1 ≤ 2 * lf1 + 2) → wj X d jm312 (74, L, [], rV c0 c1 Gx Ax T) (fun o V' => ∃ (G' : Nat → Int) (A' : Nat → Nat → Int) (ln2 : Int) (fk2 : Int) (nd2 : Int) (sy2 : Int) (na2 : Int) (vi2 : Int) (pc2 : Int) (lk2 : Int) (ec2 : Int), V' = rV c0 c1 G' A' T ∧ o = .inl none ∧ Wk G' A' ∧ Fr [9, 10, 11, 12, 13, 14, 15, 16, 17, 18, 19, 28, 29, 31, 46, 52] [6, 7, 8, 9, 10, 11, 12, 14, 15, 16, 17, 18, 19, 20, 21, 22, 23, 24, 28, 29, 30, 31, 34, 35, 36] G A G' A' ∧ G' 9 = ln2 ∧ G' 16 = fk2 ∧ G' 31 = nd2 ∧ G' 19 = sy2 ∧ G' 28 = na2 ∧ G' 29 = vi2 ∧ G' 46 = pc2 ∧ G' 52 = lk2 ∧ ecn A' (G' 31) = ec2 ∧ (((1 ≤ fk2)) ∨ ((fk2 = 0) ∧ (TT A' (pc2) (nd2) (sy2) (lk2)) ∧ (nd2 + 5 * ec2 ≤ 6050)))) := by
  have hF0 : Fr [9, 10, 11, 12, 13, 14, 15, 16, 17, 18, 19, 28, 29, 31, 46, 52] [6, 7, 8, 9, 10, 11, 12, 14, 15, 16, 17, 18, 19, 20, 21, 22, 23, 24, 28, 29, 30, 31, 34, 35, 36] G A G A := Fr_rf
  have b_ln : (0 : Int) ≤ ln ∧ ln ≤ 3000 := e_ln ▸ hW.1 9
  have b_li : (0 : Int) ≤ li ∧ li ≤ 3000 := e_li ▸ hW.1 3
  have b_fk : (0 : Int) ≤ fk ∧ fk ≤ 6 := e_fk ▸ hW.1 16
  have b_nd : (0 : Int) ≤ nd ∧ nd ≤ 6999 := e_nd ▸ hW.1 31
  have b_sy : (0 : Int) ≤ sy ∧ sy ≤ 202 := e_sy ▸ hW.1 19
  have b_na : (0 : Int) ≤ na ∧ na ≤ 200 := e_na ▸ hW.1 28
  have b_vi : (0 : Int) ≤ vi ∧ vi ≤ 202 := e_vi ▸ hW.1 29
  have b_lf : (0 : Int) ≤ lf ∧ lf ≤ 3000 := e_lf ▸ hW.2 3 _
  have b_pc : (0 : Int) ≤ pc ∧ pc ≤ 24 := e_pc ▸ hW.1 46
  have b_lk : (0 : Int) ≤ lk ∧ lk ≤ 12 := e_lk ▸ hW.1 52
  intro L Gx Ax ln1 at1 tk1 fk1 op1 nd1 sy1 na1 vi1 lf1 le1 pc1 ec1 gL_0 hWx hFx ex_ln1 ex_at1 ex_tk1 ex_fk1 ex_op1 ex_nd1 ex_sy1 ex_na1 ex_vi1 ex_lf1 ex_le1 ex_pc1 ex_ec1 fx_52 iv_0 iv_1 iv_2 iv_3 iv_4 iv_5 iv_6 iv_7 iv_8 iv_9 iv_10 iv_11 iv_12 iv_13
  have b_ln1 : (0 : Int) ≤ ln1 ∧ ln1 ≤ 3000 := ex_ln1 ▸ hWx.1 9
  have b_at1 : (0 : Int) ≤ at1 ∧ at1 ≤ 3002 := ex_at1 ▸ hWx.1 10
  have z_tk1 := tz_f tk1
  have b_tk1 : (0 : Int) ≤ tk1 ∧ tk1 ≤ 5 := ex_tk1 ▸ hWx.1 11
  have b_fk1 : (0 : Int) ≤ fk1 ∧ fk1 ≤ 6 := ex_fk1 ▸ hWx.1 16
  have b_op1 : (-2147483648 : Int) ≤ op1 ∧ op1 ≤ 2147483647 := ex_op1 ▸ hWx.1 15
  have b_nd1 : (0 : Int) ≤ nd1 ∧ nd1 ≤ 6999 := ex_nd1 ▸ hWx.1 31
  have b_sy1 : (0 : Int) ≤ sy1 ∧ sy1 ≤ 202 := ex_sy1 ▸ hWx.1 19
  have b_na1 : (0 : Int) ≤ na1 ∧ na1 ≤ 200 := ex_na1 ▸ hWx.1 28
  have b_vi1 : (0 : Int) ≤ vi1 ∧ vi1 ≤ 202 := ex_vi1 ▸ hWx.1 29
  have b_pc1 : (0 : Int) ≤ pc1 ∧ pc1 ≤ 24 := ex_pc1 ▸ hWx.1 46
  obtain ⟨Vs, hvb, hSW0, hPW0, hVT0, hwQ0⟩ := iv_12; obtain ⟨sb, hsb⟩ : ∃ z : Int, z = sy1 := ⟨_, rfl⟩; obtain ⟨pb, hpb⟩ : ∃ z : Int, z = pc1 := ⟨_, rfl⟩; rw [← hsb] at hvb hSW0 hPW0 hVT0 hwQ0; rw [← hpb] at hPW0; have hle0 := wQ_le hwQ0
  refine jx_ld (pc' := 75) (l' := L) (st' := [.ref 66]) rfl (jl_aloadn gL_0) ?_
  refine jx_vr (pc' := 78) (as := []) (st := []) rfl rfl rfl rfl ⟨rfl, rfl, Nat.le_of_ble_eq_true rfl⟩ rfl rfl (c_bad (dd := d) (hd := by omega) (hW := hWx)  (fk := fk1) (e_fk := show Gx 16 = fk1 from (ex_fk1))    ) (fun o V' hq => ?_)
  obtain ⟨r320, rfl, rfl, b321, q322⟩ := hq
  refine .inr ⟨_, rfl, ?_⟩
  rcases q322 with ⟨rfl, a323⟩ | ⟨rfl, a324⟩
  · have _q : True := trivial
    exfalso
    omega
  · have _q : True := trivial
    refine jx_if_eq (pc' := 81) (tg := 82) rfl rfl rfl (by decide) (by decide) (fun h325 => ?_) (fun h325 => ?_)
    · have _q := h325
      refine jx_ld (pc' := 83) (l' := L) (st' := [.ref 66]) rfl (jl_aloadn gL_0) ?_
      refine jx_ar (pc' := 85) (st' := [.int (i32 (21)), .ref 66]) rfl rfl rfl rfl ?_
      have b326 : (-2147483648 : Int) ≤ Gx 13 ∧ Gx 13 ≤ 2147483647 := hWx.1 13
      refine jx_vr (pc' := 88) (as := [.int (i32 (21))]) (st := []) rfl rfl rfl rfl ⟨rfl, rfl, Nat.le_of_ble_eq_true rfl⟩ rfl rfl (c_isKey2 (dd := d) (hd := by omega) (hW := hWx) (k := 21) (tk := tk1) (e_tk := show Gx 11 = tk1 from (ex_tk1)) (tn := Gx 13) (e_tn := show Gx 13 = Gx 13 from rfl)  (h_k := ⟨(by decide), (by decide)⟩)  ) (fun o V' hq => ?_)
      obtain ⟨r327, rfl, rfl, b328, q329⟩ := hq
      refine .inr ⟨_, rfl, ?_⟩
      rcases q329 with ⟨rfl, a330, a331, a332⟩ | ⟨rfl, a333⟩
      · have _q : True := trivial
        refine jx_if_ne (pc' := 91) (tg := 100) rfl rfl rfl (by decide) (by decide) (fun h334 => ?_) (fun h334 => ?_)
        · have _q := h334
          refine jx_ar (pc' := 101) (st' := [.int (i32 (1))]) rfl rfl rfl rfl ?_
          refine jx_go (tg := 105) rfl rfl ?_
          refine jx_ld (pc' := 106) (l' := jSto1 L 2 (.int (i32 (1)))) (st' := []) rfl rfl ?_
          obtain ⟨L335, eL335⟩ : ∃ q, q = jSto1 L 2 (.int (i32 (1))) := ⟨_, rfl⟩
          rw [← eL335]
          have gL335_0 : jGet L335 0 = some (.ref 66) := eL335 ▸ jg_ne (by decide) gL_0 rfl
          have gL335_2 : jGet L335 2 = some (.int (i32 (1))) := eL335 ▸ jg_eq
          have z336 := tz_f (tk1)
          exact c_readProgram_w_at_106_1 (X := X) (d := d) (c0 := c0) (c1 := c1) (G := G) (A := A) (T := T) (ln := ln) (li := li) (fk := fk) (nd := nd) (sy := sy) (na := na) (vi := vi) (lf := lf) (pc := pc) (lk := lk) (ec := ec) (hd := hd) (hW := hW) (e_ln := e_ln) (e_li := e_li) (e_fk := e_fk) (e_nd := e_nd) (e_sy := e_sy) (e_na := e_na) (e_vi := e_vi) (e_lf := e_lf) (e_pc := e_pc) (e_lk := e_lk) (e_ec := e_ec) (i_LT := i_LT) (p_0 := p_0) (p_1 := p_1) (p_2 := p_2) (p_3 := p_3) (p_4 := p_4) (p_5 := p_5) (p_6 := p_6) (p_7 := p_7) (p_8 := p_8) (p_9 := p_9) _ L335 Gx Ax (ln1) (at1) (tk1) (fk1) (op1) (nd1) (sy1) (na1) (vi1) (lf1) (le1) (pc1) (lk) (ec1) rfl gL335_0 gL335_2 hWx hFx ((ex_ln1)) ((ex_at1)) ((ex_tk1)) ((ex_fk1)) ((ex_op1)) ((ex_nd1)) ((ex_sy1)) ((ex_na1)) ((ex_vi1)) ((ex_lf1)) ((ex_le1)) ((ex_pc1)) ((fx_52)) (ex_ec1) (by omega) (by omega) (by omega) (by omega) (by omega) (by omega) (by omega) (by omega) (by omega) (by omega) (by omega) (iv_11) ((TL_tp (TP_mk (VB_eq hvb (by omega)) hSW0 hPW0 hVT0 hwQ0 (by omega) (by omega) (by omega) (by omega) (by omega) (by omega) (by omega) (by omega)) (by omega))) (by omega)
        · have _q := h334
          exact absurd h334 (by omega)
      · have _q : True := trivial
        refine jx_if_ne (pc' := 91) (tg := 100) rfl rfl rfl (by decide) (by decide) (fun h337 => ?_) (fun h337 => ?_)
        · have _q := h337
          exact absurd h337 (by omega)
        · have _q := h337
          refine jx_ld (pc' := 92) (l' := L) (st' := [.ref 66]) rfl (jl_aloadn gL_0) ?_
          refine jx_ar (pc' := 94) (st' := [.int (i32 (19)), .ref 66]) rfl rfl rfl rfl ?_
          refine jx_vr (pc' := 97) (as := [.int (i32 (19))]) (st := []) rfl rfl rfl rfl ⟨rfl, rfl, Nat.le_of_ble_eq_true rfl⟩ rfl rfl (c_isKey2 (dd := d) (hd := by omega) (hW := hWx) (k := 19) (tk := tk1) (e_tk := show Gx 11 = tk1 from (ex_tk1)) (tn := Gx 13) (e_tn := show Gx 13 = Gx 13 from rfl)  (h_k := ⟨(by decide), (by decide)⟩)  ) (fun o V' hq => ?_)
          obtain ⟨r338, rfl, rfl, b339, q340⟩ := hq
          refine .inr ⟨_, rfl, ?_⟩
          rcases q340 with ⟨rfl, a341, a342, a343⟩ | ⟨rfl, a344⟩
          · have _q : True := trivial
            refine jx_if_eq (pc' := 100) (tg := 104) rfl rfl rfl (by decide) (by decide) (fun h345 => ?_) (fun h345 => ?_)
            · have _q := h345
              exact absurd h345 (by omega)
            · have _q := h345
              refine jx_ar (pc' := 101) (st' := [.int (i32 (1))]) rfl rfl rfl rfl ?_
              refine jx_go (tg := 105) rfl rfl ?_
              refine jx_ld (pc' := 106) (l' := jSto1 L 2 (.int (i32 (1)))) (st' := []) rfl rfl ?_
              obtain ⟨L346, eL346⟩ : ∃ q, q = jSto1 L 2 (.int (i32 (1))) := ⟨_, rfl⟩
              rw [← eL346]
              have gL346_0 : jGet L346 0 = some (.ref 66) := eL346 ▸ jg_ne (by decide) gL_0 rfl
              have gL346_2 : jGet L346 2 = some (.int (i32 (1))) := eL346 ▸ jg_eq
              have z347 := tz_f (tk1)
              exact c_readProgram_w_at_106_1 (X := X) (d := d) (c0 := c0) (c1 := c1) (G := G) (A := A) (T := T) (ln := ln) (li := li) (fk := fk) (nd := nd) (sy := sy) (na := na) (vi := vi) (lf := lf) (pc := pc) (lk := lk) (ec := ec) (hd := hd) (hW := hW) (e_ln := e_ln) (e_li := e_li) (e_fk := e_fk) (e_nd := e_nd) (e_sy := e_sy) (e_na := e_na) (e_vi := e_vi) (e_lf := e_lf) (e_pc := e_pc) (e_lk := e_lk) (e_ec := e_ec) (i_LT := i_LT) (p_0 := p_0) (p_1 := p_1) (p_2 := p_2) (p_3 := p_3) (p_4 := p_4) (p_5 := p_5) (p_6 := p_6) (p_7 := p_7) (p_8 := p_8) (p_9 := p_9) _ L346 Gx Ax (ln1) (at1) (tk1) (fk1) (op1) (nd1) (sy1) (na1) (vi1) (lf1) (le1) (pc1) (lk) (ec1) rfl gL346_0 gL346_2 hWx hFx ((ex_ln1)) ((ex_at1)) ((ex_tk1)) ((ex_fk1)) ((ex_op1)) ((ex_nd1)) ((ex_sy1)) ((ex_na1)) ((ex_vi1)) ((ex_lf1)) ((ex_le1)) ((ex_pc1)) ((fx_52)) (ex_ec1) (by omega) (by omega) (by omega) (by omega) (by omega) (by omega) (by omega) (by omega) (by omega) (by omega) (by omega) (iv_11) ((TL_tp (TP_mk (VB_eq hvb (by omega)) hSW0 hPW0 hVT0 hwQ0 (by omega) (by omega) (by omega) (by omega) (by omega) (by omega) (by omega) (by omega)) (by omega))) (by omega)
          · have _q : True := trivial
            refine jx_if_eq (pc' := 100) (tg := 104) rfl rfl rfl (by decide) (by decide) (fun h348 => ?_) (fun h348 => ?_)
            · have _q := h348
              refine jx_ar (pc' := 105) (st' := [.int (i32 (0))]) rfl rfl rfl rfl ?_
              refine jx_ld (pc' := 106) (l' := jSto1 L 2 (.int (i32 (0)))) (st' := []) rfl rfl ?_
              obtain ⟨L349, eL349⟩ : ∃ q, q = jSto1 L 2 (.int (i32 (0))) := ⟨_, rfl⟩
              rw [← eL349]
              have gL349_0 : jGet L349 0 = some (.ref 66) := eL349 ▸ jg_ne (by decide) gL_0 rfl
              have gL349_2 : jGet L349 2 = some (.int (i32 (0))) := eL349 ▸ jg_eq
              refine jx_ld (pc' := 107) (l' := L349) (st' := [.ref 66]) rfl (jl_aloadn gL349_0) ?_
              refine jx_vr (pc' := 110) (as := []) (st := []) rfl rfl rfl rfl ⟨rfl, rfl, Nat.le_of_ble_eq_true rfl⟩ rfl rfl (c_bad (dd := d) (hd := by omega) (hW := hWx)  (fk := fk1) (e_fk := show Gx 16 = fk1 from (ex_fk1))    ) (fun o V' hq => ?_)
              obtain ⟨r350, rfl, rfl, b351, q352⟩ := hq
              refine .inr ⟨_, rfl, ?_⟩
              rcases q352 with ⟨rfl, a353⟩ | ⟨rfl, a354⟩
              · have _q : True := trivial
                exfalso
                omega
              · have _q : True := trivial
                refine jx_if_ne (pc' := 113) (tg := 141) rfl rfl rfl (by decide) (by decide) (fun h355 => ?_) (fun h355 => ?_)
                · have _q := h355
                  exact absurd h355 (by omega)
                · have _q := h355
                  refine jx_ld (pc' := 114) (l' := L349) (st' := [.ref 66]) rfl (jl_aloadn gL349_0) ?_
                  refine jx_ar (pc' := 116) (st' := [.int (i32 (21)), .ref 66]) rfl rfl rfl rfl ?_
                  refine jx_vr (pc' := 119) (as := [.int (i32 (21))]) (st := []) rfl rfl rfl rfl ⟨rfl, rfl, Nat.le_of_ble_eq_true rfl⟩ rfl rfl (c_isKey2 (dd := d) (hd := by omega) (hW := hWx) (k := 21) (tk := tk1) (e_tk := show Gx 11 = tk1 from (ex_tk1)) (tn := Gx 13) (e_tn := show Gx 13 = Gx 13 from rfl)  (h_k := ⟨(by decide), (by decide)⟩)  ) (fun o V' hq => ?_)
                  obtain ⟨r356, rfl, rfl, b357, q358⟩ := hq
                  refine .inr ⟨_, rfl, ?_⟩
                  rcases q358 with ⟨rfl, a359, a360, a361⟩ | ⟨rfl, a362⟩
                  · have _q : True := trivial
                    refine jx_if_eq (pc' := 122) (tg := 141) rfl rfl rfl (by decide) (by decide) (fun h363 => ?_) (fun h363 => ?_)
                    · have _q := h363
                      exact absurd h363 (by omega)
                    · have _q := h363
                      exfalso
                      omega
                  · have _q : True := trivial
                    refine jx_if_eq (pc' := 122) (tg := 141) rfl rfl rfl (by decide) (by decide) (fun h364 => ?_) (fun h364 => ?_)
                    · have _q := h364
                      refine jx_ld (pc' := 142) (l' := L349) (st' := [.int (i32 (0))]) rfl (jl_iloadn gL349_2) ?_
                      refine jx_if_eq (pc' := 145) (tg := 184) rfl rfl rfl (by decide) (by decide) (fun h365 => ?_) (fun h365 => ?_)
                      · have _q := h365
                        refine jx_ld (pc' := 185) (l' := L349) (st' := [.ref 66]) rfl (jl_aloadn gL349_0) ?_
                        refine jr_get (pc' := 188) (i := 55) (v := .ref 103) rfl rfl (by decide) rfl rfl ?_
                        refine jx_ar (pc' := 189) (st' := [.int (i32 (0)), .ref 103]) rfl rfl rfl rfl ?_
                        refine jx_ld (pc' := 190) (l' := L349) (st' := [.ref 66, .int (i32 (0)), .ref 103]) rfl (jl_aloadn gL349_0) ?_
                        refine jx_ar (pc' := 191) (st' := [.int (i32 (0)), .ref 66, .int (i32 (0)), .ref 103]) rfl rfl rfl rfl ?_
                        refine jx_vr (pc' := 194) (as := [.int (i32 (0))]) (st := [.int (i32 (0)), .ref 103]) rfl rfl rfl rfl ⟨rfl, rfl, Nat.le_of_ble_eq_true rfl⟩ rfl rfl (RP_all X 18 (dd := d) (hd := by omega) (hW := hWx) (lv := 0) (at0 := (lf1 - 1)) (ln := ln1) (e_ln := show Gx 9 = ln1 from (ex_ln1)) (li := li) (e_li := show Gx 3 = li from ((hFx.1 3 rfl).trans (e_li))) (fk := fk1) (e_fk := show Gx 16 = fk1 from (ex_fk1)) (nd := nd1) (e_nd := show Gx 31 = nd1 from (ex_nd1)) (sy := sy1) (e_sy := show Gx 19 = sy1 from (ex_sy1)) (na := na1) (e_na := show Gx 28 = na1 from (ex_na1)) (vi := vi1) (e_vi := show Gx 29 = vi1 from (ex_vi1)) (lf := lf1) (e_lf := show Ax 3 (ln1).toNat = lf1 from (ex_lf1)) (ac := at1) (e_ac := show Gx 10 = at1 from (ex_at1)) (ec := ec1) (e_ec := show ecn Ax (Gx 31) = ec1 from ex_ec1) (i_LT := (LT_ext ((hFx.1 3 rfl)) ((hFx.2 3 rfl)) ((hFx.2 4 rfl)) i_LT)) (i_SV := (SW_sv hSW0 ((show Gx 29 = vi1 from (ex_vi1)).trans (by omega)))) (i_PQ := hPW0) (hvb := hvb) (h_lv := ⟨(by decide), (by decide)⟩)  (p_0 := by omega) (p_1 := by omega) (p_2 := by omega) (p_3 := by omega) (p_4 := by omega) (p_5 := by omega) (p_6 := by omega) (p_7 := by omega) (p_8 := by omega) (p_9 := by omega) (p_10 := by omega)) (fun o V' hq => ?_)
                        obtain ⟨G366, A367, r368, ln2_369, at2_370, fk2_371, nd2_372, sy2_373, na2_374, vi2_375, lf2_376, ec2_377, rfl, rfl, hW378, hF379, hQ380, hQ381, hQ382, b383, e384, e385, e386, e387, e388, e389, e390, e391, e392, p393, p394, p395, p396, p397, p398, p399, p400, p401, q402⟩ := hq
                        have hF403 := Fr_tr hFx hF379 (Fr_sub (by decide)) (Fr_sub (by decide))
                        have sf404 : PZ A367 := PZ_ext (hF379.2 36 rfl) iv_11
                        have sf405 : SW (Vs) (sb) (vi1) A367 := SW_fx hQ382 (by omega) hSW0
                        have sf406 : PQ (Vs) (sb) (pb) (fun _ => 0) A367 := PQ_fxq hPW0 hQ381 (by omega) (Fx_f (w := pb) Fx_rf hF379 (by decide)) (by omega)
                        have sf407 : VT (Vs) A367 (sb) := VT_fx hQ381 (by omega) hVT0
                        have sf408 : wQ A367 (pc1).toNat (nd1) (sb) := wQ_fx (fun k j hk hj => hQ380 k j hk (by omega)) (Fx_su hQ381 (by omega)) (Fx_su (Fx_f (w := pc1) Fx_rf hF379 (by decide)) (by omega)) hwQ0
                        have bln2_369 : (0 : Int) ≤ ln2_369 ∧ ln2_369 ≤ 3000 := e384 ▸ hW378.1 9
                        have bat2_370 : (0 : Int) ≤ at2_370 ∧ at2_370 ≤ 3002 := e385 ▸ hW378.1 10
                        have bfk2_371 : (0 : Int) ≤ fk2_371 ∧ fk2_371 ≤ 6 := e386 ▸ hW378.1 16
                        have bnd2_372 : (0 : Int) ≤ nd2_372 ∧ nd2_372 ≤ 6999 := e387 ▸ hW378.1 31
                        have bsy2_373 : (0 : Int) ≤ sy2_373 ∧ sy2_373 ≤ 202 := e388 ▸ hW378.1 19
                        have bna2_374 : (0 : Int) ≤ na2_374 ∧ na2_374 ≤ 200 := e389 ▸ hW378.1 28
                        have bvi2_375 : (0 : Int) ≤ vi2_375 ∧ vi2_375 ≤ 202 := e390 ▸ hW378.1 29
                        have blf2_376 : (0 : Int) ≤ lf2_376 ∧ lf2_376 ≤ 3000 := e391 ▸ hW378.2 3 _
                        refine .inr ⟨_, rfl, ?_⟩
                        rcases q402 with ⟨a409, a410⟩ | ⟨a411, a412, a413, a414, a415, a416, a417, a418, a419, a420⟩
                        · have _q : True := trivial
                          refine jr_st (pc' := 195) (i := 36) (m := 6) (z := (0 : Int)) (y := r368) rfl (by decide) rfl (by decide) (by omega) (by omega) rfl ?_
                          have hW422 : Wk G366 (uA A367 36 ((0 : Int)).toNat (r368)) := Wk_a hW378 (show (-2147483648 : Int) ≤ r368 by omega) (show r368 ≤ (2147483647 : Int) by omega)
                          have hF423 := Fr_a (z := r368) (k := 36) (n := ((0 : Int)).toNat) hF403 (by decide)
                          obtain ⟨A421, eA421⟩ : ∃ q, q = uA A367 36 ((0 : Int)).toNat (r368) := ⟨_, rfl⟩
                          rw [← eA421]
                          rw [← eA421] at hW422 hF423
                          have q424 : A421 36 ((0 : Int)).toNat = r368 := by rw [eA421]; exact uA_eq
                          have sf425 : SW (Vs) (sb) (vi1) A421 := SW_ext ((congrFun eA421 14).trans (uA_ne (by decide))) sf405
                          have sf426 : PQ (Vs) (sb) (pb) (fun _ => 0) A421 := PQ_fxq sf406 (Sg_ne (sb := sb) eA421 rfl) (by omega) (show Fx [29, 30, 31] (pb) A367 A421 from eA421 ▸ Fx_n Fx_rf rfl) (by omega)
                          have sf427 : VT (Vs) A421 (sb) := VT_fx (Sg_ne (sb := sb) eA421 rfl) (by omega) sf407
                          have sf428 : wQ A421 (pc1).toNat (nd1) (sb) := wQ_fx (show Pf _ _ _ from eA421 ▸ Pf_n Pf_rf rfl) (Fx_su (Sg_ne (sb := sb) eA421 rfl) (by omega)) (Fx_su (show Fx [29, 30, 31] (pc1) A367 A421 from eA421 ▸ Fx_n Fx_rf rfl) (by omega)) sf408
                          have ec429 : ecn A421 (G366 31) = ec2_377 := (ecn_e ((congrFun eA421 15).trans (uA_ne (by decide)))).trans e392
                          refine jx_ld (pc' := 196) (l' := L349) (st' := [.ref 66]) rfl (jl_aloadn gL349_0) ?_
                          refine jx_vr (pc' := 199) (as := []) (st := []) rfl rfl rfl rfl ⟨rfl, rfl, Nat.le_of_ble_eq_true rfl⟩ rfl rfl (c_bad (dd := d) (hd := by omega) (hW := hW422)  (fk := fk2_371) (e_fk := show G366 16 = fk2_371 from (e386))    ) (fun o V' hq => ?_)
                          obtain ⟨r430, rfl, rfl, b431, q432⟩ := hq
                          refine .inr ⟨_, rfl, ?_⟩
                          rcases q432 with ⟨rfl, a433⟩ | ⟨rfl, a434⟩
                          · have _q : True := trivial
                            refine jx_if_ne (pc' := 202) (tg := 237) rfl rfl rfl (by decide) (by decide) (fun h435 => ?_) (fun h435 => ?_)
                            · have _q := h435
                              refine jx_rt (v := none) rfl rfl rfl rfl rfl rfl ?_
                              exact ⟨_, _, ln2_369, fk2_371, nd2_372, sy2_373, na2_374, vi2_375, pc1, lk, ec2_377, rfl, rfl, hW422, hF423, (e384), (e386), (e387), (e388), (e389), (e390), ((hF379.1 46 rfl).trans (ex_pc1)), ((hF379.1 52 rfl).trans (fx_52)), ec429, by first | exact Or.inl (by omega)⟩
                            · have _q := h435
                              exact absurd h435 (by omega)
                          · have _q : True := trivial
                            exfalso
                            omega
                        · have _q : True := trivial
                          refine jr_st (pc' := 195) (i := 36) (m := 6) (z := (0 : Int)) (y := r368) rfl (by decide) rfl (by decide) (by omega) (by omega) rfl ?_
                          have hW437 : Wk G366 (uA A367 36 ((0 : Int)).toNat (r368)) := Wk_a hW378 (show (-2147483648 : Int) ≤ r368 by omega) (show r368 ≤ (2147483647 : Int) by omega)
                          have hF438 := Fr_a (z := r368) (k := 36) (n := ((0 : Int)).toNat) hF403 (by decide)
                          obtain ⟨A436, eA436⟩ : ∃ q, q = uA A367 36 ((0 : Int)).toNat (r368) := ⟨_, rfl⟩
                          rw [← eA436]
                          rw [← eA436] at hW437 hF438
                          have q439 : A436 36 ((0 : Int)).toNat = r368 := by rw [eA436]; exact uA_eq
                          have sf440 : wB A436 Vs pb (nd1) (nd2_372) (sy1) (sy2_373) := wB_one eA436 sf404 (by omega) (by omega) a417 rfl (by omega) (by omega) (by omega) (by omega)
                          have sf441 : SW (Vs) (sb) (vi1) A436 := SW_ext ((congrFun eA436 14).trans (uA_ne (by decide))) sf405
                          have sf442 : PQ (Vs) (sb) (pb) (fun _ => 0) A436 := PQ_fxq sf406 (Sg_ne (sb := sb) eA436 rfl) (by omega) (show Fx [29, 30, 31] (pb) A367 A436 from eA436 ▸ Fx_n Fx_rf rfl) (by omega)
                          have sf443 : VT (Vs) A436 (sb) := VT_fx (Sg_ne (sb := sb) eA436 rfl) (by omega) sf407
                          have sf444 : wQ A436 (pc1).toNat (nd1) (sb) := wQ_fx (show Pf _ _ _ from eA436 ▸ Pf_n Pf_rf rfl) (Fx_su (Sg_ne (sb := sb) eA436 rfl) (by omega)) (Fx_su (show Fx [29, 30, 31] (pc1) A367 A436 from eA436 ▸ Fx_n Fx_rf rfl) (by omega)) sf408
                          have sf445 : wP A436 (sy2_373) pb (18) (Vs) (r368) (nd1) (nd2_372) (sy1) (sy2_373) := wP_ag (Sg_ne eA436 rfl) (Qg_ne eA436 rfl) (by omega) (by omega) (Ax_ag (Ag_ne eA436 rfl)) a417
                          have sf446 : NX A436 (r368) := NX_r eA436 (by decide) a418
                          have ec447 : ecn A436 (G366 31) = ec2_377 := (ecn_e ((congrFun eA436 15).trans (uA_ne (by decide)))).trans e392
                          refine jx_ld (pc' := 196) (l' := L349) (st' := [.ref 66]) rfl (jl_aloadn gL349_0) ?_
                          refine jx_vr (pc' := 199) (as := []) (st := []) rfl rfl rfl rfl ⟨rfl, rfl, Nat.le_of_ble_eq_true rfl⟩ rfl rfl (c_bad (dd := d) (hd := by omega) (hW := hW437)  (fk := fk2_371) (e_fk := show G366 16 = fk2_371 from (e386))    ) (fun o V' hq => ?_)
                          obtain ⟨r448, rfl, rfl, b449, q450⟩ := hq
                          refine .inr ⟨_, rfl, ?_⟩
                          rcases q450 with ⟨rfl, a451⟩ | ⟨rfl, a452⟩
                          · have _q : True := trivial
                            exfalso
                            omega
                          · have _q : True := trivial
                            refine jx_if_ne (pc' := 202) (tg := 237) rfl rfl rfl (by decide) (by decide) (fun h453 => ?_) (fun h453 => ?_)
                            · have _q := h453
                              exact absurd h453 (by omega)
                            · have _q := h453
                              refine jx_ld (pc' := 203) (l' := L349) (st' := [.ref 66]) rfl (jl_aloadn gL349_0) ?_
                              refine jr_get (pc' := 206) (i := 9) (v := .int (i32 (ln2_369))) rfl rfl (by decide) (rFv_eq (by decide) (show G366 9 = ln2_369 from (e384))) rfl ?_
                              refine jx_ld (pc' := 207) (l' := L349) (st' := [.ref 66, .int (i32 (ln2_369))]) rfl (jl_aloadn gL349_0) ?_
                              refine jr_get (pc' := 210) (i := 3) (v := .int (i32 (li))) rfl rfl (by decide) (rFv_eq (by decide) (show G366 3 = li from ((hF379.1 3 rfl).trans ((hFx.1 3 rfl).trans (e_li))))) rfl ?_
                              refine jx_icmp_ge (pc' := 213) (tg := 237) rfl rfl rfl (Int.le_trans (by decide : (-2147483648 : Int) ≤ 0) bln2_369.1) (Int.le_trans bln2_369.2 (by decide : (3000 : Int) ≤ 2147483647)) (Int.le_trans (by decide : (-2147483648 : Int) ≤ 0) b_li.1) (Int.le_trans b_li.2 (by decide : (3000 : Int) ≤ 2147483647)) (fun h454 => ?_) (fun h454 => ?_)
                              · have _q := h454
                                refine jx_rt (v := none) rfl rfl rfl rfl rfl rfl ?_
                                exact ⟨_, _, ln2_369, fk2_371, nd2_372, sy2_373, na2_374, vi2_375, pc1, lk, ec2_377, rfl, rfl, hW437, hF438, (e384), (e386), (e387), (e388), (e389), (e390), ((hF379.1 46 rfl).trans (ex_pc1)), ((hF379.1 52 rfl).trans (fx_52)), ec447, by first | exact Or.inr ((⟨by omega, (TT_mk (V := Vs) (lo := nd1) (s0 := sb) (t0 := sb) (by omega) (by omega) (by omega) hvb (VL_vt (t0 := sb) sf443) sf444 (wK_nil (s0 := sb)) sf440 (by omega) (by omega) (by omega) (by omega) (by omega) (by omega) (by omega) (by omega) (by omega) (by omega) (by omega)), by omega⟩))⟩
                              · have _q := h454
                                refine jx_ld (pc' := 214) (l' := L349) (st' := [.ref 66]) rfl (jl_aloadn gL349_0) ?_
                                refine jx_ar (pc' := 215) (st' := [.int (i32 (1)), .ref 66]) rfl rfl rfl rfl ?_
                                refine jx_ld (pc' := 216) (l' := L349) (st' := [.ref 66, .int (i32 (1)), .ref 66]) rfl (jl_aloadn gL349_0) ?_
                                refine jr_get (pc' := 219) (i := 6) (v := .ref 70) rfl rfl (by decide) rfl rfl ?_
                                refine jx_ld (pc' := 220) (l' := L349) (st' := [.ref 66, .ref 70, .int (i32 (1)), .ref 66]) rfl (jl_aloadn gL349_0) ?_
                                refine jr_get (pc' := 223) (i := 9) (v := .int (i32 (ln2_369))) rfl rfl (by decide) (rFv_eq (by decide) (show G366 9 = ln2_369 from (e384))) rfl ?_
                                refine jr_ldv (pc' := 224) (i := 3) (m := 3001) (z := ln2_369) (y := lf2_376) rfl (by decide) rfl (by decide) (Int.le_trans (by decide : (0 : Int) ≤ 0) bln2_369.1) (Int.lt_of_le_of_lt bln2_369.2 (by decide : (3000 : Int) < ((3001 : Nat) : Int))) rfl (show A436 3 (ln2_369).toNat = lf2_376 from (congrFun ((congrFun eA436 3).trans (uA_ne (by decide))) _).trans (e391)) ?_
                                refine jx_ld (pc' := 225) (l' := L349) (st' := [.ref 66, .int (i32 (lf2_376)), .int (i32 (1)), .ref 66]) rfl (jl_aloadn gL349_0) ?_
                                refine jr_get (pc' := 228) (i := 5) (v := .ref 69) rfl rfl (by decide) rfl rfl ?_
                                refine jx_ld (pc' := 229) (l' := L349) (st' := [.ref 66, .ref 69, .int (i32 (lf2_376)), .int (i32 (1)), .ref 66]) rfl (jl_aloadn gL349_0) ?_
                                refine jr_get (pc' := 232) (i := 9) (v := .int (i32 (ln2_369))) rfl rfl (by decide) (rFv_eq (by decide) (show G366 9 = ln2_369 from (e384))) rfl ?_
                                have b455 : (0 : Int) ≤ A 2 (ln2_369).toNat ∧ A 2 (ln2_369).toNat ≤ 3000 := hW.2 2 _
                                refine jr_ldv (pc' := 233) (i := 2) (m := 3001) (z := ln2_369) (y := A 2 (ln2_369).toNat) rfl (by decide) rfl (by decide) (Int.le_trans (by decide : (0 : Int) ≤ 0) bln2_369.1) (Int.lt_of_le_of_lt bln2_369.2 (by decide : (3000 : Int) < ((3001 : Nat) : Int))) rfl (show A436 2 (ln2_369).toNat = A 2 (ln2_369).toNat from (congrFun (((congrFun eA436 2).trans (uA_ne (by decide))).trans ((hF379.2 2 rfl).trans (hFx.2 2 rfl))) _)) ?_
                                refine jx_sub (pc' := 234) rfl rfl ?_
                                refine jx_vr (pc' := 237) (as := [.int (i32 (1)), .int (i32 ((lf2_376 - A 2 (ln2_369).toNat)))]) (st := []) rfl rfl rfl rfl ⟨rfl, rfl, Nat.le_of_ble_eq_true rfl⟩ rfl rfl (c_fail (dd := d) (hd := by omega) (hW := hW437) (kind := 1) (place := (lf2_376 - A 2 (ln2_369).toNat)) (fk := fk2_371) (e_fk := show G366 16 = fk2_371 from (e386))  (h_kind := ⟨(by decide), (by decide)⟩) (h_place := ⟨(by omega), (by omega)⟩)  (p_0 := by omega) (p_1 := by omega)) (fun o V' hq => ?_)
                                obtain ⟨G456, A457, fk2_458, rfl, rfl, hW459, hF460, e461, p462, -⟩ := hq
                                have hF464 := Fr_tr hF438 hF460 (Fr_sub (by decide)) (Fr_sub (by decide))
                                have sf465 : wB A457 Vs pb (nd1) (nd2_372) (sy1) (sy2_373) := (show A457 = A436 from funext (fun k => hF460.2 k rfl)) ▸ sf440
                                have sf466 : SW (Vs) (sb) (vi1) A457 := (show A457 = A436 from funext (fun k => hF460.2 k rfl)) ▸ sf441
                                have sf467 : PQ (Vs) (sb) (pb) (fun _ => 0) A457 := (show A457 = A436 from funext (fun k => hF460.2 k rfl)) ▸ sf442
                                have sf468 : VT (Vs) A457 (sb) := (show A457 = A436 from funext (fun k => hF460.2 k rfl)) ▸ sf443
                                have sf469 : wQ A457 (pc1).toNat (nd1) (sb) := (show A457 = A436 from funext (fun k => hF460.2 k rfl)) ▸ sf444
                                have sf470 : wP A457 (sy2_373) pb (18) (Vs) (r368) (nd1) (nd2_372) (sy1) (sy2_373) := wP_ag (Sg_fr hF460 (by decide)) (Qg_fr hF460 (by decide)) (by omega) (by omega) (Ax_ag (Ag_fr hF460 (by decide))) sf445
                                have sf471 : NX A457 (r368) := NX_ag (by omega) (Ag_fr hF460 (by decide)) sf446
                                have ec472 : ecn A457 (G456 31) = ec2_377 := (ecn_f (hF460.2 15 rfl) (hF460.1 31 rfl)).trans ec447
                                have bfk2_458 : (0 : Int) ≤ fk2_458 ∧ fk2_458 ≤ 6 := e461 ▸ hW459.1 16
                                refine .inl ⟨rfl, ?_⟩
                                refine jx_rt (v := none) rfl rfl rfl rfl rfl rfl ?_
                                exact ⟨_, _, ln2_369, fk2_458, nd2_372, sy2_373, na2_374, vi2_375, pc1, lk, ec2_377, rfl, rfl, hW459, hF464, ((hF460.1 9 rfl).trans (e384)), (e461), ((hF460.1 31 rfl).trans (e387)), ((hF460.1 19 rfl).trans (e388)), ((hF460.1 28 rfl).trans (e389)), ((hF460.1 29 rfl).trans (e390)), ((hF460.1 46 rfl).trans ((hF379.1 46 rfl).trans (ex_pc1))), ((hF460.1 52 rfl).trans ((hF379.1 52 rfl).trans (fx_52))), ec472, by first | exact Or.inl (by omega)⟩
                      · have _q := h365
                        exact absurd h365 (by omega)
                    · have _q := h364
                      exact absurd h364 (by omega)
            · have _q := h348
              exact absurd h348 (by omega)
    · have _q := h325
      exact absurd h325 (by omega)
set_option maxRecDepth 20000 in
set_option maxHeartbeats 4000000 in
theorem c_readProgram_w_at_40 {X : jX} {d : Nat} {c0 c1 : jC} {G : Nat → Int} {A : Nat → Nat → Int} {T : jH} {ln li fk nd sy na vi lf pc lk ec : Int} (hd : 8 * 18 + 82 ≤ d + 1) (hW : Wk G A) (e_ln : G 9 = ln) (e_li : G 3 = li) (e_fk : G 16 = fk) (e_nd : G 31 = nd) (e_sy : G 19 = sy) (e_na : G 28 = na) (e_vi : G 29 = vi) (e_lf : A 3 (ln).toNat = lf) (e_pc : G 46 = pc) (e_lk : G 52 = lk) (e_ec : ecn A (G 31) = ec) (i_LT : LT G A) (p_0 : fk = 0) (p_1 : ln = 0) (p_2 : nd = 1) (p_3 : sy = 0) (p_4 : na = 0) (p_5 : vi = 0) (p_6 : pc = 0) (p_7 : lk = 0) (p_8 : PZ A) (p_9 : ec = 0) : ∀ (m : Nat) (L : jL) (Gx : Nat → Int) (Ax : Nat → Nat → Int) (more ln1 fk1 nd1 sy1 na1 vi1 lf1 pc1 ec1 : Int), (li - ln1).toNat = m → jGet L 0 = some (.ref 66) → jGet L 1 = some (.int (i32 more)) → Wk Gx Ax → Fr [9, 10, 11, 12, 13, 14, 15, 16, 17, 18, 19, 28, 29, 31, 46, 52] [6, 7, 8, 9, 10, 11, 12, 14, 15, 16, 17, 18, 19, 20, 21, 22, 23, 24, 28, 29, 30, 31, 34, 35, 36] G A Gx Ax → Gx 9 = ln1 → Gx 16 = fk1 → Gx 31 = nd1 → Gx 19 = sy1 → Gx 28 = na1 → Gx 29 = vi1 → Ax 3 (ln1).toNat = lf1 → Gx 46 = pc1 → ecn Ax (Gx 31) = ec1 → Gx 52 = lk → ((-2147483648 : Int) ≤ more ∧ more ≤ 2147483647) → (fk1 = 0) → (0 ≤ lf1) → (ln1 ≤ li) → (nd1 ≤ 2 * lf1 + 2 ∨ li ≤ ln1) → (sy1 ≤ na1 + 2) → (vi1 ≤ sy1) → (TP Ax (pc1) (nd1) (sy1) (vi1)) → (PZ Ax) → (more = 1) → (nd1 + 5 * ec1 ≤ 2 * lf1 + 2 ∨ li ≤ ln1) → wj X d jm312 (40, L, [], rV c0 c1 Gx Ax T) (fun o V' => ∃ (G' : Nat → Int) (A' : Nat → Nat → Int) (ln2 : Int) (fk2 : Int) (nd2 : Int) (sy2 : Int) (na2 : Int) (vi2 : Int) (pc2 : Int) (lk2 : Int) (ec2 : Int), V' = rV c0 c1 G' A' T ∧ o = .inl none ∧ Wk G' A' ∧ Fr [9, 10, 11, 12, 13, 14, 15, 16, 17, 18, 19, 28, 29, 31, 46, 52] [6, 7, 8, 9, 10, 11, 12, 14, 15, 16, 17, 18, 19, 20, 21, 22, 23, 24, 28, 29, 30, 31, 34, 35, 36] G A G' A' ∧ G' 9 = ln2 ∧ G' 16 = fk2 ∧ G' 31 = nd2 ∧ G' 19 = sy2 ∧ G' 28 = na2 ∧ G' 29 = vi2 ∧ G' 46 = pc2 ∧ G' 52 = lk2 ∧ ecn A' (G' 31) = ec2 ∧ (((1 ≤ fk2)) ∨ ((fk2 = 0) ∧ (TT A' (pc2) (nd2) (sy2) (lk2)) ∧ (nd2 + 5 * ec2 ≤ 6050)))) := by
  have hF0 : Fr [9, 10, 11, 12, 13, 14, 15, 16, 17, 18, 19, 28, 29, 31, 46, 52] [6, 7, 8, 9, 10, 11, 12, 14, 15, 16, 17, 18, 19, 20, 21, 22, 23, 24, 28, 29, 30, 31, 34, 35, 36] G A G A := Fr_rf
  have b_ln : (0 : Int) ≤ ln ∧ ln ≤ 3000 := e_ln ▸ hW.1 9
  have b_li : (0 : Int) ≤ li ∧ li ≤ 3000 := e_li ▸ hW.1 3
  have b_fk : (0 : Int) ≤ fk ∧ fk ≤ 6 := e_fk ▸ hW.1 16
  have b_nd : (0 : Int) ≤ nd ∧ nd ≤ 6999 := e_nd ▸ hW.1 31
  have b_sy : (0 : Int) ≤ sy ∧ sy ≤ 202 := e_sy ▸ hW.1 19
  have b_na : (0 : Int) ≤ na ∧ na ≤ 200 := e_na ▸ hW.1 28
  have b_vi : (0 : Int) ≤ vi ∧ vi ≤ 202 := e_vi ▸ hW.1 29
  have b_lf : (0 : Int) ≤ lf ∧ lf ≤ 3000 := e_lf ▸ hW.2 3 _
  have b_pc : (0 : Int) ≤ pc ∧ pc ≤ 24 := e_pc ▸ hW.1 46
  have b_lk : (0 : Int) ≤ lk ∧ lk ≤ 12 := e_lk ▸ hW.1 52
  intro m
  induction m using Nat.strongRecOn with
  | ind m ih40 =>
    intro L Gx Ax more ln1 fk1 nd1 sy1 na1 vi1 lf1 pc1 ec1 hm gL_0 gL_1 hWx hFx ex_ln1 ex_fk1 ex_nd1 ex_sy1 ex_na1 ex_vi1 ex_lf1 ex_pc1 ex_ec1 fx_52 rx_more iv_0 iv_1 iv_2 iv_3 iv_4 iv_5 iv_6 iv_7 iv_8 iv_9
    have b_ln1 : (0 : Int) ≤ ln1 ∧ ln1 ≤ 3000 := ex_ln1 ▸ hWx.1 9
    have b_fk1 : (0 : Int) ≤ fk1 ∧ fk1 ≤ 6 := ex_fk1 ▸ hWx.1 16
    have b_nd1 : (0 : Int) ≤ nd1 ∧ nd1 ≤ 6999 := ex_nd1 ▸ hWx.1 31
    have b_sy1 : (0 : Int) ≤ sy1 ∧ sy1 ≤ 202 := ex_sy1 ▸ hWx.1 19
    have b_na1 : (0 : Int) ≤ na1 ∧ na1 ≤ 200 := ex_na1 ▸ hWx.1 28
    have b_vi1 : (0 : Int) ≤ vi1 ∧ vi1 ≤ 202 := ex_vi1 ▸ hWx.1 29
    have b_pc1 : (0 : Int) ≤ pc1 ∧ pc1 ≤ 24 := ex_pc1 ▸ hWx.1 46
    obtain ⟨Vs, hvb, hSW0, hPW0, hVT0, hwQ0⟩ := iv_6; obtain ⟨sb, hsb⟩ : ∃ z : Int, z = sy1 := ⟨_, rfl⟩; obtain ⟨pb, hpb⟩ : ∃ z : Int, z = pc1 := ⟨_, rfl⟩; rw [← hsb] at hvb hSW0 hPW0 hVT0 hwQ0; rw [← hpb] at hPW0; have hle0 := wQ_le hwQ0
    refine jx_ld (pc' := 41) (l' := L) (st' := [.int (i32 (more))]) rfl (jl_iloadn gL_1) ?_
    refine jx_if_eq (pc' := 44) (tg := 74) rfl rfl rfl (Int.le_trans (by decide : (-2147483648 : Int) ≤ -2147483648) rx_more.1) (Int.le_trans rx_more.2 (by decide : (2147483647 : Int) ≤ 2147483647)) (fun h473 => ?_) (fun h473 => ?_)
    · have _q := h473
      have z474 := tz_f (Gx 11)
      exact c_readProgram_w_at_74 (X := X) (d := d) (c0 := c0) (c1 := c1) (G := G) (A := A) (T := T) (ln := ln) (li := li) (fk := fk) (nd := nd) (sy := sy) (na := na) (vi := vi) (lf := lf) (pc := pc) (lk := lk) (ec := ec) (hd := hd) (hW := hW) (e_ln := e_ln) (e_li := e_li) (e_fk := e_fk) (e_nd := e_nd) (e_sy := e_sy) (e_na := e_na) (e_vi := e_vi) (e_lf := e_lf) (e_pc := e_pc) (e_lk := e_lk) (e_ec := e_ec) (i_LT := i_LT) (p_0 := p_0) (p_1 := p_1) (p_2 := p_2) (p_3 := p_3) (p_4 := p_4) (p_5 := p_5) (p_6 := p_6) (p_7 := p_7) (p_8 := p_8) (p_9 := p_9) L Gx Ax (ln1) (Gx 10) (Gx 11) (fk1) (Gx 15) (nd1) (sy1) (na1) (vi1) (lf1) (A 4 (ln1).toNat) (pc1) (ec1) gL_0 hWx hFx ((ex_ln1)) (rfl) (rfl) ((ex_fk1)) (rfl) ((ex_nd1)) ((ex_sy1)) ((ex_na1)) ((ex_vi1)) ((ex_lf1)) ((congrFun (hFx.2 4 rfl) _)) ((ex_pc1)) (ex_ec1) ((fx_52)) (by omega) (by omega) (by omega) (by omega) (by omega) (by omega) (by omega) (by omega) (by omega) (by omega) (by omega) (iv_7) ((TP_mk (VB_eq hvb (by omega)) hSW0 hPW0 hVT0 hwQ0 (by omega) (by omega) (by omega) (by omega) (by omega) (by omega) (by omega) (by omega))) (by omega)
    · have _q := h473
      refine jx_ld (pc' := 45) (l' := L) (st' := [.ref 66]) rfl (jl_aloadn gL_0) ?_
      refine jx_ar (pc' := 46) (st' := [.int (i32 (0)), .ref 66]) rfl rfl rfl rfl ?_
      have b475 : (-1 : Int) ≤ A 5 (ln1).toNat ∧ A 5 (ln1).toNat ≤ 15 := hW.2 5 _
      refine jx_vr (pc' := 49) (as := [.int (i32 (0))]) (st := []) rfl rfl rfl rfl ⟨rfl, rfl, Nat.le_of_ble_eq_true rfl⟩ rfl rfl (c_needLevel (dd := d) (hd := by omega) (hW := hWx) (lv := 0) (ln := ln1) (e_ln := show Gx 9 = ln1 from (ex_ln1)) (li := li) (e_li := show Gx 3 = li from ((hFx.1 3 rfl).trans (e_li))) (fk := fk1) (e_fk := show Gx 16 = fk1 from (ex_fk1)) (ll := A 5 (ln1).toNat) (e_ll := show Ax 5 (ln1).toNat = A 5 (ln1).toNat from (congrFun (hFx.2 5 rfl) _))  (h_lv := ⟨(by decide), (by decide)⟩)  ) (fun o V' hq => ?_)
      obtain ⟨G476, A477, r478, fk2_479, rfl, rfl, hW480, hF481, b482, e483, q484⟩ := hq
      have hF485 := Fr_tr hFx hF481 (Fr_sub (by decide)) (Fr_sub (by decide))
      have sf486 : PZ A477 := (show A477 = Ax from funext (fun k => hF481.2 k rfl)) ▸ iv_7
      have sf487 : SW (Vs) (sb) (vi1) A477 := (show A477 = Ax from funext (fun k => hF481.2 k rfl)) ▸ hSW0
      have sf488 : PQ (Vs) (sb) (pb) (fun _ => 0) A477 := (show A477 = Ax from funext (fun k => hF481.2 k rfl)) ▸ hPW0
      have sf489 : VT (Vs) A477 (sb) := (show A477 = Ax from funext (fun k => hF481.2 k rfl)) ▸ hVT0
      have sf490 : wQ A477 (pc1).toNat (nd1) (sb) := (show A477 = Ax from funext (fun k => hF481.2 k rfl)) ▸ hwQ0
      have ec491 : ecn A477 (G476 31) = ec1 := (ecn_f (hF481.2 15 rfl) (hF481.1 31 rfl)).trans ex_ec1
      have bfk2_479 : (0 : Int) ≤ fk2_479 ∧ fk2_479 ≤ 6 := e483 ▸ hW480.1 16
      refine .inr ⟨_, rfl, ?_⟩
      rcases q484 with ⟨rfl, a492, a493, a494, a495⟩ | ⟨rfl, a496⟩
      · have _q : True := trivial
        have b497 : (0 : Int) ≤ A 4 (ln1).toNat ∧ A 4 (ln1).toNat ≤ 3000 := hW.2 4 _
        have lt498 : lf1 < A 4 (ln1).toNat := LT_at (LT_ext (((hF481.1 3 rfl).trans (hFx.1 3 rfl))) (((hF481.2 3 rfl).trans (hFx.2 3 rfl))) (((hF481.2 4 rfl).trans (hFx.2 4 rfl))) i_LT) (show G476 3 = li from ((hF481.1 3 rfl).trans ((hFx.1 3 rfl).trans (e_li)))) (show A477 3 (ln1).toNat = lf1 from (congrFun (hF481.2 3 rfl) _).trans (ex_lf1)) (show A477 4 (ln1).toNat = A 4 (ln1).toNat from (congrFun ((hF481.2 4 rfl).trans (hFx.2 4 rfl)) _)) (by omega) (by omega)
        refine jx_if_eq (pc' := 52) (tg := 74) rfl rfl rfl (by decide) (by decide) (fun h499 => ?_) (fun h499 => ?_)
        · have _q := h499
          exact absurd h499 (by omega)
        · have _q := h499
          refine jx_ld (pc' := 53) (l' := L) (st' := [.ref 66]) rfl (jl_aloadn gL_0) ?_
          refine jx_vr (pc' := 56) (as := []) (st := []) rfl rfl rfl rfl ⟨rfl, rfl, Nat.le_of_ble_eq_true rfl⟩ rfl rfl (c_openLine (dd := d) (hd := by omega) (hW := hW480)  (ln := ln1) (e_ln := show G476 9 = ln1 from ((hF481.1 9 rfl).trans (ex_ln1))) (le := A 4 (ln1).toNat) (e_le := show A477 4 (ln1).toNat = A 4 (ln1).toNat from (congrFun ((hF481.2 4 rfl).trans (hFx.2 4 rfl)) _)) (lf := lf1) (e_lf := show A477 3 (ln1).toNat = lf1 from (congrFun (hF481.2 3 rfl) _).trans (ex_lf1))    (p_0 := by omega)) (fun o V' hq => ?_)
          obtain ⟨G500, A501, at2_502, tk2_503, op2_504, rfl, rfl, hW505, hF506, e507, e508, e509, p510, p511, p512, p513, -⟩ := hq
          have hF515 := Fr_tr hF485 hF506 (Fr_sub (by decide)) (Fr_sub (by decide))
          have sf516 : PZ A501 := (show A501 = A477 from funext (fun k => hF506.2 k rfl)) ▸ sf486
          have sf517 : SW (Vs) (sb) (vi1) A501 := (show A501 = A477 from funext (fun k => hF506.2 k rfl)) ▸ sf487
          have sf518 : PQ (Vs) (sb) (pb) (fun _ => 0) A501 := (show A501 = A477 from funext (fun k => hF506.2 k rfl)) ▸ sf488
          have sf519 : VT (Vs) A501 (sb) := (show A501 = A477 from funext (fun k => hF506.2 k rfl)) ▸ sf489
          have sf520 : wQ A501 (pc1).toNat (nd1) (sb) := (show A501 = A477 from funext (fun k => hF506.2 k rfl)) ▸ sf490
          have ec521 : ecn A501 (G500 31) = ec1 := (ecn_f (hF506.2 15 rfl) (hF506.1 31 rfl)).trans ec491
          have bat2_502 : (0 : Int) ≤ at2_502 ∧ at2_502 ≤ 3002 := e507 ▸ hW505.1 10
          have ztk2_503 := tz_b tk2_503
          have btk2_503 : (0 : Int) ≤ tk2_503 ∧ tk2_503 ≤ 5 := e508 ▸ hW505.1 11
          have bop2_504 : (-2147483648 : Int) ≤ op2_504 ∧ op2_504 ≤ 2147483647 := e509 ▸ hW505.1 15
          refine .inl ⟨rfl, ?_⟩
          refine jx_ld (pc' := 57) (l' := L) (st' := [.ref 66]) rfl (jl_aloadn gL_0) ?_
          refine jx_ar (pc' := 59) (st' := [.int (i32 (12)), .ref 66]) rfl rfl rfl rfl ?_
          have b522 : (-2147483648 : Int) ≤ G500 13 ∧ G500 13 ≤ 2147483647 := hW505.1 13
          refine jx_vr (pc' := 62) (as := [.int (i32 (12))]) (st := []) rfl rfl rfl rfl ⟨rfl, rfl, Nat.le_of_ble_eq_true rfl⟩ rfl rfl (c_isKey (dd := d) (hd := by omega) (hW := hW505) (k := 12) (tk := tk2_503) (e_tk := show G500 11 = tk2_503 from (e508)) (tn := G500 13) (e_tn := show G500 13 = G500 13 from rfl)  (h_k := ⟨(by decide), (by decide)⟩)  ) (fun o V' hq => ?_)
          obtain ⟨r523, rfl, rfl, b524, q525⟩ := hq
          refine .inr ⟨_, rfl, ?_⟩
          rcases q525 with ⟨rfl, a526, a527, a528⟩ | rfl
          · have _q : True := trivial
            refine jx_ld (pc' := 63) (l' := jSto1 L 1 (.int (i32 (1)))) (st' := []) rfl rfl ?_
            obtain ⟨L529, eL529⟩ : ∃ q, q = jSto1 L 1 (.int (i32 (1))) := ⟨_, rfl⟩
            rw [← eL529]
            have gL529_0 : jGet L529 0 = some (.ref 66) := eL529 ▸ jg_ne (by decide) gL_0 rfl
            have gL529_1 : jGet L529 1 = some (.int (i32 (1))) := eL529 ▸ jg_eq
            refine jx_ld (pc' := 64) (l' := L529) (st' := [.int (i32 (1))]) rfl (jl_iloadn gL529_1) ?_
            refine jx_if_eq (pc' := 67) (tg := 40) rfl rfl rfl (by decide) (by decide) (fun h530 => ?_) (fun h530 => ?_)
            · have _q := h530
              exact absurd h530 (by omega)
            · have _q := h530
              refine jx_ld (pc' := 68) (l' := L529) (st' := [.ref 66]) rfl (jl_aloadn gL529_0) ?_
              refine jx_vr (pc' := 71) (as := []) (st := []) rfl rfl rfl rfl ⟨rfl, rfl, Nat.le_of_ble_eq_true rfl⟩ rfl rfl (c_readProc_w (dd := d) (hd := by omega) (hW := hW505)  (ln := ln1) (e_ln := show G500 9 = ln1 from ((hF506.1 9 rfl).trans ((hF481.1 9 rfl).trans (ex_ln1)))) (li := li) (e_li := show G500 3 = li from ((hF506.1 3 rfl).trans ((hF481.1 3 rfl).trans ((hFx.1 3 rfl).trans (e_li))))) (at0 := at2_502) (e_at0 := show G500 10 = at2_502 from (e507)) (fk := fk2_479) (e_fk := show G500 16 = fk2_479 from ((hF506.1 16 rfl).trans (e483))) (nd := nd1) (e_nd := show G500 31 = nd1 from ((hF506.1 31 rfl).trans ((hF481.1 31 rfl).trans (ex_nd1)))) (sy := sy1) (e_sy := show G500 19 = sy1 from ((hF506.1 19 rfl).trans ((hF481.1 19 rfl).trans (ex_sy1)))) (na := na1) (e_na := show G500 28 = na1 from ((hF506.1 28 rfl).trans ((hF481.1 28 rfl).trans (ex_na1)))) (vi := vi1) (e_vi := show G500 29 = vi1 from ((hF506.1 29 rfl).trans ((hF481.1 29 rfl).trans (ex_vi1)))) (le := A 4 (ln1).toNat) (e_le := show A501 4 (ln1).toNat = A 4 (ln1).toNat from (congrFun ((hF506.2 4 rfl).trans ((hF481.2 4 rfl).trans (hFx.2 4 rfl))) _)) (op0 := op2_504) (e_op0 := show G500 15 = op2_504 from (e509)) (tk0 := tk2_503) (e_tk0 := show G500 11 = tk2_503 from (e508)) (pc0 := pc1) (e_pc0 := show G500 46 = pc1 from ((hF506.1 46 rfl).trans ((hF481.1 46 rfl).trans (ex_pc1)))) (ec := ec1) (e_ec := show ecn A501 (G500 31) = ec1 from ec521) (i_LT := (LT_ext (((hF506.1 3 rfl).trans ((hF481.1 3 rfl).trans (hFx.1 3 rfl)))) (((hF506.2 3 rfl).trans ((hF481.2 3 rfl).trans (hFx.2 3 rfl)))) (((hF506.2 4 rfl).trans ((hF481.2 4 rfl).trans (hFx.2 4 rfl)))) i_LT)) (i_SV := (SW_sv sf517 ((show G500 29 = vi1 from ((hF506.1 29 rfl).trans ((hF481.1 29 rfl).trans (ex_vi1)))).trans (by omega)))) (i_PQ := sf518) (hvb := hvb)   (p_0 := by omega) (p_1 := by omega) (p_2 := by omega) (p_3 := by omega) (p_4 := by omega) (p_5 := by omega) (p_6 := by omega) (p_7 := by omega) (p_8 := (wQ_eq sf520 (by omega) (by omega) (by omega))) (p_9 := (VT_eq sf519 (by omega)))) (fun o V' hq => ?_)
              obtain ⟨G531, A532, ln2_533, at2_534, fk2_535, nd2_536, sy2_537, na2_538, vi2_539, lf2_540, pc2_541, ec2_542, rfl, rfl, hW543, hF544, hQ545, hQ546, hQ547, hQ548, e549, e550, e551, e552, e553, e554, e555, e556, e557, e558, p559, p560, p561, p562, q563⟩ := hq
              have hF564 := Fr_tr hF515 hF544 (Fr_sub (by decide)) (Fr_sub (by decide))
              have sf565 : PZ A532 := PZ_ext (hF544.2 36 rfl) sf516
              have sf566 : SW (Vs) (sb) (vi1) A532 := SW_fx hQ547 (by omega) sf517
              have sf567 : PQ (Vs) (sb) (pb) (fun _ => 0) A532 := PQ_fxq sf518 hQ546 (by omega) hQ548 (by omega)
              have sf568 : VT (Vs) A532 (sb) := VT_fx hQ546 (by omega) sf519
              have sf569 : wQ A532 (pc1).toNat (nd1) (sb) := wQ_fx (fun k j hk hj => hQ545 k j hk (by omega)) (Fx_su hQ546 (by omega)) (Fx_su hQ548 (by omega)) sf520
              have bln2_533 : (0 : Int) ≤ ln2_533 ∧ ln2_533 ≤ 3000 := e549 ▸ hW543.1 9
              have bat2_534 : (0 : Int) ≤ at2_534 ∧ at2_534 ≤ 3002 := e550 ▸ hW543.1 10
              have bfk2_535 : (0 : Int) ≤ fk2_535 ∧ fk2_535 ≤ 6 := e551 ▸ hW543.1 16
              have bnd2_536 : (0 : Int) ≤ nd2_536 ∧ nd2_536 ≤ 6999 := e552 ▸ hW543.1 31
              have bsy2_537 : (0 : Int) ≤ sy2_537 ∧ sy2_537 ≤ 202 := e553 ▸ hW543.1 19
              have bna2_538 : (0 : Int) ≤ na2_538 ∧ na2_538 ≤ 200 := e554 ▸ hW543.1 28
              have bvi2_539 : (0 : Int) ≤ vi2_539 ∧ vi2_539 ≤ 202 := e555 ▸ hW543.1 29
              have blf2_540 : (0 : Int) ≤ lf2_540 ∧ lf2_540 ≤ 3000 := e556 ▸ hW543.2 3 _
              have bpc2_541 : (0 : Int) ≤ pc2_541 ∧ pc2_541 ≤ 24 := e557 ▸ hW543.1 46
              refine .inl ⟨rfl, ?_⟩
              rcases q563 with a570 | ⟨a571, a572, a573, a574, a575, a576, a577, a578, a579, a580, a581, a582, a583⟩
              · have _q : True := trivial
                refine jx_go (tg := 40) rfl rfl ?_
                refine jx_ld (pc' := 41) (l' := L529) (st' := [.int (i32 (1))]) rfl (jl_iloadn gL529_1) ?_
                refine jx_if_eq (pc' := 44) (tg := 74) rfl rfl rfl (by decide) (by decide) (fun h584 => ?_) (fun h584 => ?_)
                · have _q := h584
                  exact absurd h584 (by omega)
                · have _q := h584
                  refine jx_ld (pc' := 45) (l' := L529) (st' := [.ref 66]) rfl (jl_aloadn gL529_0) ?_
                  refine jx_ar (pc' := 46) (st' := [.int (i32 (0)), .ref 66]) rfl rfl rfl rfl ?_
                  have b585 : (-1 : Int) ≤ A 5 (ln2_533).toNat ∧ A 5 (ln2_533).toNat ≤ 15 := hW.2 5 _
                  refine jx_vr (pc' := 49) (as := [.int (i32 (0))]) (st := []) rfl rfl rfl rfl ⟨rfl, rfl, Nat.le_of_ble_eq_true rfl⟩ rfl rfl (c_needLevel (dd := d) (hd := by omega) (hW := hW543) (lv := 0) (ln := ln2_533) (e_ln := show G531 9 = ln2_533 from (e549)) (li := li) (e_li := show G531 3 = li from ((hF544.1 3 rfl).trans ((hF506.1 3 rfl).trans ((hF481.1 3 rfl).trans ((hFx.1 3 rfl).trans (e_li)))))) (fk := fk2_535) (e_fk := show G531 16 = fk2_535 from (e551)) (ll := A 5 (ln2_533).toNat) (e_ll := show A532 5 (ln2_533).toNat = A 5 (ln2_533).toNat from (congrFun ((hF544.2 5 rfl).trans ((hF506.2 5 rfl).trans ((hF481.2 5 rfl).trans (hFx.2 5 rfl)))) _))  (h_lv := ⟨(by decide), (by decide)⟩)  ) (fun o V' hq => ?_)
                  obtain ⟨G586, A587, r588, fk2_589, rfl, rfl, hW590, hF591, b592, e593, q594⟩ := hq
                  have hF595 := Fr_tr hF564 hF591 (Fr_sub (by decide)) (Fr_sub (by decide))
                  have sf596 : PZ A587 := (show A587 = A532 from funext (fun k => hF591.2 k rfl)) ▸ sf565
                  have sf597 : SW (Vs) (sb) (vi1) A587 := (show A587 = A532 from funext (fun k => hF591.2 k rfl)) ▸ sf566
                  have sf598 : PQ (Vs) (sb) (pb) (fun _ => 0) A587 := (show A587 = A532 from funext (fun k => hF591.2 k rfl)) ▸ sf567
                  have sf599 : VT (Vs) A587 (sb) := (show A587 = A532 from funext (fun k => hF591.2 k rfl)) ▸ sf568
                  have sf600 : wQ A587 (pc1).toNat (nd1) (sb) := (show A587 = A532 from funext (fun k => hF591.2 k rfl)) ▸ sf569
                  have ec601 : ecn A587 (G586 31) = ec2_542 := (ecn_f (hF591.2 15 rfl) (hF591.1 31 rfl)).trans e558
                  have bfk2_589 : (0 : Int) ≤ fk2_589 ∧ fk2_589 ≤ 6 := e593 ▸ hW590.1 16
                  refine .inr ⟨_, rfl, ?_⟩
                  rcases q594 with ⟨rfl, a602, a603, a604, a605⟩ | ⟨rfl, a606⟩
                  · have _q : True := trivial
                    exfalso
                    omega
                  · have _q : True := trivial
                    refine jx_if_eq (pc' := 52) (tg := 74) rfl rfl rfl (by decide) (by decide) (fun h607 => ?_) (fun h607 => ?_)
                    · have _q := h607
                      refine jx_ld (pc' := 75) (l' := L529) (st' := [.ref 66]) rfl (jl_aloadn gL529_0) ?_
                      refine jx_vr (pc' := 78) (as := []) (st := []) rfl rfl rfl rfl ⟨rfl, rfl, Nat.le_of_ble_eq_true rfl⟩ rfl rfl (c_bad (dd := d) (hd := by omega) (hW := hW590)  (fk := fk2_589) (e_fk := show G586 16 = fk2_589 from (e593))    ) (fun o V' hq => ?_)
                      obtain ⟨r608, rfl, rfl, b609, q610⟩ := hq
                      refine .inr ⟨_, rfl, ?_⟩
                      rcases q610 with ⟨rfl, a611⟩ | ⟨rfl, a612⟩
                      · have _q : True := trivial
                        refine jx_if_eq (pc' := 81) (tg := 82) rfl rfl rfl (by decide) (by decide) (fun h613 => ?_) (fun h613 => ?_)
                        · have _q := h613
                          exact absurd h613 (by omega)
                        · have _q := h613
                          refine jx_rt (v := none) rfl rfl rfl rfl rfl rfl ?_
                          exact ⟨_, _, ln2_533, fk2_589, nd2_536, sy2_537, na2_538, vi2_539, pc2_541, lk, ec2_542, rfl, rfl, hW590, hF595, ((hF591.1 9 rfl).trans (e549)), (e593), ((hF591.1 31 rfl).trans (e552)), ((hF591.1 19 rfl).trans (e553)), ((hF591.1 28 rfl).trans (e554)), ((hF591.1 29 rfl).trans (e555)), ((hF591.1 46 rfl).trans (e557)), ((hF591.1 52 rfl).trans ((hF544.1 52 rfl).trans ((hF506.1 52 rfl).trans ((hF481.1 52 rfl).trans (fx_52))))), ec601, by first | exact Or.inl (by omega)⟩
                      · have _q : True := trivial
                        exfalso
                        omega
                    · have _q := h607
                      exact absurd h607 (by omega)
              · have _q : True := trivial
                refine jx_go (tg := 40) rfl rfl ?_
                exact ih40 _ (by omega) L529 G531 A532 (1) (ln2_533) (fk2_535) (nd2_536) (sy2_537) (na2_538) (vi2_539) (lf2_540) (pc2_541) (ec2_542) rfl gL529_0 gL529_1 hW543 hF564 ((e549)) ((e551)) ((e552)) ((e553)) ((e554)) ((e555)) ((e556)) ((e557)) (e558) (((hF544.1 52 rfl).trans ((hF506.1 52 rfl).trans ((hF481.1 52 rfl).trans (fx_52))))) (by omega) (by omega) (by omega) (by omega) (by omega) (by omega) (by omega) ((TP_mk (VB_u hvb (by omega) (by omega)) a580 a581 a582 a579 (by omega) (by omega) (by omega) (by omega) (by omega) (by omega) (by omega) (by omega))) (sf565) (by omega) (by omega)
          · have _q : True := trivial
            refine jx_ld (pc' := 63) (l' := jSto1 L 1 (.int (i32 (0)))) (st' := []) rfl rfl ?_
            obtain ⟨L614, eL614⟩ : ∃ q, q = jSto1 L 1 (.int (i32 (0))) := ⟨_, rfl⟩
            rw [← eL614]
            have gL614_0 : jGet L614 0 = some (.ref 66) := eL614 ▸ jg_ne (by decide) gL_0 rfl
            have gL614_1 : jGet L614 1 = some (.int (i32 (0))) := eL614 ▸ jg_eq
            refine jx_ld (pc' := 64) (l' := L614) (st' := [.int (i32 (0))]) rfl (jl_iloadn gL614_1) ?_
            refine jx_if_eq (pc' := 67) (tg := 40) rfl rfl rfl (by decide) (by decide) (fun h615 => ?_) (fun h615 => ?_)
            · have _q := h615
              refine jx_ld (pc' := 41) (l' := L614) (st' := [.int (i32 (0))]) rfl (jl_iloadn gL614_1) ?_
              refine jx_if_eq (pc' := 44) (tg := 74) rfl rfl rfl (by decide) (by decide) (fun h616 => ?_) (fun h616 => ?_)
              · have _q := h616
                have z617 := tz_f (tk2_503)
                exact c_readProgram_w_at_74 (X := X) (d := d) (c0 := c0) (c1 := c1) (G := G) (A := A) (T := T) (ln := ln) (li := li) (fk := fk) (nd := nd) (sy := sy) (na := na) (vi := vi) (lf := lf) (pc := pc) (lk := lk) (ec := ec) (hd := hd) (hW := hW) (e_ln := e_ln) (e_li := e_li) (e_fk := e_fk) (e_nd := e_nd) (e_sy := e_sy) (e_na := e_na) (e_vi := e_vi) (e_lf := e_lf) (e_pc := e_pc) (e_lk := e_lk) (e_ec := e_ec) (i_LT := i_LT) (p_0 := p_0) (p_1 := p_1) (p_2 := p_2) (p_3 := p_3) (p_4 := p_4) (p_5 := p_5) (p_6 := p_6) (p_7 := p_7) (p_8 := p_8) (p_9 := p_9) L614 G500 A501 (ln1) (at2_502) (tk2_503) (fk2_479) (op2_504) (nd1) (sy1) (na1) (vi1) (lf1) (A 4 (ln1).toNat) (pc1) (ec1) gL614_0 hW505 hF515 (((hF506.1 9 rfl).trans ((hF481.1 9 rfl).trans (ex_ln1)))) ((e507)) ((e508)) (((hF506.1 16 rfl).trans (e483))) ((e509)) (((hF506.1 31 rfl).trans ((hF481.1 31 rfl).trans (ex_nd1)))) (((hF506.1 19 rfl).trans ((hF481.1 19 rfl).trans (ex_sy1)))) (((hF506.1 28 rfl).trans ((hF481.1 28 rfl).trans (ex_na1)))) (((hF506.1 29 rfl).trans ((hF481.1 29 rfl).trans (ex_vi1)))) ((congrFun ((hF506.2 3 rfl).trans (hF481.2 3 rfl)) _).trans (ex_lf1)) ((congrFun ((hF506.2 4 rfl).trans ((hF481.2 4 rfl).trans (hFx.2 4 rfl))) _)) (((hF506.1 46 rfl).trans ((hF481.1 46 rfl).trans (ex_pc1)))) (ec521) (((hF506.1 52 rfl).trans ((hF481.1 52 rfl).trans (fx_52)))) (by omega) (by omega) (by omega) (by omega) (by omega) (by omega) (by omega) (by omega) (by omega) (by omega) (by omega) (sf516) ((TP_mk (VB_eq hvb (by omega)) sf517 sf518 sf519 sf520 (by omega) (by omega) (by omega) (by omega) (by omega) (by omega) (by omega) (by omega))) (by omega)
              · have _q := h616
                exact absurd h616 (by omega)
            · have _q := h615
              exact absurd h615 (by omega)
      · have _q : True := trivial
        refine jx_if_eq (pc' := 52) (tg := 74) rfl rfl rfl (by decide) (by decide) (fun h618 => ?_) (fun h618 => ?_)
        · have _q := h618
          refine jx_ld (pc' := 75) (l' := L) (st' := [.ref 66]) rfl (jl_aloadn gL_0) ?_
          refine jx_vr (pc' := 78) (as := []) (st := []) rfl rfl rfl rfl ⟨rfl, rfl, Nat.le_of_ble_eq_true rfl⟩ rfl rfl (c_bad (dd := d) (hd := by omega) (hW := hW480)  (fk := fk2_479) (e_fk := show G476 16 = fk2_479 from (e483))    ) (fun o V' hq => ?_)
          obtain ⟨r619, rfl, rfl, b620, q621⟩ := hq
          refine .inr ⟨_, rfl, ?_⟩
          rcases q621 with ⟨rfl, a622⟩ | ⟨rfl, a623⟩
          · have _q : True := trivial
            refine jx_if_eq (pc' := 81) (tg := 82) rfl rfl rfl (by decide) (by decide) (fun h624 => ?_) (fun h624 => ?_)
            · have _q := h624
              exact absurd h624 (by omega)
            · have _q := h624
              refine jx_rt (v := none) rfl rfl rfl rfl rfl rfl ?_
              exact ⟨_, _, ln1, fk2_479, nd1, sy1, na1, vi1, pc1, lk, ec1, rfl, rfl, hW480, hF485, ((hF481.1 9 rfl).trans (ex_ln1)), (e483), ((hF481.1 31 rfl).trans (ex_nd1)), ((hF481.1 19 rfl).trans (ex_sy1)), ((hF481.1 28 rfl).trans (ex_na1)), ((hF481.1 29 rfl).trans (ex_vi1)), ((hF481.1 46 rfl).trans (ex_pc1)), ((hF481.1 52 rfl).trans (fx_52)), ec491, by first | exact Or.inl (by omega)⟩
          · have _q : True := trivial
            exfalso
            omega
        · have _q := h618
          exact absurd h618 (by omega)
set_option maxRecDepth 20000 in
set_option maxHeartbeats 4000000 in
theorem c_readProgram_w {X : jX} {dd : Nat} {c0 c1 : jC} {G : Nat → Int} {A : Nat → Nat → Int} {T : jH} {ln li fk nd sy na vi lf pc lk ec : Int} (hd : 8 * 18 + 82 ≤ dd) (hW : Wk G A) (e_ln : G 9 = ln) (e_li : G 3 = li) (e_fk : G 16 = fk) (e_nd : G 31 = nd) (e_sy : G 19 = sy) (e_na : G 28 = na) (e_vi : G 29 = vi) (e_lf : A 3 (ln).toNat = lf) (e_pc : G 46 = pc) (e_lk : G 52 = lk) (e_ec : ecn A (G 31) = ec) (i_LT : LT G A) (p_0 : fk = 0) (p_1 : ln = 0) (p_2 : nd = 1) (p_3 : sy = 0) (p_4 : na = 0) (p_5 : vi = 0) (p_6 : pc = 0) (p_7 : lk = 0) (p_8 : PZ A) (p_9 : ec = 0) : wk X dd 312 [.ref 66] (rV c0 c1 G A T) (fun o V' => ∃ (G' : Nat → Int) (A' : Nat → Nat → Int) (ln2 : Int) (fk2 : Int) (nd2 : Int) (sy2 : Int) (na2 : Int) (vi2 : Int) (pc2 : Int) (lk2 : Int) (ec2 : Int), V' = rV c0 c1 G' A' T ∧ o = .inl none ∧ Wk G' A' ∧ Fr [9, 10, 11, 12, 13, 14, 15, 16, 17, 18, 19, 28, 29, 31, 46, 52] [6, 7, 8, 9, 10, 11, 12, 14, 15, 16, 17, 18, 19, 20, 21, 22, 23, 24, 28, 29, 30, 31, 34, 35, 36] G A G' A' ∧ G' 9 = ln2 ∧ G' 16 = fk2 ∧ G' 31 = nd2 ∧ G' 19 = sy2 ∧ G' 28 = na2 ∧ G' 29 = vi2 ∧ G' 46 = pc2 ∧ G' 52 = lk2 ∧ ecn A' (G' 31) = ec2 ∧ (((1 ≤ fk2)) ∨ ((fk2 = 0) ∧ (TT A' (pc2) (nd2) (sy2) (lk2)) ∧ (nd2 + 5 * ec2 ≤ 6050)))) := by
  obtain ⟨d, rfl⟩ : ∃ d, dd = d + 1 := ⟨dd - 1, by omega⟩
  refine wk_of (e := jm312) rfl (Nat.le_of_ble_eq_true rfl) ?_
  show wj X d jm312 (0, [(0, .ref 66)], [], rV c0 c1 G A T) _
  have hF0 : Fr [9, 10, 11, 12, 13, 14, 15, 16, 17, 18, 19, 28, 29, 31, 46, 52] [6, 7, 8, 9, 10, 11, 12, 14, 15, 16, 17, 18, 19, 20, 21, 22, 23, 24, 28, 29, 30, 31, 34, 35, 36] G A G A := Fr_rf
  have b_ln : (0 : Int) ≤ ln ∧ ln ≤ 3000 := e_ln ▸ hW.1 9
  have b_li : (0 : Int) ≤ li ∧ li ≤ 3000 := e_li ▸ hW.1 3
  have b_fk : (0 : Int) ≤ fk ∧ fk ≤ 6 := e_fk ▸ hW.1 16
  have b_nd : (0 : Int) ≤ nd ∧ nd ≤ 6999 := e_nd ▸ hW.1 31
  have b_sy : (0 : Int) ≤ sy ∧ sy ≤ 202 := e_sy ▸ hW.1 19
  have b_na : (0 : Int) ≤ na ∧ na ≤ 200 := e_na ▸ hW.1 28
  have b_vi : (0 : Int) ≤ vi ∧ vi ≤ 202 := e_vi ▸ hW.1 29
  have b_lf : (0 : Int) ≤ lf ∧ lf ≤ 3000 := e_lf ▸ hW.2 3 _
  have b_pc : (0 : Int) ≤ pc ∧ pc ≤ 24 := e_pc ▸ hW.1 46
  have b_lk : (0 : Int) ≤ lk ∧ lk ≤ 12 := e_lk ▸ hW.1 52
  refine jx_ld (pc' := 1) (l' := [(0, .ref 66)]) (st' := [.ref 66]) rfl (jl_aloadn rfl) ?_
  refine jx_hp (pc' := 4) (st' := [.ref 27, .ref 66]) rfl rfl rfl rfl rfl rfl ?_
  refine jx_st (pc' := 7) (as := [.ref 27]) (st := [.ref 66]) rfl rfl ⟨rfl, Nat.le_of_ble_eq_true rfl⟩ rfl rfl rfl (c_nameOf (dd := d) (hd := by omega) (s := 27)    (q_s := rfl) (l_s := by decide) (n_s := by decide) ) (fun o V' hq => ?_)
  obtain ⟨r625, rfl, rfl, -⟩ := hq
  refine .inr ⟨_, rfl, ?_⟩
  refine jx_ar (pc' := 9) (st' := [.int (i32 (12)), .long (r625), .ref 66]) rfl rfl rfl rfl ?_
  refine jx_ar (pc' := 10) (st' := [.int (i32 (0)), .int (i32 (12)), .long (r625), .ref 66]) rfl rfl rfl rfl ?_
  refine jx_vr (pc' := 13) (as := [.long (r625), .int (i32 (12)), .int (i32 (0))]) (st := []) rfl rfl rfl rfl ⟨rfl, rfl, Nat.le_of_ble_eq_true rfl⟩ rfl rfl (c_symbol (dd := d) (hd := by omega) (hW := hW) (nm := r625) (kind := 12) (many := 0) (sy := sy) (e_sy := show G 19 = sy from (e_sy))  (h_kind := ⟨(by decide), (by decide)⟩) (h_many := ⟨(by decide), (by decide)⟩)  (p_0 := by omega) (p_1 := by omega)) (fun o V' hq => ?_)
  obtain ⟨G627, A628, r629, sy2_630, yk2_631, rfl, rfl, hW632, hF633, hQ634, b635, e636, e637, p638, p639, p640, p641, -⟩ := hq
  have hF643 := Fr_tr hF0 hF633 (Fr_sub (by decide)) (Fr_sub (by decide))
  have sf644 : PZ A628 := PZ_ext (hF633.2 36 rfl) p_8
  have ec645 : ecn A628 (G627 31) = ec := (ecn_f (hF633.2 15 rfl) (hF633.1 31 rfl)).trans e_ec
  have bsy2_630 : (0 : Int) ≤ sy2_630 ∧ sy2_630 ≤ 202 := e636 ▸ hW632.1 19
  have byk2_631 : (0 : Int) ≤ yk2_631 ∧ yk2_631 ≤ 14 := e637 ▸ hW632.2 7 _
  refine .inr ⟨_, rfl, ?_⟩
  refine jx_ar (pc' := 14) (st' := []) rfl rfl rfl rfl ?_
  refine jx_ld (pc' := 15) (l' := [(0, .ref 66)]) (st' := [.ref 66]) rfl (jl_aloadn rfl) ?_
  refine jx_hp (pc' := 18) (st' := [.ref 28, .ref 66]) rfl rfl rfl rfl rfl rfl ?_
  refine jx_st (pc' := 21) (as := [.ref 28]) (st := [.ref 66]) rfl rfl ⟨rfl, Nat.le_of_ble_eq_true rfl⟩ rfl rfl rfl (c_nameOf (dd := d) (hd := by omega) (s := 28)    (q_s := rfl) (l_s := by decide) (n_s := by decide) ) (fun o V' hq => ?_)
  obtain ⟨r646, rfl, rfl, -⟩ := hq
  refine .inr ⟨_, rfl, ?_⟩
  refine jx_ar (pc' := 23) (st' := [.int (i32 (13)), .long (r646), .ref 66]) rfl rfl rfl rfl ?_
  refine jx_ar (pc' := 24) (st' := [.int (i32 (0)), .int (i32 (13)), .long (r646), .ref 66]) rfl rfl rfl rfl ?_
  refine jx_vr (pc' := 27) (as := [.long (r646), .int (i32 (13)), .int (i32 (0))]) (st := []) rfl rfl rfl rfl ⟨rfl, rfl, Nat.le_of_ble_eq_true rfl⟩ rfl rfl (c_symbol (dd := d) (hd := by omega) (hW := hW632) (nm := r646) (kind := 13) (many := 0) (sy := sy2_630) (e_sy := show G627 19 = sy2_630 from (e636))  (h_kind := ⟨(by decide), (by decide)⟩) (h_many := ⟨(by decide), (by decide)⟩)  (p_0 := by omega) (p_1 := by omega)) (fun o V' hq => ?_)
  obtain ⟨G648, A649, r650, sy2_651, yk2_652, rfl, rfl, hW653, hF654, hQ655, b656, e657, e658, p659, p660, p661, p662, -⟩ := hq
  have hF664 := Fr_tr hF643 hF654 (Fr_sub (by decide)) (Fr_sub (by decide))
  have sf665 : PZ A649 := PZ_ext (hF654.2 36 rfl) sf644
  have sf666 : YD A649 (sy) (12) (0) := YD_fx (by omega) (by omega) hQ655 p641
  have ec667 : ecn A649 (G648 31) = ec := (ecn_f (hF654.2 15 rfl) (hF654.1 31 rfl)).trans ec645
  have bsy2_651 : (0 : Int) ≤ sy2_651 ∧ sy2_651 ≤ 202 := e657 ▸ hW653.1 19
  have byk2_652 : (0 : Int) ≤ yk2_652 ∧ yk2_652 ≤ 14 := e658 ▸ hW653.2 7 _
  refine .inr ⟨_, rfl, ?_⟩
  refine jx_ar (pc' := 28) (st' := []) rfl rfl rfl rfl ?_
  refine jx_ld (pc' := 29) (l' := [(0, .ref 66)]) (st' := [.ref 66]) rfl (jl_aloadn rfl) ?_
  refine jx_ar (pc' := 30) (st' := [.int (i32 (0)), .ref 66]) rfl rfl rfl rfl ?_
  refine jx_vr (pc' := 33) (as := [.int (i32 (0))]) (st := []) rfl rfl rfl rfl ⟨rfl, rfl, Nat.le_of_ble_eq_true rfl⟩ rfl rfl (c_show (dd := d) (hd := by omega) (hW := hW653) (s := 0) (vi := vi) (e_vi := show G648 29 = vi from ((hF654.1 29 rfl).trans ((hF633.1 29 rfl).trans (e_vi))))  (h_s := ⟨(by decide), (by decide)⟩)  (p_0 := by omega) (p_1 := by omega)) (fun o V' hq => ?_)
  obtain ⟨G668, A669, vi2_670, sv2_671, rfl, rfl, hW672, hF673, hQ674, e675, e676, p677, p678, -⟩ := hq
  have hF680 := Fr_tr hF664 hF673 (Fr_sub (by decide)) (Fr_sub (by decide))
  have sf681 : PZ A669 := PZ_ext (hF673.2 36 rfl) sf665
  have sf682 : YD A669 (sy) (12) (0) := YD_fx (by omega) (by omega) (Sg_fr (sb := sy + 1) hF673 (by decide)) sf666
  have sf683 : YD A669 (sy2_630) (13) (0) := YD_fx (by omega) (by omega) (Sg_fr (sb := sy2_630 + 1) hF673 (by decide)) p662
  have ec684 : ecn A669 (G668 31) = ec := (ecn_f (hF673.2 15 rfl) (hF673.1 31 rfl)).trans ec667
  have bvi2_670 : (0 : Int) ≤ vi2_670 ∧ vi2_670 ≤ 202 := e675 ▸ hW672.1 29
  have bsv2_671 : (0 : Int) ≤ sv2_671 ∧ sv2_671 ≤ 201 := e676 ▸ hW672.2 14 _
  refine .inl ⟨rfl, ?_⟩
  refine jx_ld (pc' := 34) (l' := [(0, .ref 66)]) (st' := [.ref 66]) rfl (jl_aloadn rfl) ?_
  have _q : True := trivial
  refine jx_ar (pc' := 35) (st' := [.int (i32 (1)), .ref 66]) rfl rfl rfl rfl ?_
  refine jx_vr (pc' := 38) (as := [.int (i32 (1))]) (st := []) rfl rfl rfl rfl ⟨rfl, rfl, Nat.le_of_ble_eq_true rfl⟩ rfl rfl (c_show (dd := d) (hd := by omega) (hW := hW672) (s := 1) (vi := vi2_670) (e_vi := show G668 29 = vi2_670 from (e675))  (h_s := ⟨(by decide), (by decide)⟩)  (p_0 := by omega) (p_1 := by omega)) (fun o V' hq => ?_)
  obtain ⟨G685, A686, vi2_687, sv2_688, rfl, rfl, hW689, hF690, hQ691, e692, e693, p694, p695, -⟩ := hq
  have hF697 := Fr_tr hF680 hF690 (Fr_sub (by decide)) (Fr_sub (by decide))
  have k698 : A686 14 (vi).toNat = sv2_671 := (hQ691 14 _ rfl (by omega)).trans (show A669 14 (vi).toNat = sv2_671 from (e676))
  have sf699 : PZ A686 := PZ_ext (hF690.2 36 rfl) sf681
  have sf700 : YD A686 (sy) (12) (0) := YD_fx (by omega) (by omega) (Sg_fr (sb := sy + 1) hF690 (by decide)) sf682
  have sf701 : YD A686 (sy2_630) (13) (0) := YD_fx (by omega) (by omega) (Sg_fr (sb := sy2_630 + 1) hF690 (by decide)) sf683
  have ec702 : ecn A686 (G685 31) = ec := (ecn_f (hF690.2 15 rfl) (hF690.1 31 rfl)).trans ec684
  have bvi2_687 : (0 : Int) ≤ vi2_687 ∧ vi2_687 ≤ 202 := e692 ▸ hW689.1 29
  have bsv2_688 : (0 : Int) ≤ sv2_688 ∧ sv2_688 ≤ 201 := e693 ▸ hW689.2 14 _
  refine .inl ⟨rfl, ?_⟩
  refine jx_ar (pc' := 39) (st' := [.int (i32 (1))]) rfl rfl rfl rfl ?_
  refine jx_ld (pc' := 40) (l' := jSto1 [(0, .ref 66)] 1 (.int (i32 (1)))) (st' := []) rfl rfl ?_
  obtain ⟨L703, eL703⟩ : ∃ q, q = jSto1 [(0, .ref 66)] 1 (.int (i32 (1))) := ⟨_, rfl⟩
  rw [← eL703]
  have gL703_0 : jGet L703 0 = some (.ref 66) := eL703 ▸ jg_ne (by decide) (rfl : jGet [(0, .ref 66)] 0 = some (.ref 66)) rfl
  have gL703_1 : jGet L703 1 = some (.int (i32 (1))) := eL703 ▸ jg_eq
  exact c_readProgram_w_at_40 (X := X) (d := d) (c0 := c0) (c1 := c1) (G := G) (A := A) (T := T) (ln := ln) (li := li) (fk := fk) (nd := nd) (sy := sy) (na := na) (vi := vi) (lf := lf) (pc := pc) (lk := lk) (ec := ec) (hd := hd) (hW := hW) (e_ln := e_ln) (e_li := e_li) (e_fk := e_fk) (e_nd := e_nd) (e_sy := e_sy) (e_na := e_na) (e_vi := e_vi) (e_lf := e_lf) (e_pc := e_pc) (e_lk := e_lk) (e_ec := e_ec) (i_LT := i_LT) (p_0 := p_0) (p_1 := p_1) (p_2 := p_2) (p_3 := p_3) (p_4 := p_4) (p_5 := p_5) (p_6 := p_6) (p_7 := p_7) (p_8 := p_8) (p_9 := p_9) _ L703 G685 A686 (1) (ln) (fk) (nd) (sy2_651) (na) (vi2_687) (lf) (pc) (ec) rfl gL703_0 gL703_1 hW689 hF697 (((hF690.1 9 rfl).trans ((hF673.1 9 rfl).trans ((hF654.1 9 rfl).trans ((hF633.1 9 rfl).trans (e_ln)))))) (((hF690.1 16 rfl).trans ((hF673.1 16 rfl).trans ((hF654.1 16 rfl).trans ((hF633.1 16 rfl).trans (e_fk)))))) (((hF690.1 31 rfl).trans ((hF673.1 31 rfl).trans ((hF654.1 31 rfl).trans ((hF633.1 31 rfl).trans (e_nd)))))) (((hF690.1 19 rfl).trans ((hF673.1 19 rfl).trans (e657)))) (((hF690.1 28 rfl).trans ((hF673.1 28 rfl).trans ((hF654.1 28 rfl).trans ((hF633.1 28 rfl).trans (e_na)))))) ((e692)) ((congrFun ((hF690.2 3 rfl).trans ((hF673.2 3 rfl).trans ((hF654.2 3 rfl).trans (hF633.2 3 rfl)))) _).trans (e_lf)) (((hF690.1 46 rfl).trans ((hF673.1 46 rfl).trans ((hF654.1 46 rfl).trans ((hF633.1 46 rfl).trans (e_pc)))))) (ec702) (((hF690.1 52 rfl).trans ((hF673.1 52 rfl).trans ((hF654.1 52 rfl).trans ((hF633.1 52 rfl).trans (e_lk)))))) (by omega) (by omega) (by omega) (by omega) (by omega) (by omega) (by omega) ((TP_init sf700 (by omega) sf701 (by omega) (show A686 14 (vi).toNat = sv2_671 from (k698)) (by omega) (by omega) (show A686 14 (vi2_670).toNat = sv2_688 from (e693)) (by omega) (by omega) (by omega) (by omega) (by omega) (by omega))) (sf699) (by omega) (by omega)
