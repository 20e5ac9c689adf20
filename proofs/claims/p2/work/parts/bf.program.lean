set_option maxRecDepth 20000 in
set_option maxHeartbeats 4000000 in
theorem c_readPlaced_w_at_19 {X : jX} {d : Nat} {Vs : Nat → Prop} {sb pb : Int} (hvb : VB Vs sb) {c0 c1 : jC} {G : Nat → Int} {A : Nat → Nat → Int} {T : jH} {ln li at0 fk nd sy na vi le op0 tk0 ec : Int} (hd : 8 * 18 + 81 ≤ d + 1) (hW : Wk G A) (e_ln : G 9 = ln) (e_li : G 3 = li) (e_at0 : G 10 = at0) (e_fk : G 16 = fk) (e_nd : G 31 = nd) (e_sy : G 19 = sy) (e_na : G 28 = na) (e_vi : G 29 = vi) (e_le : A 4 (ln).toNat = le) (e_op0 : G 15 = op0) (e_tk0 : G 11 = tk0) (e_ec : ecn A (G 31) = ec) (i_LT : LT G A) (i_SV : SV Vs sb G A) (i_PQ : PQ Vs sb pb G A) (p_0 : fk = 0) (p_1 : 1 ≤ nd) (p_2 : ln < li) (p_3 : at0 ≤ le) (p_4 : nd ≤ 2 * at0 - tz tk0 + 30) (p_5 : sy ≤ na + 2) (p_6 : vi ≤ sy) (p_7 : sb ≤ sy) (p_8 : PZ A) (p_9 : nd + 5 * ec ≤ 2 * at0 - tz tk0 + 30) : ∀ (m : Nat) (L : jL) (Gx : Nat → Int) (Ax : Nat → Nat → Int) (many ln1 at1 fk1 nd1 sy1 na1 lf1 ec1 : Int), (li - ln1).toNat = m → jGet L 0 = some (.ref 66) → jGet L 1 = some (.int (i32 many)) → Wk Gx Ax → Fr [9, 10, 11, 12, 13, 14, 15, 16, 17, 18, 19, 28, 29, 31] [6, 7, 8, 9, 10, 11, 12, 14, 15, 16, 17, 18, 19, 20, 21, 22, 23, 24, 28, 36] G A Gx Ax → Pf nd A Ax → Fx sr (sy) A Ax → Fx [14] (vi) A Ax → Gx 9 = ln1 → Gx 10 = at1 → Gx 16 = fk1 → Gx 31 = nd1 → Gx 19 = sy1 → Gx 28 = na1 → Ax 3 (ln1).toNat = lf1 → ecn Ax (Gx 31) = ec1 → Gx 29 = vi → ((-2147483648 : Int) ≤ many ∧ many ≤ 2147483647) → (fk1 = 0) → (at0 ≤ at1) → (nd ≤ nd1) → (sy ≤ sy1) → (sy1 ≤ na1 + 2) → (vi ≤ sy1) → (ln ≤ ln1) → (ln1 ≤ li) → (nd1 ≤ 2 * at1 + 31) → (at1 < lf1 ∨ li ≤ ln1) → (0 ≤ many ∧ many ≤ ln1) → (wB Ax Vs pb (nd) (nd1) (sy) (sy1)) → (nd + 5 * ec ≤ nd1) → (nd1 + 5 * ec1 ≤ 2 * at1 + 31) → wj X d jm311 (19, L, [], rV c0 c1 Gx Ax T) (fun o V' => ∃ (G' : Nat → Int) (A' : Nat → Nat → Int) (ln2 : Int) (at2 : Int) (fk2 : Int) (nd2 : Int) (sy2 : Int) (na2 : Int) (vi2 : Int) (lf2 : Int) (ec2 : Int), V' = rV c0 c1 G' A' T ∧ o = .inl none ∧ Wk G' A' ∧ Fr [9, 10, 11, 12, 13, 14, 15, 16, 17, 18, 19, 28, 29, 31] [6, 7, 8, 9, 10, 11, 12, 14, 15, 16, 17, 18, 19, 20, 21, 22, 23, 24, 28, 36] G A G' A' ∧ Pf nd A A' ∧ Fx sr (sy) A A' ∧ Fx [14] (vi) A A' ∧ G' 9 = ln2 ∧ G' 10 = at2 ∧ G' 16 = fk2 ∧ G' 31 = nd2 ∧ G' 19 = sy2 ∧ G' 28 = na2 ∧ G' 29 = vi2 ∧ A' 3 (ln2).toNat = lf2 ∧ ecn A' (G' 31) = ec2 ∧ (nd ≤ nd2) ∧ (sy ≤ sy2) ∧ (sy2 ≤ na2 + 2) ∧ (vi2 = vi) ∧ (ln ≤ ln2) ∧ (ln2 ≤ li) ∧ (((1 ≤ fk2)) ∨ ((fk2 = 0) ∧ (wB A' Vs pb (nd) (nd2) (sy) (sy2)) ∧ (nd2 + 5 * ec2 ≤ 6050)))) := by
  have hF0 : Fr [9, 10, 11, 12, 13, 14, 15, 16, 17, 18, 19, 28, 29, 31] [6, 7, 8, 9, 10, 11, 12, 14, 15, 16, 17, 18, 19, 20, 21, 22, 23, 24, 28, 36] G A G A := Fr_rf
  have hP0 : Pf nd A A := Pf_rf
  have hS0 : Fx sr (sy) A A := Fx_rf
  have hV0 : Fx [14] (vi) A A := Fx_rf
  have b_ln : (0 : Int) ≤ ln ∧ ln ≤ 3000 := e_ln ▸ hW.1 9
  have b_li : (0 : Int) ≤ li ∧ li ≤ 3000 := e_li ▸ hW.1 3
  have b_at0 : (0 : Int) ≤ at0 ∧ at0 ≤ 3002 := e_at0 ▸ hW.1 10
  have b_fk : (0 : Int) ≤ fk ∧ fk ≤ 6 := e_fk ▸ hW.1 16
  have b_nd : (0 : Int) ≤ nd ∧ nd ≤ 6999 := e_nd ▸ hW.1 31
  have b_sy : (0 : Int) ≤ sy ∧ sy ≤ 202 := e_sy ▸ hW.1 19
  have b_na : (0 : Int) ≤ na ∧ na ≤ 200 := e_na ▸ hW.1 28
  have b_vi : (0 : Int) ≤ vi ∧ vi ≤ 202 := e_vi ▸ hW.1 29
  have b_le : (0 : Int) ≤ le ∧ le ≤ 3000 := e_le ▸ hW.2 4 _
  have b_op0 : (-2147483648 : Int) ≤ op0 ∧ op0 ≤ 2147483647 := e_op0 ▸ hW.1 15
  have z_tk0 := tz_f tk0
  have b_tk0 : (0 : Int) ≤ tk0 ∧ tk0 ≤ 5 := e_tk0 ▸ hW.1 11
  intro m
  induction m using Nat.strongRecOn with
  | ind m ih19 =>
    intro L Gx Ax many ln1 at1 fk1 nd1 sy1 na1 lf1 ec1 hm gL_0 gL_1 hWx hFx hPx hSx hVx ex_ln1 ex_at1 ex_fk1 ex_nd1 ex_sy1 ex_na1 ex_lf1 ex_ec1 fx_29 rx_many iv_0 iv_1 iv_2 iv_3 iv_4 iv_5 iv_6 iv_7 iv_8 iv_9 iv_10 iv_11 iv_12 iv_13
    have b_ln1 : (0 : Int) ≤ ln1 ∧ ln1 ≤ 3000 := ex_ln1 ▸ hWx.1 9
    have b_at1 : (0 : Int) ≤ at1 ∧ at1 ≤ 3002 := ex_at1 ▸ hWx.1 10
    have b_fk1 : (0 : Int) ≤ fk1 ∧ fk1 ≤ 6 := ex_fk1 ▸ hWx.1 16
    have b_nd1 : (0 : Int) ≤ nd1 ∧ nd1 ≤ 6999 := ex_nd1 ▸ hWx.1 31
    have b_sy1 : (0 : Int) ≤ sy1 ∧ sy1 ≤ 202 := ex_sy1 ▸ hWx.1 19
    have b_na1 : (0 : Int) ≤ na1 ∧ na1 ≤ 200 := ex_na1 ▸ hWx.1 28
    refine jx_ld (pc' := 20) (l' := L) (st' := [.ref 66]) rfl (jl_aloadn gL_0) ?_
    refine jx_ar (pc' := 21) (st' := [.int (i32 (0)), .ref 66]) rfl rfl rfl rfl ?_
    have b1 : (-1 : Int) ≤ A 5 (ln1).toNat ∧ A 5 (ln1).toNat ≤ 15 := hW.2 5 _
    refine jx_vr (pc' := 24) (as := [.int (i32 (0))]) (st := []) rfl rfl rfl rfl ⟨rfl, rfl, Nat.le_of_ble_eq_true rfl⟩ rfl rfl (c_isBelow (dd := d) (hd := by omega) (hW := hWx) (lv := 0) (ln := ln1) (e_ln := show Gx 9 = ln1 from (ex_ln1)) (li := li) (e_li := show Gx 3 = li from ((hFx.1 3 rfl).trans (e_li))) (fk := fk1) (e_fk := show Gx 16 = fk1 from (ex_fk1)) (ll := A 5 (ln1).toNat) (e_ll := show Ax 5 (ln1).toNat = A 5 (ln1).toNat from (congrFun (hFx.2 5 rfl) _))  (h_lv := ⟨(by decide), (by decide)⟩)  (p_0 := by omega)) (fun o V' hq => ?_)
    obtain ⟨G2, A3, r4, fk2_5, rfl, rfl, hW6, hF7, b8, e9, q10⟩ := hq
    have hF11 := Fr_tr hFx hF7 (Fr_sub (by decide)) (Fr_sub (by decide))
    have hP12 := Pf_f hPx hF7 (by decide)
    have hS13 := Fx_f hSx hF7 (by decide)
    have hV14 := Fx_f hVx hF7 (by decide)
    have sf15 : wB A3 Vs pb (nd) (nd1) (sy) (sy1) := (show A3 = Ax from funext (fun k => hF7.2 k rfl)) ▸ iv_11
    have ec16 : ecn A3 (G2 31) = ec1 := (ecn_f (hF7.2 15 rfl) (hF7.1 31 rfl)).trans ex_ec1
    have bfk2_5 : (0 : Int) ≤ fk2_5 ∧ fk2_5 ≤ 6 := e9 ▸ hW6.1 16
    refine .inr ⟨_, rfl, ?_⟩
    rcases q10 with ⟨rfl, a17, a18, a19, a20⟩ | ⟨rfl, a21⟩ | ⟨rfl, a22, a23, a24⟩
    · have _q : True := trivial
      have b25 : (0 : Int) ≤ A 4 (ln1).toNat ∧ A 4 (ln1).toNat ≤ 3000 := hW.2 4 _
      have lt26 : lf1 < A 4 (ln1).toNat := LT_at (LT_ext (((hF7.1 3 rfl).trans (hFx.1 3 rfl))) (((hF7.2 3 rfl).trans (hFx.2 3 rfl))) (((hF7.2 4 rfl).trans (hFx.2 4 rfl))) i_LT) (show G2 3 = li from ((hF7.1 3 rfl).trans ((hFx.1 3 rfl).trans (e_li)))) (show A3 3 (ln1).toNat = lf1 from (congrFun (hF7.2 3 rfl) _).trans (ex_lf1)) (show A3 4 (ln1).toNat = A 4 (ln1).toNat from (congrFun ((hF7.2 4 rfl).trans (hFx.2 4 rfl)) _)) (by omega) (by omega)
      refine jx_if_eq (pc' := 27) (tg := 125) rfl rfl rfl (by decide) (by decide) (fun h27 => ?_) (fun h27 => ?_)
      · have _q := h27
        exact absurd h27 (by omega)
      · have _q := h27
        refine jx_ld (pc' := 28) (l' := L) (st' := [.ref 66]) rfl (jl_aloadn gL_0) ?_
        refine jx_vr (pc' := 31) (as := []) (st := []) rfl rfl rfl rfl ⟨rfl, rfl, Nat.le_of_ble_eq_true rfl⟩ rfl rfl (c_openLine (dd := d) (hd := by omega) (hW := hW6)  (ln := ln1) (e_ln := show G2 9 = ln1 from ((hF7.1 9 rfl).trans (ex_ln1))) (le := A 4 (ln1).toNat) (e_le := show A3 4 (ln1).toNat = A 4 (ln1).toNat from (congrFun ((hF7.2 4 rfl).trans (hFx.2 4 rfl)) _)) (lf := lf1) (e_lf := show A3 3 (ln1).toNat = lf1 from (congrFun (hF7.2 3 rfl) _).trans (ex_lf1))    (p_0 := by omega)) (fun o V' hq => ?_)
        obtain ⟨G28, A29, at2_30, tk2_31, op2_32, rfl, rfl, hW33, hF34, e35, e36, e37, p38, p39, p40, p41, -⟩ := hq
        have hF43 := Fr_tr hF11 hF34 (Fr_sub (by decide)) (Fr_sub (by decide))
        have hP44 := Pf_f hP12 hF34 (by decide)
        have hS45 := Fx_f hS13 hF34 (by decide)
        have hV46 := Fx_f hV14 hF34 (by decide)
        have sf47 : wB A29 Vs pb (nd) (nd1) (sy) (sy1) := (show A29 = A3 from funext (fun k => hF34.2 k rfl)) ▸ sf15
        have ec48 : ecn A29 (G28 31) = ec1 := (ecn_f (hF34.2 15 rfl) (hF34.1 31 rfl)).trans ec16
        have bat2_30 : (0 : Int) ≤ at2_30 ∧ at2_30 ≤ 3002 := e35 ▸ hW33.1 10
        have ztk2_31 := tz_b tk2_31
        have btk2_31 : (0 : Int) ≤ tk2_31 ∧ tk2_31 ≤ 5 := e36 ▸ hW33.1 11
        have bop2_32 : (-2147483648 : Int) ≤ op2_32 ∧ op2_32 ≤ 2147483647 := e37 ▸ hW33.1 15
        refine .inl ⟨rfl, ?_⟩
        have pz49 : lf1 + tz tk2_31 ≤ at2_30 := by omega
        refine jx_ld (pc' := 32) (l' := L) (st' := [.ref 66]) rfl (jl_aloadn gL_0) ?_
        refine jx_ld (pc' := 33) (l' := L) (st' := [.ref 66, .ref 66]) rfl (jl_aloadn gL_0) ?_
        refine jx_ar (pc' := 35) (st' := [.int (i32 (20)), .ref 66, .ref 66]) rfl rfl rfl rfl ?_
        have b50 : (-2147483648 : Int) ≤ G28 13 ∧ G28 13 ≤ 2147483647 := hW33.1 13
        refine jx_vr (pc' := 38) (as := [.int (i32 (20))]) (st := [.ref 66]) rfl rfl rfl rfl ⟨rfl, rfl, Nat.le_of_ble_eq_true rfl⟩ rfl rfl (c_isKey (dd := d) (hd := by omega) (hW := hW33) (k := 20) (tk := tk2_31) (e_tk := show G28 11 = tk2_31 from (e36)) (tn := G28 13) (e_tn := show G28 13 = G28 13 from rfl)  (h_k := ⟨(by decide), (by decide)⟩)  ) (fun o V' hq => ?_)
        obtain ⟨r51, rfl, rfl, b52, q53⟩ := hq
        refine .inr ⟨_, rfl, ?_⟩
        rcases q53 with ⟨rfl, a54, a55, a56⟩ | rfl
        · have _q : True := trivial
          refine jx_vr (pc' := 41) (as := [.int (i32 (1))]) (st := []) rfl rfl rfl rfl ⟨rfl, rfl, Nat.le_of_ble_eq_true rfl⟩ rfl rfl (c_need (dd := d) (hd := by omega) (hW := hW33) (g := 1) (ln := ln1) (e_ln := show G28 9 = ln1 from ((hF34.1 9 rfl).trans ((hF7.1 9 rfl).trans (ex_ln1)))) (le := A 4 (ln1).toNat) (e_le := show A29 4 (ln1).toNat = A 4 (ln1).toNat from (congrFun ((hF34.2 4 rfl).trans ((hF7.2 4 rfl).trans (hFx.2 4 rfl))) _)) (at0 := at2_30) (e_at0 := show G28 10 = at2_30 from (e35)) (fk := fk2_5) (e_fk := show G28 16 = fk2_5 from ((hF34.1 16 rfl).trans (e9))) (tk0 := tk2_31) (e_tk0 := show G28 11 = tk2_31 from (e36))  (h_g := ⟨(by decide), (by decide)⟩)  (p_0 := by omega)) (fun o V' hq => ?_)
          obtain ⟨G57, A58, at2_59, tk2_60, fk2_61, rfl, rfl, hW62, hF63, e64, e65, e66, p67, p68, q69⟩ := hq
          have hF70 := Fr_tr hF43 hF63 (Fr_sub (by decide)) (Fr_sub (by decide))
          have hP71 := Pf_f hP44 hF63 (by decide)
          have hS72 := Fx_f hS45 hF63 (by decide)
          have hV73 := Fx_f hV46 hF63 (by decide)
          have sf74 : wB A58 Vs pb (nd) (nd1) (sy) (sy1) := (show A58 = A29 from funext (fun k => hF63.2 k rfl)) ▸ sf47
          have ec75 : ecn A58 (G57 31) = ec1 := (ecn_f (hF63.2 15 rfl) (hF63.1 31 rfl)).trans ec48
          have bat2_59 : (0 : Int) ≤ at2_59 ∧ at2_59 ≤ 3002 := e64 ▸ hW62.1 10
          have ztk2_60 := tz_b tk2_60
          have btk2_60 : (0 : Int) ≤ tk2_60 ∧ tk2_60 ≤ 5 := e65 ▸ hW62.1 11
          have bfk2_61 : (0 : Int) ≤ fk2_61 ∧ fk2_61 ≤ 6 := e66 ▸ hW62.1 16
          refine .inl ⟨rfl, ?_⟩
          rcases q69 with ⟨a76, a77, a78, a79⟩ | ⟨a80, a81, a82, a83⟩
          · have _q : True := trivial
            refine jx_ld (pc' := 42) (l' := L) (st' := [.ref 66]) rfl (jl_aloadn gL_0) ?_
            refine jx_vr (pc' := 45) (as := []) (st := []) rfl rfl rfl rfl ⟨rfl, rfl, Nat.le_of_ble_eq_true rfl⟩ rfl rfl (c_bad (dd := d) (hd := by omega) (hW := hW62)  (fk := fk2_61) (e_fk := show G57 16 = fk2_61 from (e66))    ) (fun o V' hq => ?_)
            obtain ⟨r84, rfl, rfl, b85, q86⟩ := hq
            refine .inr ⟨_, rfl, ?_⟩
            rcases q86 with ⟨rfl, a87⟩ | ⟨rfl, a88⟩
            · have _q : True := trivial
              refine jx_if_ne (pc' := 48) (tg := 89) rfl rfl rfl (by decide) (by decide) (fun h89 => ?_) (fun h89 => ?_)
              · have _q := h89
                refine jx_ld (pc' := 90) (l' := L) (st' := [.ref 66]) rfl (jl_aloadn gL_0) ?_
                refine jx_ar (pc' := 91) (st' := [.int (i32 (0)), .ref 66]) rfl rfl rfl rfl ?_
                refine jx_ar (pc' := 92) (st' := [.int (i32 (5)), .int (i32 (0)), .ref 66]) rfl rfl rfl rfl ?_
                have b90 : (-2147483648 : Int) ≤ G57 13 ∧ G57 13 ≤ 2147483647 := hW62.1 13
                refine jx_vr (pc' := 95) (as := [.int (i32 (0)), .int (i32 (5))]) (st := []) rfl rfl rfl rfl ⟨rfl, rfl, Nat.le_of_ble_eq_true rfl⟩ rfl rfl (c_needNumber2 (dd := d) (hd := by omega) (hW := hW62) (lo := 0) (hi := 5) (ln := ln1) (e_ln := show G57 9 = ln1 from ((hF63.1 9 rfl).trans ((hF34.1 9 rfl).trans ((hF7.1 9 rfl).trans (ex_ln1))))) (le := A 4 (ln1).toNat) (e_le := show A58 4 (ln1).toNat = A 4 (ln1).toNat from (congrFun ((hF63.2 4 rfl).trans ((hF34.2 4 rfl).trans ((hF7.2 4 rfl).trans (hFx.2 4 rfl)))) _)) (at0 := at2_59) (e_at0 := show G57 10 = at2_59 from (e64)) (fk := fk2_61) (e_fk := show G57 16 = fk2_61 from (e66)) (tk0 := tk2_60) (e_tk0 := show G57 11 = tk2_60 from (e65)) (tn := G57 13) (e_tn := show G57 13 = G57 13 from rfl)  (h_lo := ⟨(by decide), (by decide)⟩) (h_hi := ⟨(by decide), (by decide)⟩)  (p_0 := by omega)) (fun o V' hq => ?_)
                obtain ⟨G91, A92, r93, at2_94, tk2_95, fk2_96, rfl, rfl, hW97, hF98, b99, e100, e101, e102, p103, p104, q105⟩ := hq
                have hF106 := Fr_tr hF70 hF98 (Fr_sub (by decide)) (Fr_sub (by decide))
                have hP107 := Pf_f hP71 hF98 (by decide)
                have hS108 := Fx_f hS72 hF98 (by decide)
                have hV109 := Fx_f hV73 hF98 (by decide)
                have sf110 : wB A92 Vs pb (nd) (nd1) (sy) (sy1) := (show A92 = A58 from funext (fun k => hF98.2 k rfl)) ▸ sf74
                have ec111 : ecn A92 (G91 31) = ec1 := (ecn_f (hF98.2 15 rfl) (hF98.1 31 rfl)).trans ec75
                have bat2_94 : (0 : Int) ≤ at2_94 ∧ at2_94 ≤ 3002 := e100 ▸ hW97.1 10
                have ztk2_95 := tz_b tk2_95
                have btk2_95 : (0 : Int) ≤ tk2_95 ∧ tk2_95 ≤ 5 := e101 ▸ hW97.1 11
                have bfk2_96 : (0 : Int) ≤ fk2_96 ∧ fk2_96 ≤ 6 := e102 ▸ hW97.1 16
                refine .inr ⟨_, rfl, ?_⟩
                rcases q105 with ⟨a112, a113, a114, a115⟩ | ⟨a116, a117, a118, a119, a120, a121, a122⟩
                · have _q : True := trivial
                  refine jx_ld (pc' := 96) (l' := jSto1 L 2 (.int (i32 (r93)))) (st' := []) rfl rfl ?_
                  obtain ⟨L123, eL123⟩ : ∃ q, q = jSto1 L 2 (.int (i32 (r93))) := ⟨_, rfl⟩
                  rw [← eL123]
                  have gL123_0 : jGet L123 0 = some (.ref 66) := eL123 ▸ jg_ne (by decide) gL_0 rfl
                  have gL123_1 : jGet L123 1 = some (.int (i32 (many))) := eL123 ▸ jg_ne (by decide) gL_1 rfl
                  have gL123_2 : jGet L123 2 = some (.int (i32 (r93))) := eL123 ▸ jg_eq
                  refine jx_ld (pc' := 97) (l' := L123) (st' := [.ref 66]) rfl (jl_aloadn gL123_0) ?_
                  refine jx_vr (pc' := 100) (as := []) (st := []) rfl rfl rfl rfl ⟨rfl, rfl, Nat.le_of_ble_eq_true rfl⟩ rfl rfl (c_endLine (dd := d) (hd := by omega) (hW := hW97)  (ln := ln1) (e_ln := show G91 9 = ln1 from ((hF98.1 9 rfl).trans ((hF63.1 9 rfl).trans ((hF34.1 9 rfl).trans ((hF7.1 9 rfl).trans (ex_ln1)))))) (li := li) (e_li := show G91 3 = li from ((hF98.1 3 rfl).trans ((hF63.1 3 rfl).trans ((hF34.1 3 rfl).trans ((hF7.1 3 rfl).trans ((hFx.1 3 rfl).trans (e_li))))))) (fk := fk2_96) (e_fk := show G91 16 = fk2_96 from (e102)) (tk0 := tk2_95) (e_tk0 := show G91 11 = tk2_95 from (e101))    (p_0 := by omega)) (fun o V' hq => ?_)
                  obtain ⟨G124, A125, ln2_126, fk2_127, rfl, rfl, hW128, hF129, e130, e131, q132⟩ := hq
                  have hF133 := Fr_tr hF106 hF129 (Fr_sub (by decide)) (Fr_sub (by decide))
                  have hP134 := Pf_f hP107 hF129 (by decide)
                  have hS135 := Fx_f hS108 hF129 (by decide)
                  have hV136 := Fx_f hV109 hF129 (by decide)
                  have sf137 : wB A125 Vs pb (nd) (nd1) (sy) (sy1) := (show A125 = A92 from funext (fun k => hF129.2 k rfl)) ▸ sf110
                  have ec138 : ecn A125 (G124 31) = ec1 := (ecn_f (hF129.2 15 rfl) (hF129.1 31 rfl)).trans ec111
                  have bln2_126 : (0 : Int) ≤ ln2_126 ∧ ln2_126 ≤ 3000 := e130 ▸ hW128.1 9
                  have bfk2_127 : (0 : Int) ≤ fk2_127 ∧ fk2_127 ≤ 6 := e131 ▸ hW128.1 16
                  refine .inl ⟨rfl, ?_⟩
                  rcases q132 with ⟨a139, a140, a141, a142, a143⟩ | ⟨a144, a145⟩
                  · have _q : True := trivial
                    exfalso
                    omega
                  · have _q : True := trivial
                    refine jx_ld (pc' := 101) (l' := L123) (st' := [.ref 66]) rfl (jl_aloadn gL123_0) ?_
                    refine jx_vr (pc' := 104) (as := []) (st := []) rfl rfl rfl rfl ⟨rfl, rfl, Nat.le_of_ble_eq_true rfl⟩ rfl rfl (c_bad (dd := d) (hd := by omega) (hW := hW128)  (fk := fk2_127) (e_fk := show G124 16 = fk2_127 from (e131))    ) (fun o V' hq => ?_)
                    obtain ⟨r146, rfl, rfl, b147, q148⟩ := hq
                    refine .inr ⟨_, rfl, ?_⟩
                    rcases q148 with ⟨rfl, a149⟩ | ⟨rfl, a150⟩
                    · have _q : True := trivial
                      refine jx_if_eq (pc' := 107) (tg := 108) rfl rfl rfl (by decide) (by decide) (fun h151 => ?_) (fun h151 => ?_)
                      · have _q := h151
                        exact absurd h151 (by omega)
                      · have _q := h151
                        refine jx_rt (v := none) rfl rfl rfl rfl rfl rfl ?_
                        exact ⟨_, _, ln2_126, at2_94, fk2_127, nd1, sy1, na1, vi, A 3 (ln2_126).toNat, ec1, rfl, rfl, hW128, hF133, hP134, hS135, hV136, (e130), ((hF129.1 10 rfl).trans (e100)), (e131), ((hF129.1 31 rfl).trans ((hF98.1 31 rfl).trans ((hF63.1 31 rfl).trans ((hF34.1 31 rfl).trans ((hF7.1 31 rfl).trans (ex_nd1)))))), ((hF129.1 19 rfl).trans ((hF98.1 19 rfl).trans ((hF63.1 19 rfl).trans ((hF34.1 19 rfl).trans ((hF7.1 19 rfl).trans (ex_sy1)))))), ((hF129.1 28 rfl).trans ((hF98.1 28 rfl).trans ((hF63.1 28 rfl).trans ((hF34.1 28 rfl).trans ((hF7.1 28 rfl).trans (ex_na1)))))), ((hF129.1 29 rfl).trans ((hF98.1 29 rfl).trans ((hF63.1 29 rfl).trans ((hF34.1 29 rfl).trans ((hF7.1 29 rfl).trans (fx_29)))))), (congrFun ((hF129.2 3 rfl).trans ((hF98.2 3 rfl).trans ((hF63.2 3 rfl).trans ((hF34.2 3 rfl).trans ((hF7.2 3 rfl).trans (hFx.2 3 rfl)))))) _), ec138, by omega, by omega, by omega, by omega, by omega, by omega, by first | exact Or.inl (by omega)⟩
                    · have _q : True := trivial
                      exfalso
                      omega
                · have _q : True := trivial
                  exfalso
                  omega
              · have _q := h89
                exact absurd h89 (by omega)
            · have _q : True := trivial
              exfalso
              omega
          · have _q : True := trivial
            have pz152 : at2_30 + tz tk2_60 ≤ at2_59 := by omega
            refine jx_ld (pc' := 42) (l' := L) (st' := [.ref 66]) rfl (jl_aloadn gL_0) ?_
            refine jx_vr (pc' := 45) (as := []) (st := []) rfl rfl rfl rfl ⟨rfl, rfl, Nat.le_of_ble_eq_true rfl⟩ rfl rfl (c_bad (dd := d) (hd := by omega) (hW := hW62)  (fk := fk2_61) (e_fk := show G57 16 = fk2_61 from (e66))    ) (fun o V' hq => ?_)
            obtain ⟨r153, rfl, rfl, b154, q155⟩ := hq
            refine .inr ⟨_, rfl, ?_⟩
            rcases q155 with ⟨rfl, a156⟩ | ⟨rfl, a157⟩
            · have _q : True := trivial
              exfalso
              omega
            · have _q : True := trivial
              refine jx_if_ne (pc' := 48) (tg := 89) rfl rfl rfl (by decide) (by decide) (fun h158 => ?_) (fun h158 => ?_)
              · have _q := h158
                exact absurd h158 (by omega)
              · have _q := h158
                refine jx_ld (pc' := 49) (l' := L) (st' := [.ref 66]) rfl (jl_aloadn gL_0) ?_
                have z159 := tz_f (tk2_60)
                refine jr_get (pc' := 52) (i := 11) (v := .int (i32 (tk2_60))) rfl rfl (by decide) (rFv_eq (by decide) (show G57 11 = tk2_60 from (e65))) rfl ?_
                refine jx_ar (pc' := 53) (st' := [.int (i32 (3)), .int (i32 (tk2_60))]) rfl rfl rfl rfl ?_
                refine jx_icmp_ne (pc' := 56) (tg := 89) rfl rfl rfl (Int.le_trans (by decide : (-2147483648 : Int) ≤ 0) btk2_60.1) (Int.le_trans btk2_60.2 (by decide : (5 : Int) ≤ 2147483647)) (by decide) (by decide) (fun h160 => ?_) (fun h160 => ?_)
                · have _q := h160
                  refine jx_ld (pc' := 90) (l' := L) (st' := [.ref 66]) rfl (jl_aloadn gL_0) ?_
                  refine jx_ar (pc' := 91) (st' := [.int (i32 (0)), .ref 66]) rfl rfl rfl rfl ?_
                  refine jx_ar (pc' := 92) (st' := [.int (i32 (5)), .int (i32 (0)), .ref 66]) rfl rfl rfl rfl ?_
                  have b161 : (-2147483648 : Int) ≤ G57 13 ∧ G57 13 ≤ 2147483647 := hW62.1 13
                  refine jx_vr (pc' := 95) (as := [.int (i32 (0)), .int (i32 (5))]) (st := []) rfl rfl rfl rfl ⟨rfl, rfl, Nat.le_of_ble_eq_true rfl⟩ rfl rfl (c_needNumber2 (dd := d) (hd := by omega) (hW := hW62) (lo := 0) (hi := 5) (ln := ln1) (e_ln := show G57 9 = ln1 from ((hF63.1 9 rfl).trans ((hF34.1 9 rfl).trans ((hF7.1 9 rfl).trans (ex_ln1))))) (le := A 4 (ln1).toNat) (e_le := show A58 4 (ln1).toNat = A 4 (ln1).toNat from (congrFun ((hF63.2 4 rfl).trans ((hF34.2 4 rfl).trans ((hF7.2 4 rfl).trans (hFx.2 4 rfl)))) _)) (at0 := at2_59) (e_at0 := show G57 10 = at2_59 from (e64)) (fk := fk2_61) (e_fk := show G57 16 = fk2_61 from (e66)) (tk0 := tk2_60) (e_tk0 := show G57 11 = tk2_60 from (e65)) (tn := G57 13) (e_tn := show G57 13 = G57 13 from rfl)  (h_lo := ⟨(by decide), (by decide)⟩) (h_hi := ⟨(by decide), (by decide)⟩)  (p_0 := by omega)) (fun o V' hq => ?_)
                  obtain ⟨G162, A163, r164, at2_165, tk2_166, fk2_167, rfl, rfl, hW168, hF169, b170, e171, e172, e173, p174, p175, q176⟩ := hq
                  have hF177 := Fr_tr hF70 hF169 (Fr_sub (by decide)) (Fr_sub (by decide))
                  have hP178 := Pf_f hP71 hF169 (by decide)
                  have hS179 := Fx_f hS72 hF169 (by decide)
                  have hV180 := Fx_f hV73 hF169 (by decide)
                  have sf181 : wB A163 Vs pb (nd) (nd1) (sy) (sy1) := (show A163 = A58 from funext (fun k => hF169.2 k rfl)) ▸ sf74
                  have ec182 : ecn A163 (G162 31) = ec1 := (ecn_f (hF169.2 15 rfl) (hF169.1 31 rfl)).trans ec75
                  have bat2_165 : (0 : Int) ≤ at2_165 ∧ at2_165 ≤ 3002 := e171 ▸ hW168.1 10
                  have ztk2_166 := tz_b tk2_166
                  have btk2_166 : (0 : Int) ≤ tk2_166 ∧ tk2_166 ≤ 5 := e172 ▸ hW168.1 11
                  have bfk2_167 : (0 : Int) ≤ fk2_167 ∧ fk2_167 ≤ 6 := e173 ▸ hW168.1 16
                  refine .inr ⟨_, rfl, ?_⟩
                  rcases q176 with ⟨a183, a184, a185, a186⟩ | ⟨a187, a188, a189, a190, a191, a192, a193⟩
                  · have _q : True := trivial
                    refine jx_ld (pc' := 96) (l' := jSto1 L 2 (.int (i32 (r164)))) (st' := []) rfl rfl ?_
                    obtain ⟨L194, eL194⟩ : ∃ q, q = jSto1 L 2 (.int (i32 (r164))) := ⟨_, rfl⟩
                    rw [← eL194]
                    have gL194_0 : jGet L194 0 = some (.ref 66) := eL194 ▸ jg_ne (by decide) gL_0 rfl
                    have gL194_1 : jGet L194 1 = some (.int (i32 (many))) := eL194 ▸ jg_ne (by decide) gL_1 rfl
                    have gL194_2 : jGet L194 2 = some (.int (i32 (r164))) := eL194 ▸ jg_eq
                    refine jx_ld (pc' := 97) (l' := L194) (st' := [.ref 66]) rfl (jl_aloadn gL194_0) ?_
                    refine jx_vr (pc' := 100) (as := []) (st := []) rfl rfl rfl rfl ⟨rfl, rfl, Nat.le_of_ble_eq_true rfl⟩ rfl rfl (c_endLine (dd := d) (hd := by omega) (hW := hW168)  (ln := ln1) (e_ln := show G162 9 = ln1 from ((hF169.1 9 rfl).trans ((hF63.1 9 rfl).trans ((hF34.1 9 rfl).trans ((hF7.1 9 rfl).trans (ex_ln1)))))) (li := li) (e_li := show G162 3 = li from ((hF169.1 3 rfl).trans ((hF63.1 3 rfl).trans ((hF34.1 3 rfl).trans ((hF7.1 3 rfl).trans ((hFx.1 3 rfl).trans (e_li))))))) (fk := fk2_167) (e_fk := show G162 16 = fk2_167 from (e173)) (tk0 := tk2_166) (e_tk0 := show G162 11 = tk2_166 from (e172))    (p_0 := by omega)) (fun o V' hq => ?_)
                    obtain ⟨G195, A196, ln2_197, fk2_198, rfl, rfl, hW199, hF200, e201, e202, q203⟩ := hq
                    have hF204 := Fr_tr hF177 hF200 (Fr_sub (by decide)) (Fr_sub (by decide))
                    have hP205 := Pf_f hP178 hF200 (by decide)
                    have hS206 := Fx_f hS179 hF200 (by decide)
                    have hV207 := Fx_f hV180 hF200 (by decide)
                    have sf208 : wB A196 Vs pb (nd) (nd1) (sy) (sy1) := (show A196 = A163 from funext (fun k => hF200.2 k rfl)) ▸ sf181
                    have ec209 : ecn A196 (G195 31) = ec1 := (ecn_f (hF200.2 15 rfl) (hF200.1 31 rfl)).trans ec182
                    have bln2_197 : (0 : Int) ≤ ln2_197 ∧ ln2_197 ≤ 3000 := e201 ▸ hW199.1 9
                    have bfk2_198 : (0 : Int) ≤ fk2_198 ∧ fk2_198 ≤ 6 := e202 ▸ hW199.1 16
                    refine .inl ⟨rfl, ?_⟩
                    rcases q203 with ⟨a210, a211, a212, a213, a214⟩ | ⟨a215, a216⟩
                    · have _q : True := trivial
                      exfalso
                      omega
                    · have _q : True := trivial
                      refine jx_ld (pc' := 101) (l' := L194) (st' := [.ref 66]) rfl (jl_aloadn gL194_0) ?_
                      refine jx_vr (pc' := 104) (as := []) (st := []) rfl rfl rfl rfl ⟨rfl, rfl, Nat.le_of_ble_eq_true rfl⟩ rfl rfl (c_bad (dd := d) (hd := by omega) (hW := hW199)  (fk := fk2_198) (e_fk := show G195 16 = fk2_198 from (e202))    ) (fun o V' hq => ?_)
                      obtain ⟨r217, rfl, rfl, b218, q219⟩ := hq
                      refine .inr ⟨_, rfl, ?_⟩
                      rcases q219 with ⟨rfl, a220⟩ | ⟨rfl, a221⟩
                      · have _q : True := trivial
                        refine jx_if_eq (pc' := 107) (tg := 108) rfl rfl rfl (by decide) (by decide) (fun h222 => ?_) (fun h222 => ?_)
                        · have _q := h222
                          exact absurd h222 (by omega)
                        · have _q := h222
                          refine jx_rt (v := none) rfl rfl rfl rfl rfl rfl ?_
                          exact ⟨_, _, ln2_197, at2_165, fk2_198, nd1, sy1, na1, vi, A 3 (ln2_197).toNat, ec1, rfl, rfl, hW199, hF204, hP205, hS206, hV207, (e201), ((hF200.1 10 rfl).trans (e171)), (e202), ((hF200.1 31 rfl).trans ((hF169.1 31 rfl).trans ((hF63.1 31 rfl).trans ((hF34.1 31 rfl).trans ((hF7.1 31 rfl).trans (ex_nd1)))))), ((hF200.1 19 rfl).trans ((hF169.1 19 rfl).trans ((hF63.1 19 rfl).trans ((hF34.1 19 rfl).trans ((hF7.1 19 rfl).trans (ex_sy1)))))), ((hF200.1 28 rfl).trans ((hF169.1 28 rfl).trans ((hF63.1 28 rfl).trans ((hF34.1 28 rfl).trans ((hF7.1 28 rfl).trans (ex_na1)))))), ((hF200.1 29 rfl).trans ((hF169.1 29 rfl).trans ((hF63.1 29 rfl).trans ((hF34.1 29 rfl).trans ((hF7.1 29 rfl).trans (fx_29)))))), (congrFun ((hF200.2 3 rfl).trans ((hF169.2 3 rfl).trans ((hF63.2 3 rfl).trans ((hF34.2 3 rfl).trans ((hF7.2 3 rfl).trans (hFx.2 3 rfl)))))) _), ec209, by omega, by omega, by omega, by omega, by omega, by omega, by first | exact Or.inl (by omega)⟩
                      · have _q : True := trivial
                        exfalso
                        omega
                  · have _q : True := trivial
                    have pz223 : at2_59 + tz tk2_166 ≤ at2_165 := by omega
                    refine jx_ld (pc' := 96) (l' := jSto1 L 2 (.int (i32 (r164)))) (st' := []) rfl rfl ?_
                    obtain ⟨L224, eL224⟩ : ∃ q, q = jSto1 L 2 (.int (i32 (r164))) := ⟨_, rfl⟩
                    rw [← eL224]
                    have gL224_0 : jGet L224 0 = some (.ref 66) := eL224 ▸ jg_ne (by decide) gL_0 rfl
                    have gL224_1 : jGet L224 1 = some (.int (i32 (many))) := eL224 ▸ jg_ne (by decide) gL_1 rfl
                    have gL224_2 : jGet L224 2 = some (.int (i32 (r164))) := eL224 ▸ jg_eq
                    refine jx_ld (pc' := 97) (l' := L224) (st' := [.ref 66]) rfl (jl_aloadn gL224_0) ?_
                    refine jx_vr (pc' := 100) (as := []) (st := []) rfl rfl rfl rfl ⟨rfl, rfl, Nat.le_of_ble_eq_true rfl⟩ rfl rfl (c_endLine (dd := d) (hd := by omega) (hW := hW168)  (ln := ln1) (e_ln := show G162 9 = ln1 from ((hF169.1 9 rfl).trans ((hF63.1 9 rfl).trans ((hF34.1 9 rfl).trans ((hF7.1 9 rfl).trans (ex_ln1)))))) (li := li) (e_li := show G162 3 = li from ((hF169.1 3 rfl).trans ((hF63.1 3 rfl).trans ((hF34.1 3 rfl).trans ((hF7.1 3 rfl).trans ((hFx.1 3 rfl).trans (e_li))))))) (fk := fk2_167) (e_fk := show G162 16 = fk2_167 from (e173)) (tk0 := tk2_166) (e_tk0 := show G162 11 = tk2_166 from (e172))    (p_0 := by omega)) (fun o V' hq => ?_)
                    obtain ⟨G225, A226, ln2_227, fk2_228, rfl, rfl, hW229, hF230, e231, e232, q233⟩ := hq
                    have hF234 := Fr_tr hF177 hF230 (Fr_sub (by decide)) (Fr_sub (by decide))
                    have hP235 := Pf_f hP178 hF230 (by decide)
                    have hS236 := Fx_f hS179 hF230 (by decide)
                    have hV237 := Fx_f hV180 hF230 (by decide)
                    have sf238 : wB A226 Vs pb (nd) (nd1) (sy) (sy1) := (show A226 = A163 from funext (fun k => hF230.2 k rfl)) ▸ sf181
                    have ec239 : ecn A226 (G225 31) = ec1 := (ecn_f (hF230.2 15 rfl) (hF230.1 31 rfl)).trans ec182
                    have bln2_227 : (0 : Int) ≤ ln2_227 ∧ ln2_227 ≤ 3000 := e231 ▸ hW229.1 9
                    have bfk2_228 : (0 : Int) ≤ fk2_228 ∧ fk2_228 ≤ 6 := e232 ▸ hW229.1 16
                    refine .inl ⟨rfl, ?_⟩
                    rcases q233 with ⟨a240, a241, a242, a243, a244⟩ | ⟨a245, a246⟩
                    · have _q : True := trivial
                      have b247 : (0 : Int) ≤ A 3 (ln2_227).toNat ∧ A 3 (ln2_227).toNat ≤ 3000 := hW.2 3 _
                      have lt248 : ln2_227 < li → A 4 (ln1).toNat < A 3 (ln2_227).toNat := fun hh => LT_nx (LT_ext (((hF230.1 3 rfl).trans ((hF169.1 3 rfl).trans ((hF63.1 3 rfl).trans ((hF34.1 3 rfl).trans ((hF7.1 3 rfl).trans (hFx.1 3 rfl))))))) (((hF230.2 3 rfl).trans ((hF169.2 3 rfl).trans ((hF63.2 3 rfl).trans ((hF34.2 3 rfl).trans ((hF7.2 3 rfl).trans (hFx.2 3 rfl))))))) (((hF230.2 4 rfl).trans ((hF169.2 4 rfl).trans ((hF63.2 4 rfl).trans ((hF34.2 4 rfl).trans ((hF7.2 4 rfl).trans (hFx.2 4 rfl))))))) i_LT) (show G225 3 = li from ((hF230.1 3 rfl).trans ((hF169.1 3 rfl).trans ((hF63.1 3 rfl).trans ((hF34.1 3 rfl).trans ((hF7.1 3 rfl).trans ((hFx.1 3 rfl).trans (e_li)))))))) (show A226 4 (ln1).toNat = A 4 (ln1).toNat from (congrFun ((hF230.2 4 rfl).trans ((hF169.2 4 rfl).trans ((hF63.2 4 rfl).trans ((hF34.2 4 rfl).trans ((hF7.2 4 rfl).trans (hFx.2 4 rfl)))))) _)) (show A226 3 (ln2_227).toNat = A 3 (ln2_227).toNat from (congrFun ((hF230.2 3 rfl).trans ((hF169.2 3 rfl).trans ((hF63.2 3 rfl).trans ((hF34.2 3 rfl).trans ((hF7.2 3 rfl).trans (hFx.2 3 rfl)))))) _)) (show ln2_227 = ln1 + 1 by omega) (by omega) hh
                      refine jx_ld (pc' := 101) (l' := L224) (st' := [.ref 66]) rfl (jl_aloadn gL224_0) ?_
                      refine jx_vr (pc' := 104) (as := []) (st := []) rfl rfl rfl rfl ⟨rfl, rfl, Nat.le_of_ble_eq_true rfl⟩ rfl rfl (c_bad (dd := d) (hd := by omega) (hW := hW229)  (fk := fk2_228) (e_fk := show G225 16 = fk2_228 from (e232))    ) (fun o V' hq => ?_)
                      obtain ⟨r249, rfl, rfl, b250, q251⟩ := hq
                      refine .inr ⟨_, rfl, ?_⟩
                      rcases q251 with ⟨rfl, a252⟩ | ⟨rfl, a253⟩
                      · have _q : True := trivial
                        exfalso
                        omega
                      · have _q : True := trivial
                        refine jx_if_eq (pc' := 107) (tg := 108) rfl rfl rfl (by decide) (by decide) (fun h254 => ?_) (fun h254 => ?_)
                        · have _q := h254
                          refine jx_ld (pc' := 109) (l' := L224) (st' := [.ref 66]) rfl (jl_aloadn gL224_0) ?_
                          refine jr_get (pc' := 112) (i := 55) (v := .ref 103) rfl rfl (by decide) rfl rfl ?_
                          refine jx_ld (pc' := 113) (l' := L224) (st' := [.int (i32 (r164)), .ref 103]) rfl (jl_iloadn gL224_2) ?_
                          refine jx_ld (pc' := 114) (l' := L224) (st' := [.ref 66, .int (i32 (r164)), .ref 103]) rfl (jl_aloadn gL224_0) ?_
                          refine jx_ar (pc' := 115) (st' := [.int (i32 (2)), .ref 66, .int (i32 (r164)), .ref 103]) rfl rfl rfl rfl ?_
                          refine jx_vr (pc' := 118) (as := [.int (i32 (2))]) (st := [.int (i32 (r164)), .ref 103]) rfl rfl rfl rfl ⟨rfl, rfl, Nat.le_of_ble_eq_true rfl⟩ rfl rfl (RPw_all X 18 (dd := d) (hd := by omega) (hW := hW229) (lv := 2) (at0 := at2_165) (ln := ln2_227) (e_ln := show G225 9 = ln2_227 from (e231)) (li := li) (e_li := show G225 3 = li from ((hF230.1 3 rfl).trans ((hF169.1 3 rfl).trans ((hF63.1 3 rfl).trans ((hF34.1 3 rfl).trans ((hF7.1 3 rfl).trans ((hFx.1 3 rfl).trans (e_li)))))))) (fk := fk2_228) (e_fk := show G225 16 = fk2_228 from (e232)) (nd := nd1) (e_nd := show G225 31 = nd1 from ((hF230.1 31 rfl).trans ((hF169.1 31 rfl).trans ((hF63.1 31 rfl).trans ((hF34.1 31 rfl).trans ((hF7.1 31 rfl).trans (ex_nd1))))))) (sy := sy1) (e_sy := show G225 19 = sy1 from ((hF230.1 19 rfl).trans ((hF169.1 19 rfl).trans ((hF63.1 19 rfl).trans ((hF34.1 19 rfl).trans ((hF7.1 19 rfl).trans (ex_sy1))))))) (na := na1) (e_na := show G225 28 = na1 from ((hF230.1 28 rfl).trans ((hF169.1 28 rfl).trans ((hF63.1 28 rfl).trans ((hF34.1 28 rfl).trans ((hF7.1 28 rfl).trans (ex_na1))))))) (vi := vi) (e_vi := show G225 29 = vi from ((hF230.1 29 rfl).trans ((hF169.1 29 rfl).trans ((hF63.1 29 rfl).trans ((hF34.1 29 rfl).trans ((hF7.1 29 rfl).trans (fx_29))))))) (lf := A 3 (ln2_227).toNat) (e_lf := show A226 3 (ln2_227).toNat = A 3 (ln2_227).toNat from (congrFun ((hF230.2 3 rfl).trans ((hF169.2 3 rfl).trans ((hF63.2 3 rfl).trans ((hF34.2 3 rfl).trans ((hF7.2 3 rfl).trans (hFx.2 3 rfl)))))) _)) (ac := at2_165) (e_ac := show G225 10 = at2_165 from ((hF230.1 10 rfl).trans (e171))) (ec := ec1) (e_ec := show ecn A226 (G225 31) = ec1 from ec239) (i_LT := (LT_ext (((hF230.1 3 rfl).trans ((hF169.1 3 rfl).trans ((hF63.1 3 rfl).trans ((hF34.1 3 rfl).trans ((hF7.1 3 rfl).trans (hFx.1 3 rfl))))))) (((hF230.2 3 rfl).trans ((hF169.2 3 rfl).trans ((hF63.2 3 rfl).trans ((hF34.2 3 rfl).trans ((hF7.2 3 rfl).trans (hFx.2 3 rfl))))))) (((hF230.2 4 rfl).trans ((hF169.2 4 rfl).trans ((hF63.2 4 rfl).trans ((hF34.2 4 rfl).trans ((hF7.2 4 rfl).trans (hFx.2 4 rfl))))))) i_LT)) (i_SV := (SV_fx i_SV e_vi (show G225 29 = vi from ((hF230.1 29 rfl).trans ((hF169.1 29 rfl).trans ((hF63.1 29 rfl).trans ((hF34.1 29 rfl).trans ((hF7.1 29 rfl).trans (fx_29))))))) (by omega) hV237)) (i_PQ := (PQ_fx i_PQ hS236 (by omega) (hF234.2 29 rfl) (hF234.2 30 rfl))) (hvb := hvb) (h_lv := ⟨(by decide), (by decide)⟩)  (p_0 := by omega) (p_1 := by omega) (p_2 := by omega) (p_3 := by omega) (p_4 := by omega) (p_5 := by omega) (p_6 := by omega) (p_7 := by omega) (p_8 := by omega) (p_9 := by omega) (p_10 := by omega)) (fun o V' hq => ?_)
                          obtain ⟨G255, A256, r257, ln2_258, at2_259, fk2_260, nd2_261, sy2_262, na2_263, vi2_264, lf2_265, ec2_266, rfl, rfl, hW267, hF268, hQ269, hQ270, hQ271, b272, e273, e274, e275, e276, e277, e278, e279, e280, e281, p282, p283, p284, p285, p286, p287, p288, p289, p290, q291⟩ := hq
                          have hF292 := Fr_tr hF234 hF268 (Fr_sub (by decide)) (Fr_sub (by decide))
                          have hP293 := Pf_tr hP235 hQ269 (by omega)
                          have hS294 := Fx_tr hS236 hQ270 (by omega)
                          have hV295 := Fx_tr hV237 hQ271 (by omega)
                          have sf296 : wB A256 Vs pb (nd) (nd1) (sy) (sy1) := wB_fx (fun k j hk hj => hQ269 k j hk (by omega)) (Fx_su hQ270 (by omega)) (Qg_fx (Fx_f (w := pb) Fx_rf hF268 (by decide)) (by omega)) (hF268.2 36 rfl) (by omega) sf238
                          have bln2_258 : (0 : Int) ≤ ln2_258 ∧ ln2_258 ≤ 3000 := e273 ▸ hW267.1 9
                          have bat2_259 : (0 : Int) ≤ at2_259 ∧ at2_259 ≤ 3002 := e274 ▸ hW267.1 10
                          have bfk2_260 : (0 : Int) ≤ fk2_260 ∧ fk2_260 ≤ 6 := e275 ▸ hW267.1 16
                          have bnd2_261 : (0 : Int) ≤ nd2_261 ∧ nd2_261 ≤ 6999 := e276 ▸ hW267.1 31
                          have bsy2_262 : (0 : Int) ≤ sy2_262 ∧ sy2_262 ≤ 202 := e277 ▸ hW267.1 19
                          have bna2_263 : (0 : Int) ≤ na2_263 ∧ na2_263 ≤ 200 := e278 ▸ hW267.1 28
                          have bvi2_264 : (0 : Int) ≤ vi2_264 ∧ vi2_264 ≤ 202 := e279 ▸ hW267.1 29
                          have blf2_265 : (0 : Int) ≤ lf2_265 ∧ lf2_265 ≤ 3000 := e280 ▸ hW267.2 3 _
                          refine .inr ⟨_, rfl, ?_⟩
                          rcases q291 with ⟨a297, a298⟩ | ⟨a299, a300, a301, a302, a303, a304, a305, a306, a307, a308⟩
                          · have _q : True := trivial
                            refine jr_st (pc' := 119) (i := 36) (m := 6) (z := r164) (y := r257) rfl (by decide) rfl (by decide) (by omega) (by omega) rfl ?_
                            have hW310 : Wk G255 (uA A256 36 (r164).toNat (r257)) := Wk_a hW267 (show (-2147483648 : Int) ≤ r257 by omega) (show r257 ≤ (2147483647 : Int) by omega)
                            have hF311 := Fr_a (z := r257) (k := 36) (n := (r164).toNat) hF292 (by decide)
                            obtain ⟨A309, eA309⟩ : ∃ q, q = uA A256 36 (r164).toNat (r257) := ⟨_, rfl⟩
                            rw [← eA309]
                            rw [← eA309] at hW310 hF311
                            have q312 : A309 36 (r164).toNat = r257 := by rw [eA309]; exact uA_eq
                            have hP313 : Pf nd A A309 := eA309 ▸ Pf_n hP293 rfl
                            have hS314 : Fx sr (sy) A A309 := eA309 ▸ Fx_n hS294 rfl
                            have hV315 : Fx [14] (vi) A A309 := eA309 ▸ Fx_n hV295 rfl
                            have ec316 : ecn A309 (G255 31) = ec2_266 := (ecn_e ((congrFun eA309 15).trans (uA_ne (by decide)))).trans e281
                            refine jx_inc (pc' := 122) (l' := jSto1 L224 1 (.int (i32 ((many + (1)))))) (x := many) rfl gL224_1 (by decide) rfl rfl ?_
                            obtain ⟨L317, eL317⟩ : ∃ q, q = jSto1 L224 1 (.int (i32 ((many + (1))))) := ⟨_, rfl⟩
                            rw [← eL317]
                            have gL317_0 : jGet L317 0 = some (.ref 66) := eL317 ▸ jg_ne (by decide) gL224_0 rfl
                            have gL317_2 : jGet L317 2 = some (.int (i32 (r164))) := eL317 ▸ jg_ne (by decide) gL224_2 rfl
                            have gL317_1 : jGet L317 1 = some (.int (i32 ((many + (1))))) := eL317 ▸ jg_eq
                            refine jx_go (tg := 19) rfl rfl ?_
                            refine jx_ld (pc' := 20) (l' := L317) (st' := [.ref 66]) rfl (jl_aloadn gL317_0) ?_
                            refine jx_ar (pc' := 21) (st' := [.int (i32 (0)), .ref 66]) rfl rfl rfl rfl ?_
                            have b318 : (-1 : Int) ≤ A 5 (ln2_258).toNat ∧ A 5 (ln2_258).toNat ≤ 15 := hW.2 5 _
                            refine jx_vr (pc' := 24) (as := [.int (i32 (0))]) (st := []) rfl rfl rfl rfl ⟨rfl, rfl, Nat.le_of_ble_eq_true rfl⟩ rfl rfl (c_isBelow (dd := d) (hd := by omega) (hW := hW310) (lv := 0) (ln := ln2_258) (e_ln := show G255 9 = ln2_258 from (e273)) (li := li) (e_li := show G255 3 = li from ((hF268.1 3 rfl).trans ((hF230.1 3 rfl).trans ((hF169.1 3 rfl).trans ((hF63.1 3 rfl).trans ((hF34.1 3 rfl).trans ((hF7.1 3 rfl).trans ((hFx.1 3 rfl).trans (e_li))))))))) (fk := fk2_260) (e_fk := show G255 16 = fk2_260 from (e275)) (ll := A 5 (ln2_258).toNat) (e_ll := show A309 5 (ln2_258).toNat = A 5 (ln2_258).toNat from (congrFun (((congrFun eA309 5).trans (uA_ne (by decide))).trans ((hF268.2 5 rfl).trans ((hF230.2 5 rfl).trans ((hF169.2 5 rfl).trans ((hF63.2 5 rfl).trans ((hF34.2 5 rfl).trans ((hF7.2 5 rfl).trans (hFx.2 5 rfl)))))))) _))  (h_lv := ⟨(by decide), (by decide)⟩)  (p_0 := by omega)) (fun o V' hq => ?_)
                            obtain ⟨G319, A320, r321, fk2_322, rfl, rfl, hW323, hF324, b325, e326, q327⟩ := hq
                            have hF328 := Fr_tr hF311 hF324 (Fr_sub (by decide)) (Fr_sub (by decide))
                            have hP329 := Pf_f hP313 hF324 (by decide)
                            have hS330 := Fx_f hS314 hF324 (by decide)
                            have hV331 := Fx_f hV315 hF324 (by decide)
                            have ec332 : ecn A320 (G319 31) = ec2_266 := (ecn_f (hF324.2 15 rfl) (hF324.1 31 rfl)).trans ec316
                            have bfk2_322 : (0 : Int) ≤ fk2_322 ∧ fk2_322 ≤ 6 := e326 ▸ hW323.1 16
                            refine .inr ⟨_, rfl, ?_⟩
                            rcases q327 with ⟨rfl, a333, a334, a335, a336⟩ | ⟨rfl, a337⟩ | ⟨rfl, a338, a339, a340⟩
                            · have _q : True := trivial
                              exfalso
                              omega
                            · have _q : True := trivial
                              refine jx_if_eq (pc' := 27) (tg := 125) rfl rfl rfl (by decide) (by decide) (fun h341 => ?_) (fun h341 => ?_)
                              · have _q := h341
                                refine jx_ld (pc' := 126) (l' := L317) (st' := [.ref 66]) rfl (jl_aloadn gL317_0) ?_
                                refine jx_vr (pc' := 129) (as := []) (st := []) rfl rfl rfl rfl ⟨rfl, rfl, Nat.le_of_ble_eq_true rfl⟩ rfl rfl (c_bad (dd := d) (hd := by omega) (hW := hW323)  (fk := fk2_322) (e_fk := show G319 16 = fk2_322 from (e326))    ) (fun o V' hq => ?_)
                                obtain ⟨r342, rfl, rfl, b343, q344⟩ := hq
                                refine .inr ⟨_, rfl, ?_⟩
                                rcases q344 with ⟨rfl, a345⟩ | ⟨rfl, a346⟩
                                · have _q : True := trivial
                                  refine jx_if_ne (pc' := 132) (tg := 142) rfl rfl rfl (by decide) (by decide) (fun h347 => ?_) (fun h347 => ?_)
                                  · have _q := h347
                                    refine jx_rt (v := none) rfl rfl rfl rfl rfl rfl ?_
                                    exact ⟨_, _, ln2_258, at2_259, fk2_322, nd2_261, sy2_262, na2_263, vi2_264, lf2_265, ec2_266, rfl, rfl, hW323, hF328, hP329, hS330, hV331, ((hF324.1 9 rfl).trans (e273)), ((hF324.1 10 rfl).trans (e274)), (e326), ((hF324.1 31 rfl).trans (e276)), ((hF324.1 19 rfl).trans (e277)), ((hF324.1 28 rfl).trans (e278)), ((hF324.1 29 rfl).trans (e279)), (congrFun ((hF324.2 3 rfl).trans ((congrFun eA309 3).trans (uA_ne (by decide)))) _).trans (e280), ec332, by omega, by omega, by omega, by omega, by omega, by omega, by first | exact Or.inl (by omega)⟩
                                  · have _q := h347
                                    exact absurd h347 (by omega)
                                · have _q : True := trivial
                                  exfalso
                                  omega
                              · have _q := h341
                                exact absurd h341 (by omega)
                            · have _q : True := trivial
                              exfalso
                              omega
                          · have _q : True := trivial
                            refine jr_st (pc' := 119) (i := 36) (m := 6) (z := r164) (y := r257) rfl (by decide) rfl (by decide) (by omega) (by omega) rfl ?_
                            have hW349 : Wk G255 (uA A256 36 (r164).toNat (r257)) := Wk_a hW267 (show (-2147483648 : Int) ≤ r257 by omega) (show r257 ≤ (2147483647 : Int) by omega)
                            have hF350 := Fr_a (z := r257) (k := 36) (n := (r164).toNat) hF292 (by decide)
                            obtain ⟨A348, eA348⟩ : ∃ q, q = uA A256 36 (r164).toNat (r257) := ⟨_, rfl⟩
                            rw [← eA348]
                            rw [← eA348] at hW349 hF350
                            have q351 : A348 36 (r164).toNat = r257 := by rw [eA348]; exact uA_eq
                            have hP352 : Pf nd A A348 := eA348 ▸ Pf_n hP293 rfl
                            have hS353 : Fx sr (sy) A A348 := eA348 ▸ Fx_n hS294 rfl
                            have hV354 : Fx [14] (vi) A A348 := eA348 ▸ Fx_n hV295 rfl
                            have sf355 : wB A348 Vs pb (nd) (nd2_261) (sy) (sy2_262) := wB_add eA348 sf296 (by omega) (by omega) (by omega) a305 (by omega) (by omega) rfl (by omega) (by omega) (by omega) (by omega) rfl
                            have sf356 : wP A348 (sy2_262) pb (18) (Vs) (r257) (nd1) (nd2_261) (sy1) (sy2_262) := wP_ag (Sg_ne eA348 rfl) (Qg_ne eA348 rfl) (by omega) (by omega) (Ax_ag (Ag_ne eA348 rfl)) a305
                            have sf357 : NX A348 (r257) := NX_r eA348 (by decide) a306
                            have ec358 : ecn A348 (G255 31) = ec2_266 := (ecn_e ((congrFun eA348 15).trans (uA_ne (by decide)))).trans e281
                            refine jx_inc (pc' := 122) (l' := jSto1 L224 1 (.int (i32 ((many + (1)))))) (x := many) rfl gL224_1 (by decide) rfl rfl ?_
                            obtain ⟨L359, eL359⟩ : ∃ q, q = jSto1 L224 1 (.int (i32 ((many + (1))))) := ⟨_, rfl⟩
                            rw [← eL359]
                            have gL359_0 : jGet L359 0 = some (.ref 66) := eL359 ▸ jg_ne (by decide) gL224_0 rfl
                            have gL359_2 : jGet L359 2 = some (.int (i32 (r164))) := eL359 ▸ jg_ne (by decide) gL224_2 rfl
                            have gL359_1 : jGet L359 1 = some (.int (i32 ((many + (1))))) := eL359 ▸ jg_eq
                            refine jx_go (tg := 19) rfl rfl ?_
                            exact ih19 _ (by omega) L359 G255 A348 ((many + (1))) (ln2_258) (at2_259) (fk2_260) (nd2_261) (sy2_262) (na2_263) (lf2_265) (ec2_266) rfl gL359_0 gL359_1 hW349 hF350 hP352 hS353 hV354 ((e273)) ((e274)) ((e275)) ((e276)) ((e277)) ((e278)) ((congrFun ((congrFun eA348 3).trans (uA_ne (by decide))) _).trans (e280)) (ec358) (Eq.trans (show G255 29 = vi2_264 from (e279)) (by omega)) (by omega) (by omega) (by omega) (by omega) (by omega) (by omega) (by omega) (by omega) (by omega) (by omega) (by omega) (by omega) (sf355) (by omega) (by omega)
                        · have _q := h254
                          exact absurd h254 (by omega)
                    · have _q : True := trivial
                      refine jx_ld (pc' := 101) (l' := L224) (st' := [.ref 66]) rfl (jl_aloadn gL224_0) ?_
                      refine jx_vr (pc' := 104) (as := []) (st := []) rfl rfl rfl rfl ⟨rfl, rfl, Nat.le_of_ble_eq_true rfl⟩ rfl rfl (c_bad (dd := d) (hd := by omega) (hW := hW229)  (fk := fk2_228) (e_fk := show G225 16 = fk2_228 from (e232))    ) (fun o V' hq => ?_)
                      obtain ⟨r360, rfl, rfl, b361, q362⟩ := hq
                      refine .inr ⟨_, rfl, ?_⟩
                      rcases q362 with ⟨rfl, a363⟩ | ⟨rfl, a364⟩
                      · have _q : True := trivial
                        refine jx_if_eq (pc' := 107) (tg := 108) rfl rfl rfl (by decide) (by decide) (fun h365 => ?_) (fun h365 => ?_)
                        · have _q := h365
                          exact absurd h365 (by omega)
                        · have _q := h365
                          refine jx_rt (v := none) rfl rfl rfl rfl rfl rfl ?_
                          exact ⟨_, _, ln2_227, at2_165, fk2_228, nd1, sy1, na1, vi, A 3 (ln2_227).toNat, ec1, rfl, rfl, hW229, hF234, hP235, hS236, hV237, (e231), ((hF230.1 10 rfl).trans (e171)), (e232), ((hF230.1 31 rfl).trans ((hF169.1 31 rfl).trans ((hF63.1 31 rfl).trans ((hF34.1 31 rfl).trans ((hF7.1 31 rfl).trans (ex_nd1)))))), ((hF230.1 19 rfl).trans ((hF169.1 19 rfl).trans ((hF63.1 19 rfl).trans ((hF34.1 19 rfl).trans ((hF7.1 19 rfl).trans (ex_sy1)))))), ((hF230.1 28 rfl).trans ((hF169.1 28 rfl).trans ((hF63.1 28 rfl).trans ((hF34.1 28 rfl).trans ((hF7.1 28 rfl).trans (ex_na1)))))), ((hF230.1 29 rfl).trans ((hF169.1 29 rfl).trans ((hF63.1 29 rfl).trans ((hF34.1 29 rfl).trans ((hF7.1 29 rfl).trans (fx_29)))))), (congrFun ((hF230.2 3 rfl).trans ((hF169.2 3 rfl).trans ((hF63.2 3 rfl).trans ((hF34.2 3 rfl).trans ((hF7.2 3 rfl).trans (hFx.2 3 rfl)))))) _), ec239, by omega, by omega, by omega, by omega, by omega, by omega, by first | exact Or.inl (by omega)⟩
                      · have _q : True := trivial
                        exfalso
                        omega
                · have _q := h160
                  refine jx_ld (pc' := 57) (l' := L) (st' := [.ref 66]) rfl (jl_aloadn gL_0) ?_
                  have b366 : (-2147483648 : Int) ≤ G57 13 ∧ G57 13 ≤ 2147483647 := hW62.1 13
                  refine jr_get (pc' := 60) (i := 13) (v := .int (i32 (G57 13))) rfl rfl (by decide) rfl rfl ?_
                  refine jx_ar (pc' := 61) (st' := [.int (i32 (0)), .int (i32 (G57 13))]) rfl rfl rfl rfl ?_
                  refine jx_ar (pc' := 62) (st' := [.int (i32 (5)), .int (i32 (0)), .int (i32 (G57 13))]) rfl rfl rfl rfl ?_
                  refine jx_st (pc' := 65) (as := [.int (i32 (G57 13)), .int (i32 (0)), .int (i32 (5))]) (st := []) rfl rfl ⟨rfl, Nat.le_of_ble_eq_true rfl⟩ rfl rfl rfl (c_in (dd := d) (hd := by omega) (v := G57 13) (a := 0) (b := 5)   (h_v := ⟨(Int.le_trans (by decide : (-2147483648 : Int) ≤ -2147483648) b366.1), (Int.le_trans b366.2 (by decide : (2147483647 : Int) ≤ 2147483647))⟩) (h_a := ⟨(by decide), (by decide)⟩) (h_b := ⟨(by decide), (by decide)⟩)  ) (fun o V' hq => ?_)
                  obtain ⟨r367, rfl, rfl, b368, q369⟩ := hq
                  refine .inr ⟨_, rfl, ?_⟩
                  rcases q369 with ⟨rfl, a370, a371⟩ | ⟨rfl, a372⟩
                  · have _q : True := trivial
                    refine jx_if_eq (pc' := 68) (tg := 89) rfl rfl rfl (by decide) (by decide) (fun h373 => ?_) (fun h373 => ?_)
                    · have _q := h373
                      exact absurd h373 (by omega)
                    · have _q := h373
                      refine jx_ld (pc' := 69) (l' := L) (st' := [.ref 66]) rfl (jl_aloadn gL_0) ?_
                      refine jr_get (pc' := 72) (i := 55) (v := .ref 103) rfl rfl (by decide) rfl rfl ?_
                      refine jx_ld (pc' := 73) (l' := L) (st' := [.ref 66, .ref 103]) rfl (jl_aloadn gL_0) ?_
                      refine jr_get (pc' := 76) (i := 13) (v := .int (i32 (G57 13))) rfl rfl (by decide) rfl rfl ?_
                      have _q : True := trivial
                      have b374 : (-2147483648 : Int) ≤ Ax 36 (G57 13).toNat ∧ Ax 36 (G57 13).toNat ≤ 2147483647 := hWx.2 36 _
                      refine jr_ldv (pc' := 77) (i := 36) (m := 6) (z := G57 13) (y := Ax 36 (G57 13).toNat) rfl (by decide) rfl (by decide) (by omega) (by omega) rfl (show A58 36 (G57 13).toNat = Ax 36 (G57 13).toNat from (congrFun ((hF63.2 36 rfl).trans ((hF34.2 36 rfl).trans (hF7.2 36 rfl))) _)) ?_
                      refine jx_if_le (pc' := 80) (tg := 89) rfl rfl rfl (Int.le_trans (by decide : (-2147483648 : Int) ≤ -2147483648) b374.1) (Int.le_trans b374.2 (by decide : (2147483647 : Int) ≤ 2147483647)) (fun h375 => ?_) (fun h375 => ?_)
                      · have _q := h375
                        refine jx_ld (pc' := 90) (l' := L) (st' := [.ref 66]) rfl (jl_aloadn gL_0) ?_
                        refine jx_ar (pc' := 91) (st' := [.int (i32 (0)), .ref 66]) rfl rfl rfl rfl ?_
                        refine jx_ar (pc' := 92) (st' := [.int (i32 (5)), .int (i32 (0)), .ref 66]) rfl rfl rfl rfl ?_
                        refine jx_vr (pc' := 95) (as := [.int (i32 (0)), .int (i32 (5))]) (st := []) rfl rfl rfl rfl ⟨rfl, rfl, Nat.le_of_ble_eq_true rfl⟩ rfl rfl (c_needNumber2 (dd := d) (hd := by omega) (hW := hW62) (lo := 0) (hi := 5) (ln := ln1) (e_ln := show G57 9 = ln1 from ((hF63.1 9 rfl).trans ((hF34.1 9 rfl).trans ((hF7.1 9 rfl).trans (ex_ln1))))) (le := A 4 (ln1).toNat) (e_le := show A58 4 (ln1).toNat = A 4 (ln1).toNat from (congrFun ((hF63.2 4 rfl).trans ((hF34.2 4 rfl).trans ((hF7.2 4 rfl).trans (hFx.2 4 rfl)))) _)) (at0 := at2_59) (e_at0 := show G57 10 = at2_59 from (e64)) (fk := fk2_61) (e_fk := show G57 16 = fk2_61 from (e66)) (tk0 := tk2_60) (e_tk0 := show G57 11 = tk2_60 from (e65)) (tn := G57 13) (e_tn := show G57 13 = G57 13 from rfl)  (h_lo := ⟨(by decide), (by decide)⟩) (h_hi := ⟨(by decide), (by decide)⟩)  (p_0 := by omega)) (fun o V' hq => ?_)
                        obtain ⟨G376, A377, r378, at2_379, tk2_380, fk2_381, rfl, rfl, hW382, hF383, b384, e385, e386, e387, p388, p389, q390⟩ := hq
                        have hF391 := Fr_tr hF70 hF383 (Fr_sub (by decide)) (Fr_sub (by decide))
                        have hP392 := Pf_f hP71 hF383 (by decide)
                        have hS393 := Fx_f hS72 hF383 (by decide)
                        have hV394 := Fx_f hV73 hF383 (by decide)
                        have sf395 : wB A377 Vs pb (nd) (nd1) (sy) (sy1) := (show A377 = A58 from funext (fun k => hF383.2 k rfl)) ▸ sf74
                        have ec396 : ecn A377 (G376 31) = ec1 := (ecn_f (hF383.2 15 rfl) (hF383.1 31 rfl)).trans ec75
                        have bat2_379 : (0 : Int) ≤ at2_379 ∧ at2_379 ≤ 3002 := e385 ▸ hW382.1 10
                        have ztk2_380 := tz_b tk2_380
                        have btk2_380 : (0 : Int) ≤ tk2_380 ∧ tk2_380 ≤ 5 := e386 ▸ hW382.1 11
                        have bfk2_381 : (0 : Int) ≤ fk2_381 ∧ fk2_381 ≤ 6 := e387 ▸ hW382.1 16
                        refine .inr ⟨_, rfl, ?_⟩
                        rcases q390 with ⟨a397, a398, a399, a400⟩ | ⟨a401, a402, a403, a404, a405, a406, a407⟩
                        · have _q : True := trivial
                          refine jx_ld (pc' := 96) (l' := jSto1 L 2 (.int (i32 (r378)))) (st' := []) rfl rfl ?_
                          obtain ⟨L408, eL408⟩ : ∃ q, q = jSto1 L 2 (.int (i32 (r378))) := ⟨_, rfl⟩
                          rw [← eL408]
                          have gL408_0 : jGet L408 0 = some (.ref 66) := eL408 ▸ jg_ne (by decide) gL_0 rfl
                          have gL408_1 : jGet L408 1 = some (.int (i32 (many))) := eL408 ▸ jg_ne (by decide) gL_1 rfl
                          have gL408_2 : jGet L408 2 = some (.int (i32 (r378))) := eL408 ▸ jg_eq
                          refine jx_ld (pc' := 97) (l' := L408) (st' := [.ref 66]) rfl (jl_aloadn gL408_0) ?_
                          refine jx_vr (pc' := 100) (as := []) (st := []) rfl rfl rfl rfl ⟨rfl, rfl, Nat.le_of_ble_eq_true rfl⟩ rfl rfl (c_endLine (dd := d) (hd := by omega) (hW := hW382)  (ln := ln1) (e_ln := show G376 9 = ln1 from ((hF383.1 9 rfl).trans ((hF63.1 9 rfl).trans ((hF34.1 9 rfl).trans ((hF7.1 9 rfl).trans (ex_ln1)))))) (li := li) (e_li := show G376 3 = li from ((hF383.1 3 rfl).trans ((hF63.1 3 rfl).trans ((hF34.1 3 rfl).trans ((hF7.1 3 rfl).trans ((hFx.1 3 rfl).trans (e_li))))))) (fk := fk2_381) (e_fk := show G376 16 = fk2_381 from (e387)) (tk0 := tk2_380) (e_tk0 := show G376 11 = tk2_380 from (e386))    (p_0 := by omega)) (fun o V' hq => ?_)
                          obtain ⟨G409, A410, ln2_411, fk2_412, rfl, rfl, hW413, hF414, e415, e416, q417⟩ := hq
                          have hF418 := Fr_tr hF391 hF414 (Fr_sub (by decide)) (Fr_sub (by decide))
                          have hP419 := Pf_f hP392 hF414 (by decide)
                          have hS420 := Fx_f hS393 hF414 (by decide)
                          have hV421 := Fx_f hV394 hF414 (by decide)
                          have sf422 : wB A410 Vs pb (nd) (nd1) (sy) (sy1) := (show A410 = A377 from funext (fun k => hF414.2 k rfl)) ▸ sf395
                          have ec423 : ecn A410 (G409 31) = ec1 := (ecn_f (hF414.2 15 rfl) (hF414.1 31 rfl)).trans ec396
                          have bln2_411 : (0 : Int) ≤ ln2_411 ∧ ln2_411 ≤ 3000 := e415 ▸ hW413.1 9
                          have bfk2_412 : (0 : Int) ≤ fk2_412 ∧ fk2_412 ≤ 6 := e416 ▸ hW413.1 16
                          refine .inl ⟨rfl, ?_⟩
                          rcases q417 with ⟨a424, a425, a426, a427, a428⟩ | ⟨a429, a430⟩
                          · have _q : True := trivial
                            exfalso
                            omega
                          · have _q : True := trivial
                            refine jx_ld (pc' := 101) (l' := L408) (st' := [.ref 66]) rfl (jl_aloadn gL408_0) ?_
                            refine jx_vr (pc' := 104) (as := []) (st := []) rfl rfl rfl rfl ⟨rfl, rfl, Nat.le_of_ble_eq_true rfl⟩ rfl rfl (c_bad (dd := d) (hd := by omega) (hW := hW413)  (fk := fk2_412) (e_fk := show G409 16 = fk2_412 from (e416))    ) (fun o V' hq => ?_)
                            obtain ⟨r431, rfl, rfl, b432, q433⟩ := hq
                            refine .inr ⟨_, rfl, ?_⟩
                            rcases q433 with ⟨rfl, a434⟩ | ⟨rfl, a435⟩
                            · have _q : True := trivial
                              refine jx_if_eq (pc' := 107) (tg := 108) rfl rfl rfl (by decide) (by decide) (fun h436 => ?_) (fun h436 => ?_)
                              · have _q := h436
                                exact absurd h436 (by omega)
                              · have _q := h436
                                refine jx_rt (v := none) rfl rfl rfl rfl rfl rfl ?_
                                exact ⟨_, _, ln2_411, at2_379, fk2_412, nd1, sy1, na1, vi, A 3 (ln2_411).toNat, ec1, rfl, rfl, hW413, hF418, hP419, hS420, hV421, (e415), ((hF414.1 10 rfl).trans (e385)), (e416), ((hF414.1 31 rfl).trans ((hF383.1 31 rfl).trans ((hF63.1 31 rfl).trans ((hF34.1 31 rfl).trans ((hF7.1 31 rfl).trans (ex_nd1)))))), ((hF414.1 19 rfl).trans ((hF383.1 19 rfl).trans ((hF63.1 19 rfl).trans ((hF34.1 19 rfl).trans ((hF7.1 19 rfl).trans (ex_sy1)))))), ((hF414.1 28 rfl).trans ((hF383.1 28 rfl).trans ((hF63.1 28 rfl).trans ((hF34.1 28 rfl).trans ((hF7.1 28 rfl).trans (ex_na1)))))), ((hF414.1 29 rfl).trans ((hF383.1 29 rfl).trans ((hF63.1 29 rfl).trans ((hF34.1 29 rfl).trans ((hF7.1 29 rfl).trans (fx_29)))))), (congrFun ((hF414.2 3 rfl).trans ((hF383.2 3 rfl).trans ((hF63.2 3 rfl).trans ((hF34.2 3 rfl).trans ((hF7.2 3 rfl).trans (hFx.2 3 rfl)))))) _), ec423, by omega, by omega, by omega, by omega, by omega, by omega, by first | exact Or.inl (by omega)⟩
                            · have _q : True := trivial
                              exfalso
                              omega
                        · have _q : True := trivial
                          have pz437 : at2_59 + tz tk2_380 ≤ at2_379 := by omega
                          refine jx_ld (pc' := 96) (l' := jSto1 L 2 (.int (i32 (r378)))) (st' := []) rfl rfl ?_
                          obtain ⟨L438, eL438⟩ : ∃ q, q = jSto1 L 2 (.int (i32 (r378))) := ⟨_, rfl⟩
                          rw [← eL438]
                          have gL438_0 : jGet L438 0 = some (.ref 66) := eL438 ▸ jg_ne (by decide) gL_0 rfl
                          have gL438_1 : jGet L438 1 = some (.int (i32 (many))) := eL438 ▸ jg_ne (by decide) gL_1 rfl
                          have gL438_2 : jGet L438 2 = some (.int (i32 (r378))) := eL438 ▸ jg_eq
                          refine jx_ld (pc' := 97) (l' := L438) (st' := [.ref 66]) rfl (jl_aloadn gL438_0) ?_
                          refine jx_vr (pc' := 100) (as := []) (st := []) rfl rfl rfl rfl ⟨rfl, rfl, Nat.le_of_ble_eq_true rfl⟩ rfl rfl (c_endLine (dd := d) (hd := by omega) (hW := hW382)  (ln := ln1) (e_ln := show G376 9 = ln1 from ((hF383.1 9 rfl).trans ((hF63.1 9 rfl).trans ((hF34.1 9 rfl).trans ((hF7.1 9 rfl).trans (ex_ln1)))))) (li := li) (e_li := show G376 3 = li from ((hF383.1 3 rfl).trans ((hF63.1 3 rfl).trans ((hF34.1 3 rfl).trans ((hF7.1 3 rfl).trans ((hFx.1 3 rfl).trans (e_li))))))) (fk := fk2_381) (e_fk := show G376 16 = fk2_381 from (e387)) (tk0 := tk2_380) (e_tk0 := show G376 11 = tk2_380 from (e386))    (p_0 := by omega)) (fun o V' hq => ?_)
                          obtain ⟨G439, A440, ln2_441, fk2_442, rfl, rfl, hW443, hF444, e445, e446, q447⟩ := hq
                          have hF448 := Fr_tr hF391 hF444 (Fr_sub (by decide)) (Fr_sub (by decide))
                          have hP449 := Pf_f hP392 hF444 (by decide)
                          have hS450 := Fx_f hS393 hF444 (by decide)
                          have hV451 := Fx_f hV394 hF444 (by decide)
                          have sf452 : wB A440 Vs pb (nd) (nd1) (sy) (sy1) := (show A440 = A377 from funext (fun k => hF444.2 k rfl)) ▸ sf395
                          have ec453 : ecn A440 (G439 31) = ec1 := (ecn_f (hF444.2 15 rfl) (hF444.1 31 rfl)).trans ec396
                          have bln2_441 : (0 : Int) ≤ ln2_441 ∧ ln2_441 ≤ 3000 := e445 ▸ hW443.1 9
                          have bfk2_442 : (0 : Int) ≤ fk2_442 ∧ fk2_442 ≤ 6 := e446 ▸ hW443.1 16
                          refine .inl ⟨rfl, ?_⟩
                          rcases q447 with ⟨a454, a455, a456, a457, a458⟩ | ⟨a459, a460⟩
                          · have _q : True := trivial
                            have b461 : (0 : Int) ≤ A 3 (ln2_441).toNat ∧ A 3 (ln2_441).toNat ≤ 3000 := hW.2 3 _
                            have lt462 : ln2_441 < li → A 4 (ln1).toNat < A 3 (ln2_441).toNat := fun hh => LT_nx (LT_ext (((hF444.1 3 rfl).trans ((hF383.1 3 rfl).trans ((hF63.1 3 rfl).trans ((hF34.1 3 rfl).trans ((hF7.1 3 rfl).trans (hFx.1 3 rfl))))))) (((hF444.2 3 rfl).trans ((hF383.2 3 rfl).trans ((hF63.2 3 rfl).trans ((hF34.2 3 rfl).trans ((hF7.2 3 rfl).trans (hFx.2 3 rfl))))))) (((hF444.2 4 rfl).trans ((hF383.2 4 rfl).trans ((hF63.2 4 rfl).trans ((hF34.2 4 rfl).trans ((hF7.2 4 rfl).trans (hFx.2 4 rfl))))))) i_LT) (show G439 3 = li from ((hF444.1 3 rfl).trans ((hF383.1 3 rfl).trans ((hF63.1 3 rfl).trans ((hF34.1 3 rfl).trans ((hF7.1 3 rfl).trans ((hFx.1 3 rfl).trans (e_li)))))))) (show A440 4 (ln1).toNat = A 4 (ln1).toNat from (congrFun ((hF444.2 4 rfl).trans ((hF383.2 4 rfl).trans ((hF63.2 4 rfl).trans ((hF34.2 4 rfl).trans ((hF7.2 4 rfl).trans (hFx.2 4 rfl)))))) _)) (show A440 3 (ln2_441).toNat = A 3 (ln2_441).toNat from (congrFun ((hF444.2 3 rfl).trans ((hF383.2 3 rfl).trans ((hF63.2 3 rfl).trans ((hF34.2 3 rfl).trans ((hF7.2 3 rfl).trans (hFx.2 3 rfl)))))) _)) (show ln2_441 = ln1 + 1 by omega) (by omega) hh
                            refine jx_ld (pc' := 101) (l' := L438) (st' := [.ref 66]) rfl (jl_aloadn gL438_0) ?_
                            refine jx_vr (pc' := 104) (as := []) (st := []) rfl rfl rfl rfl ⟨rfl, rfl, Nat.le_of_ble_eq_true rfl⟩ rfl rfl (c_bad (dd := d) (hd := by omega) (hW := hW443)  (fk := fk2_442) (e_fk := show G439 16 = fk2_442 from (e446))    ) (fun o V' hq => ?_)
                            obtain ⟨r463, rfl, rfl, b464, q465⟩ := hq
                            refine .inr ⟨_, rfl, ?_⟩
                            rcases q465 with ⟨rfl, a466⟩ | ⟨rfl, a467⟩
                            · have _q : True := trivial
                              exfalso
                              omega
                            · have _q : True := trivial
                              refine jx_if_eq (pc' := 107) (tg := 108) rfl rfl rfl (by decide) (by decide) (fun h468 => ?_) (fun h468 => ?_)
                              · have _q := h468
                                refine jx_ld (pc' := 109) (l' := L438) (st' := [.ref 66]) rfl (jl_aloadn gL438_0) ?_
                                refine jr_get (pc' := 112) (i := 55) (v := .ref 103) rfl rfl (by decide) rfl rfl ?_
                                refine jx_ld (pc' := 113) (l' := L438) (st' := [.int (i32 (r378)), .ref 103]) rfl (jl_iloadn gL438_2) ?_
                                refine jx_ld (pc' := 114) (l' := L438) (st' := [.ref 66, .int (i32 (r378)), .ref 103]) rfl (jl_aloadn gL438_0) ?_
                                refine jx_ar (pc' := 115) (st' := [.int (i32 (2)), .ref 66, .int (i32 (r378)), .ref 103]) rfl rfl rfl rfl ?_
                                refine jx_vr (pc' := 118) (as := [.int (i32 (2))]) (st := [.int (i32 (r378)), .ref 103]) rfl rfl rfl rfl ⟨rfl, rfl, Nat.le_of_ble_eq_true rfl⟩ rfl rfl (RPw_all X 18 (dd := d) (hd := by omega) (hW := hW443) (lv := 2) (at0 := at2_379) (ln := ln2_441) (e_ln := show G439 9 = ln2_441 from (e445)) (li := li) (e_li := show G439 3 = li from ((hF444.1 3 rfl).trans ((hF383.1 3 rfl).trans ((hF63.1 3 rfl).trans ((hF34.1 3 rfl).trans ((hF7.1 3 rfl).trans ((hFx.1 3 rfl).trans (e_li)))))))) (fk := fk2_442) (e_fk := show G439 16 = fk2_442 from (e446)) (nd := nd1) (e_nd := show G439 31 = nd1 from ((hF444.1 31 rfl).trans ((hF383.1 31 rfl).trans ((hF63.1 31 rfl).trans ((hF34.1 31 rfl).trans ((hF7.1 31 rfl).trans (ex_nd1))))))) (sy := sy1) (e_sy := show G439 19 = sy1 from ((hF444.1 19 rfl).trans ((hF383.1 19 rfl).trans ((hF63.1 19 rfl).trans ((hF34.1 19 rfl).trans ((hF7.1 19 rfl).trans (ex_sy1))))))) (na := na1) (e_na := show G439 28 = na1 from ((hF444.1 28 rfl).trans ((hF383.1 28 rfl).trans ((hF63.1 28 rfl).trans ((hF34.1 28 rfl).trans ((hF7.1 28 rfl).trans (ex_na1))))))) (vi := vi) (e_vi := show G439 29 = vi from ((hF444.1 29 rfl).trans ((hF383.1 29 rfl).trans ((hF63.1 29 rfl).trans ((hF34.1 29 rfl).trans ((hF7.1 29 rfl).trans (fx_29))))))) (lf := A 3 (ln2_441).toNat) (e_lf := show A440 3 (ln2_441).toNat = A 3 (ln2_441).toNat from (congrFun ((hF444.2 3 rfl).trans ((hF383.2 3 rfl).trans ((hF63.2 3 rfl).trans ((hF34.2 3 rfl).trans ((hF7.2 3 rfl).trans (hFx.2 3 rfl)))))) _)) (ac := at2_379) (e_ac := show G439 10 = at2_379 from ((hF444.1 10 rfl).trans (e385))) (ec := ec1) (e_ec := show ecn A440 (G439 31) = ec1 from ec453) (i_LT := (LT_ext (((hF444.1 3 rfl).trans ((hF383.1 3 rfl).trans ((hF63.1 3 rfl).trans ((hF34.1 3 rfl).trans ((hF7.1 3 rfl).trans (hFx.1 3 rfl))))))) (((hF444.2 3 rfl).trans ((hF383.2 3 rfl).trans ((hF63.2 3 rfl).trans ((hF34.2 3 rfl).trans ((hF7.2 3 rfl).trans (hFx.2 3 rfl))))))) (((hF444.2 4 rfl).trans ((hF383.2 4 rfl).trans ((hF63.2 4 rfl).trans ((hF34.2 4 rfl).trans ((hF7.2 4 rfl).trans (hFx.2 4 rfl))))))) i_LT)) (i_SV := (SV_fx i_SV e_vi (show G439 29 = vi from ((hF444.1 29 rfl).trans ((hF383.1 29 rfl).trans ((hF63.1 29 rfl).trans ((hF34.1 29 rfl).trans ((hF7.1 29 rfl).trans (fx_29))))))) (by omega) hV451)) (i_PQ := (PQ_fx i_PQ hS450 (by omega) (hF448.2 29 rfl) (hF448.2 30 rfl))) (hvb := hvb) (h_lv := ⟨(by decide), (by decide)⟩)  (p_0 := by omega) (p_1 := by omega) (p_2 := by omega) (p_3 := by omega) (p_4 := by omega) (p_5 := by omega) (p_6 := by omega) (p_7 := by omega) (p_8 := by omega) (p_9 := by omega) (p_10 := by omega)) (fun o V' hq => ?_)
                                obtain ⟨G469, A470, r471, ln2_472, at2_473, fk2_474, nd2_475, sy2_476, na2_477, vi2_478, lf2_479, ec2_480, rfl, rfl, hW481, hF482, hQ483, hQ484, hQ485, b486, e487, e488, e489, e490, e491, e492, e493, e494, e495, p496, p497, p498, p499, p500, p501, p502, p503, p504, q505⟩ := hq
                                have hF506 := Fr_tr hF448 hF482 (Fr_sub (by decide)) (Fr_sub (by decide))
                                have hP507 := Pf_tr hP449 hQ483 (by omega)
                                have hS508 := Fx_tr hS450 hQ484 (by omega)
                                have hV509 := Fx_tr hV451 hQ485 (by omega)
                                have sf510 : wB A470 Vs pb (nd) (nd1) (sy) (sy1) := wB_fx (fun k j hk hj => hQ483 k j hk (by omega)) (Fx_su hQ484 (by omega)) (Qg_fx (Fx_f (w := pb) Fx_rf hF482 (by decide)) (by omega)) (hF482.2 36 rfl) (by omega) sf452
                                have bln2_472 : (0 : Int) ≤ ln2_472 ∧ ln2_472 ≤ 3000 := e487 ▸ hW481.1 9
                                have bat2_473 : (0 : Int) ≤ at2_473 ∧ at2_473 ≤ 3002 := e488 ▸ hW481.1 10
                                have bfk2_474 : (0 : Int) ≤ fk2_474 ∧ fk2_474 ≤ 6 := e489 ▸ hW481.1 16
                                have bnd2_475 : (0 : Int) ≤ nd2_475 ∧ nd2_475 ≤ 6999 := e490 ▸ hW481.1 31
                                have bsy2_476 : (0 : Int) ≤ sy2_476 ∧ sy2_476 ≤ 202 := e491 ▸ hW481.1 19
                                have bna2_477 : (0 : Int) ≤ na2_477 ∧ na2_477 ≤ 200 := e492 ▸ hW481.1 28
                                have bvi2_478 : (0 : Int) ≤ vi2_478 ∧ vi2_478 ≤ 202 := e493 ▸ hW481.1 29
                                have blf2_479 : (0 : Int) ≤ lf2_479 ∧ lf2_479 ≤ 3000 := e494 ▸ hW481.2 3 _
                                refine .inr ⟨_, rfl, ?_⟩
                                rcases q505 with ⟨a511, a512⟩ | ⟨a513, a514, a515, a516, a517, a518, a519, a520, a521, a522⟩
                                · have _q : True := trivial
                                  refine jr_st (pc' := 119) (i := 36) (m := 6) (z := r378) (y := r471) rfl (by decide) rfl (by decide) (by omega) (by omega) rfl ?_
                                  have hW524 : Wk G469 (uA A470 36 (r378).toNat (r471)) := Wk_a hW481 (show (-2147483648 : Int) ≤ r471 by omega) (show r471 ≤ (2147483647 : Int) by omega)
                                  have hF525 := Fr_a (z := r471) (k := 36) (n := (r378).toNat) hF506 (by decide)
                                  obtain ⟨A523, eA523⟩ : ∃ q, q = uA A470 36 (r378).toNat (r471) := ⟨_, rfl⟩
                                  rw [← eA523]
                                  rw [← eA523] at hW524 hF525
                                  have q526 : A523 36 (r378).toNat = r471 := by rw [eA523]; exact uA_eq
                                  have hP527 : Pf nd A A523 := eA523 ▸ Pf_n hP507 rfl
                                  have hS528 : Fx sr (sy) A A523 := eA523 ▸ Fx_n hS508 rfl
                                  have hV529 : Fx [14] (vi) A A523 := eA523 ▸ Fx_n hV509 rfl
                                  have ec530 : ecn A523 (G469 31) = ec2_480 := (ecn_e ((congrFun eA523 15).trans (uA_ne (by decide)))).trans e495
                                  refine jx_inc (pc' := 122) (l' := jSto1 L438 1 (.int (i32 ((many + (1)))))) (x := many) rfl gL438_1 (by decide) rfl rfl ?_
                                  obtain ⟨L531, eL531⟩ : ∃ q, q = jSto1 L438 1 (.int (i32 ((many + (1))))) := ⟨_, rfl⟩
                                  rw [← eL531]
                                  have gL531_0 : jGet L531 0 = some (.ref 66) := eL531 ▸ jg_ne (by decide) gL438_0 rfl
                                  have gL531_2 : jGet L531 2 = some (.int (i32 (r378))) := eL531 ▸ jg_ne (by decide) gL438_2 rfl
                                  have gL531_1 : jGet L531 1 = some (.int (i32 ((many + (1))))) := eL531 ▸ jg_eq
                                  refine jx_go (tg := 19) rfl rfl ?_
                                  refine jx_ld (pc' := 20) (l' := L531) (st' := [.ref 66]) rfl (jl_aloadn gL531_0) ?_
                                  refine jx_ar (pc' := 21) (st' := [.int (i32 (0)), .ref 66]) rfl rfl rfl rfl ?_
                                  have b532 : (-1 : Int) ≤ A 5 (ln2_472).toNat ∧ A 5 (ln2_472).toNat ≤ 15 := hW.2 5 _
                                  refine jx_vr (pc' := 24) (as := [.int (i32 (0))]) (st := []) rfl rfl rfl rfl ⟨rfl, rfl, Nat.le_of_ble_eq_true rfl⟩ rfl rfl (c_isBelow (dd := d) (hd := by omega) (hW := hW524) (lv := 0) (ln := ln2_472) (e_ln := show G469 9 = ln2_472 from (e487)) (li := li) (e_li := show G469 3 = li from ((hF482.1 3 rfl).trans ((hF444.1 3 rfl).trans ((hF383.1 3 rfl).trans ((hF63.1 3 rfl).trans ((hF34.1 3 rfl).trans ((hF7.1 3 rfl).trans ((hFx.1 3 rfl).trans (e_li))))))))) (fk := fk2_474) (e_fk := show G469 16 = fk2_474 from (e489)) (ll := A 5 (ln2_472).toNat) (e_ll := show A523 5 (ln2_472).toNat = A 5 (ln2_472).toNat from (congrFun (((congrFun eA523 5).trans (uA_ne (by decide))).trans ((hF482.2 5 rfl).trans ((hF444.2 5 rfl).trans ((hF383.2 5 rfl).trans ((hF63.2 5 rfl).trans ((hF34.2 5 rfl).trans ((hF7.2 5 rfl).trans (hFx.2 5 rfl)))))))) _))  (h_lv := ⟨(by decide), (by decide)⟩)  (p_0 := by omega)) (fun o V' hq => ?_)
                                  obtain ⟨G533, A534, r535, fk2_536, rfl, rfl, hW537, hF538, b539, e540, q541⟩ := hq
                                  have hF542 := Fr_tr hF525 hF538 (Fr_sub (by decide)) (Fr_sub (by decide))
                                  have hP543 := Pf_f hP527 hF538 (by decide)
                                  have hS544 := Fx_f hS528 hF538 (by decide)
                                  have hV545 := Fx_f hV529 hF538 (by decide)
                                  have ec546 : ecn A534 (G533 31) = ec2_480 := (ecn_f (hF538.2 15 rfl) (hF538.1 31 rfl)).trans ec530
                                  have bfk2_536 : (0 : Int) ≤ fk2_536 ∧ fk2_536 ≤ 6 := e540 ▸ hW537.1 16
                                  refine .inr ⟨_, rfl, ?_⟩
                                  rcases q541 with ⟨rfl, a547, a548, a549, a550⟩ | ⟨rfl, a551⟩ | ⟨rfl, a552, a553, a554⟩
                                  · have _q : True := trivial
                                    exfalso
                                    omega
                                  · have _q : True := trivial
                                    refine jx_if_eq (pc' := 27) (tg := 125) rfl rfl rfl (by decide) (by decide) (fun h555 => ?_) (fun h555 => ?_)
                                    · have _q := h555
                                      refine jx_ld (pc' := 126) (l' := L531) (st' := [.ref 66]) rfl (jl_aloadn gL531_0) ?_
                                      refine jx_vr (pc' := 129) (as := []) (st := []) rfl rfl rfl rfl ⟨rfl, rfl, Nat.le_of_ble_eq_true rfl⟩ rfl rfl (c_bad (dd := d) (hd := by omega) (hW := hW537)  (fk := fk2_536) (e_fk := show G533 16 = fk2_536 from (e540))    ) (fun o V' hq => ?_)
                                      obtain ⟨r556, rfl, rfl, b557, q558⟩ := hq
                                      refine .inr ⟨_, rfl, ?_⟩
                                      rcases q558 with ⟨rfl, a559⟩ | ⟨rfl, a560⟩
                                      · have _q : True := trivial
                                        refine jx_if_ne (pc' := 132) (tg := 142) rfl rfl rfl (by decide) (by decide) (fun h561 => ?_) (fun h561 => ?_)
                                        · have _q := h561
                                          refine jx_rt (v := none) rfl rfl rfl rfl rfl rfl ?_
                                          exact ⟨_, _, ln2_472, at2_473, fk2_536, nd2_475, sy2_476, na2_477, vi2_478, lf2_479, ec2_480, rfl, rfl, hW537, hF542, hP543, hS544, hV545, ((hF538.1 9 rfl).trans (e487)), ((hF538.1 10 rfl).trans (e488)), (e540), ((hF538.1 31 rfl).trans (e490)), ((hF538.1 19 rfl).trans (e491)), ((hF538.1 28 rfl).trans (e492)), ((hF538.1 29 rfl).trans (e493)), (congrFun ((hF538.2 3 rfl).trans ((congrFun eA523 3).trans (uA_ne (by decide)))) _).trans (e494), ec546, by omega, by omega, by omega, by omega, by omega, by omega, by first | exact Or.inl (by omega)⟩
                                        · have _q := h561
                                          exact absurd h561 (by omega)
                                      · have _q : True := trivial
                                        exfalso
                                        omega
                                    · have _q := h555
                                      exact absurd h555 (by omega)
                                  · have _q : True := trivial
                                    exfalso
                                    omega
                                · have _q : True := trivial
                                  refine jr_st (pc' := 119) (i := 36) (m := 6) (z := r378) (y := r471) rfl (by decide) rfl (by decide) (by omega) (by omega) rfl ?_
                                  have hW563 : Wk G469 (uA A470 36 (r378).toNat (r471)) := Wk_a hW481 (show (-2147483648 : Int) ≤ r471 by omega) (show r471 ≤ (2147483647 : Int) by omega)
                                  have hF564 := Fr_a (z := r471) (k := 36) (n := (r378).toNat) hF506 (by decide)
                                  obtain ⟨A562, eA562⟩ : ∃ q, q = uA A470 36 (r378).toNat (r471) := ⟨_, rfl⟩
                                  rw [← eA562]
                                  rw [← eA562] at hW563 hF564
                                  have q565 : A562 36 (r378).toNat = r471 := by rw [eA562]; exact uA_eq
                                  have hP566 : Pf nd A A562 := eA562 ▸ Pf_n hP507 rfl
                                  have hS567 : Fx sr (sy) A A562 := eA562 ▸ Fx_n hS508 rfl
                                  have hV568 : Fx [14] (vi) A A562 := eA562 ▸ Fx_n hV509 rfl
                                  have sf569 : wB A562 Vs pb (nd) (nd2_475) (sy) (sy2_476) := wB_add eA562 sf510 (by omega) (by omega) (by rw [show A470 36 (r378).toNat = Ax 36 (r378).toNat from (congrFun ((hF482.2 36 rfl).trans ((hF444.2 36 rfl).trans ((hF383.2 36 rfl).trans ((hF63.2 36 rfl).trans ((hF34.2 36 rfl).trans (hF7.2 36 rfl)))))) _)]; rw [show r378 = G57 13 by omega]; omega) a519 (by omega) (by omega) rfl (by omega) (by omega) (by omega) (by omega) rfl
                                  have sf570 : wP A562 (sy2_476) pb (18) (Vs) (r471) (nd1) (nd2_475) (sy1) (sy2_476) := wP_ag (Sg_ne eA562 rfl) (Qg_ne eA562 rfl) (by omega) (by omega) (Ax_ag (Ag_ne eA562 rfl)) a519
                                  have sf571 : NX A562 (r471) := NX_r eA562 (by decide) a520
                                  have ec572 : ecn A562 (G469 31) = ec2_480 := (ecn_e ((congrFun eA562 15).trans (uA_ne (by decide)))).trans e495
                                  refine jx_inc (pc' := 122) (l' := jSto1 L438 1 (.int (i32 ((many + (1)))))) (x := many) rfl gL438_1 (by decide) rfl rfl ?_
                                  obtain ⟨L573, eL573⟩ : ∃ q, q = jSto1 L438 1 (.int (i32 ((many + (1))))) := ⟨_, rfl⟩
                                  rw [← eL573]
                                  have gL573_0 : jGet L573 0 = some (.ref 66) := eL573 ▸ jg_ne (by decide) gL438_0 rfl
                                  have gL573_2 : jGet L573 2 = some (.int (i32 (r378))) := eL573 ▸ jg_ne (by decide) gL438_2 rfl
                                  have gL573_1 : jGet L573 1 = some (.int (i32 ((many + (1))))) := eL573 ▸ jg_eq
                                  refine jx_go (tg := 19) rfl rfl ?_
                                  exact ih19 _ (by omega) L573 G469 A562 ((many + (1))) (ln2_472) (at2_473) (fk2_474) (nd2_475) (sy2_476) (na2_477) (lf2_479) (ec2_480) rfl gL573_0 gL573_1 hW563 hF564 hP566 hS567 hV568 ((e487)) ((e488)) ((e489)) ((e490)) ((e491)) ((e492)) ((congrFun ((congrFun eA562 3).trans (uA_ne (by decide))) _).trans (e494)) (ec572) (Eq.trans (show G469 29 = vi2_478 from (e493)) (by omega)) (by omega) (by omega) (by omega) (by omega) (by omega) (by omega) (by omega) (by omega) (by omega) (by omega) (by omega) (by omega) (sf569) (by omega) (by omega)
                              · have _q := h468
                                exact absurd h468 (by omega)
                          · have _q : True := trivial
                            refine jx_ld (pc' := 101) (l' := L438) (st' := [.ref 66]) rfl (jl_aloadn gL438_0) ?_
                            refine jx_vr (pc' := 104) (as := []) (st := []) rfl rfl rfl rfl ⟨rfl, rfl, Nat.le_of_ble_eq_true rfl⟩ rfl rfl (c_bad (dd := d) (hd := by omega) (hW := hW443)  (fk := fk2_442) (e_fk := show G439 16 = fk2_442 from (e446))    ) (fun o V' hq => ?_)
                            obtain ⟨r574, rfl, rfl, b575, q576⟩ := hq
                            refine .inr ⟨_, rfl, ?_⟩
                            rcases q576 with ⟨rfl, a577⟩ | ⟨rfl, a578⟩
                            · have _q : True := trivial
                              refine jx_if_eq (pc' := 107) (tg := 108) rfl rfl rfl (by decide) (by decide) (fun h579 => ?_) (fun h579 => ?_)
                              · have _q := h579
                                exact absurd h579 (by omega)
                              · have _q := h579
                                refine jx_rt (v := none) rfl rfl rfl rfl rfl rfl ?_
                                exact ⟨_, _, ln2_441, at2_379, fk2_442, nd1, sy1, na1, vi, A 3 (ln2_441).toNat, ec1, rfl, rfl, hW443, hF448, hP449, hS450, hV451, (e445), ((hF444.1 10 rfl).trans (e385)), (e446), ((hF444.1 31 rfl).trans ((hF383.1 31 rfl).trans ((hF63.1 31 rfl).trans ((hF34.1 31 rfl).trans ((hF7.1 31 rfl).trans (ex_nd1)))))), ((hF444.1 19 rfl).trans ((hF383.1 19 rfl).trans ((hF63.1 19 rfl).trans ((hF34.1 19 rfl).trans ((hF7.1 19 rfl).trans (ex_sy1)))))), ((hF444.1 28 rfl).trans ((hF383.1 28 rfl).trans ((hF63.1 28 rfl).trans ((hF34.1 28 rfl).trans ((hF7.1 28 rfl).trans (ex_na1)))))), ((hF444.1 29 rfl).trans ((hF383.1 29 rfl).trans ((hF63.1 29 rfl).trans ((hF34.1 29 rfl).trans ((hF7.1 29 rfl).trans (fx_29)))))), (congrFun ((hF444.2 3 rfl).trans ((hF383.2 3 rfl).trans ((hF63.2 3 rfl).trans ((hF34.2 3 rfl).trans ((hF7.2 3 rfl).trans (hFx.2 3 rfl)))))) _), ec453, by omega, by omega, by omega, by omega, by omega, by omega, by first | exact Or.inl (by omega)⟩
                            · have _q : True := trivial
                              exfalso
                              omega
                      · have _q := h375
                        refine jx_ld (pc' := 81) (l' := L) (st' := [.ref 66]) rfl (jl_aloadn gL_0) ?_
                        refine jx_ar (pc' := 82) (st' := [.int (i32 (1)), .ref 66]) rfl rfl rfl rfl ?_
                        refine jx_ld (pc' := 83) (l' := L) (st' := [.ref 66, .int (i32 (1)), .ref 66]) rfl (jl_aloadn gL_0) ?_
                        have b580 : (-3000 : Int) ≤ G57 12 ∧ G57 12 ≤ 3002 := hW62.1 12
                        refine jr_get (pc' := 86) (i := 12) (v := .int (i32 (G57 12))) rfl rfl (by decide) rfl rfl ?_
                        refine jx_vr (pc' := 89) (as := [.int (i32 (1)), .int (i32 (G57 12))]) (st := []) rfl rfl rfl rfl ⟨rfl, rfl, Nat.le_of_ble_eq_true rfl⟩ rfl rfl (c_fail (dd := d) (hd := by omega) (hW := hW62) (kind := 1) (place := G57 12) (fk := fk2_61) (e_fk := show G57 16 = fk2_61 from (e66))  (h_kind := ⟨(by decide), (by decide)⟩) (h_place := ⟨(Int.le_trans (by decide : (-2147483648 : Int) ≤ -3000) b580.1), (Int.le_trans b580.2 (by decide : (3002 : Int) ≤ 2147483647))⟩)  (p_0 := by omega) (p_1 := by omega)) (fun o V' hq => ?_)
                        obtain ⟨G581, A582, fk2_583, rfl, rfl, hW584, hF585, e586, p587, -⟩ := hq
                        have hF589 := Fr_tr hF70 hF585 (Fr_sub (by decide)) (Fr_sub (by decide))
                        have hP590 := Pf_f hP71 hF585 (by decide)
                        have hS591 := Fx_f hS72 hF585 (by decide)
                        have hV592 := Fx_f hV73 hF585 (by decide)
                        have sf593 : wB A582 Vs pb (nd) (nd1) (sy) (sy1) := (show A582 = A58 from funext (fun k => hF585.2 k rfl)) ▸ sf74
                        have ec594 : ecn A582 (G581 31) = ec1 := (ecn_f (hF585.2 15 rfl) (hF585.1 31 rfl)).trans ec75
                        have bfk2_583 : (0 : Int) ≤ fk2_583 ∧ fk2_583 ≤ 6 := e586 ▸ hW584.1 16
                        refine .inl ⟨rfl, ?_⟩
                        refine jx_ld (pc' := 90) (l' := L) (st' := [.ref 66]) rfl (jl_aloadn gL_0) ?_
                        refine jx_ar (pc' := 91) (st' := [.int (i32 (0)), .ref 66]) rfl rfl rfl rfl ?_
                        refine jx_ar (pc' := 92) (st' := [.int (i32 (5)), .int (i32 (0)), .ref 66]) rfl rfl rfl rfl ?_
                        refine jx_vr (pc' := 95) (as := [.int (i32 (0)), .int (i32 (5))]) (st := []) rfl rfl rfl rfl ⟨rfl, rfl, Nat.le_of_ble_eq_true rfl⟩ rfl rfl (c_needNumber2 (dd := d) (hd := by omega) (hW := hW584) (lo := 0) (hi := 5) (ln := ln1) (e_ln := show G581 9 = ln1 from ((hF585.1 9 rfl).trans ((hF63.1 9 rfl).trans ((hF34.1 9 rfl).trans ((hF7.1 9 rfl).trans (ex_ln1)))))) (le := A 4 (ln1).toNat) (e_le := show A582 4 (ln1).toNat = A 4 (ln1).toNat from (congrFun ((hF585.2 4 rfl).trans ((hF63.2 4 rfl).trans ((hF34.2 4 rfl).trans ((hF7.2 4 rfl).trans (hFx.2 4 rfl))))) _)) (at0 := at2_59) (e_at0 := show G581 10 = at2_59 from ((hF585.1 10 rfl).trans (e64))) (fk := fk2_583) (e_fk := show G581 16 = fk2_583 from (e586)) (tk0 := tk2_60) (e_tk0 := show G581 11 = tk2_60 from ((hF585.1 11 rfl).trans (e65))) (tn := G57 13) (e_tn := show G581 13 = G57 13 from (hF585.1 13 rfl))  (h_lo := ⟨(by decide), (by decide)⟩) (h_hi := ⟨(by decide), (by decide)⟩)  (p_0 := by omega)) (fun o V' hq => ?_)
                        obtain ⟨G595, A596, r597, at2_598, tk2_599, fk2_600, rfl, rfl, hW601, hF602, b603, e604, e605, e606, p607, p608, q609⟩ := hq
                        have hF610 := Fr_tr hF589 hF602 (Fr_sub (by decide)) (Fr_sub (by decide))
                        have hP611 := Pf_f hP590 hF602 (by decide)
                        have hS612 := Fx_f hS591 hF602 (by decide)
                        have hV613 := Fx_f hV592 hF602 (by decide)
                        have sf614 : wB A596 Vs pb (nd) (nd1) (sy) (sy1) := (show A596 = A582 from funext (fun k => hF602.2 k rfl)) ▸ sf593
                        have ec615 : ecn A596 (G595 31) = ec1 := (ecn_f (hF602.2 15 rfl) (hF602.1 31 rfl)).trans ec594
                        have bat2_598 : (0 : Int) ≤ at2_598 ∧ at2_598 ≤ 3002 := e604 ▸ hW601.1 10
                        have ztk2_599 := tz_b tk2_599
                        have btk2_599 : (0 : Int) ≤ tk2_599 ∧ tk2_599 ≤ 5 := e605 ▸ hW601.1 11
                        have bfk2_600 : (0 : Int) ≤ fk2_600 ∧ fk2_600 ≤ 6 := e606 ▸ hW601.1 16
                        refine .inr ⟨_, rfl, ?_⟩
                        rcases q609 with ⟨a616, a617, a618, a619⟩ | ⟨a620, a621, a622, a623, a624, a625, a626⟩
                        · have _q : True := trivial
                          refine jx_ld (pc' := 96) (l' := jSto1 L 2 (.int (i32 (r597)))) (st' := []) rfl rfl ?_
                          obtain ⟨L627, eL627⟩ : ∃ q, q = jSto1 L 2 (.int (i32 (r597))) := ⟨_, rfl⟩
                          rw [← eL627]
                          have gL627_0 : jGet L627 0 = some (.ref 66) := eL627 ▸ jg_ne (by decide) gL_0 rfl
                          have gL627_1 : jGet L627 1 = some (.int (i32 (many))) := eL627 ▸ jg_ne (by decide) gL_1 rfl
                          have gL627_2 : jGet L627 2 = some (.int (i32 (r597))) := eL627 ▸ jg_eq
                          refine jx_ld (pc' := 97) (l' := L627) (st' := [.ref 66]) rfl (jl_aloadn gL627_0) ?_
                          refine jx_vr (pc' := 100) (as := []) (st := []) rfl rfl rfl rfl ⟨rfl, rfl, Nat.le_of_ble_eq_true rfl⟩ rfl rfl (c_endLine (dd := d) (hd := by omega) (hW := hW601)  (ln := ln1) (e_ln := show G595 9 = ln1 from ((hF602.1 9 rfl).trans ((hF585.1 9 rfl).trans ((hF63.1 9 rfl).trans ((hF34.1 9 rfl).trans ((hF7.1 9 rfl).trans (ex_ln1))))))) (li := li) (e_li := show G595 3 = li from ((hF602.1 3 rfl).trans ((hF585.1 3 rfl).trans ((hF63.1 3 rfl).trans ((hF34.1 3 rfl).trans ((hF7.1 3 rfl).trans ((hFx.1 3 rfl).trans (e_li)))))))) (fk := fk2_600) (e_fk := show G595 16 = fk2_600 from (e606)) (tk0 := tk2_599) (e_tk0 := show G595 11 = tk2_599 from (e605))    (p_0 := by omega)) (fun o V' hq => ?_)
                          obtain ⟨G628, A629, ln2_630, fk2_631, rfl, rfl, hW632, hF633, e634, e635, q636⟩ := hq
                          have hF637 := Fr_tr hF610 hF633 (Fr_sub (by decide)) (Fr_sub (by decide))
                          have hP638 := Pf_f hP611 hF633 (by decide)
                          have hS639 := Fx_f hS612 hF633 (by decide)
                          have hV640 := Fx_f hV613 hF633 (by decide)
                          have sf641 : wB A629 Vs pb (nd) (nd1) (sy) (sy1) := (show A629 = A596 from funext (fun k => hF633.2 k rfl)) ▸ sf614
                          have ec642 : ecn A629 (G628 31) = ec1 := (ecn_f (hF633.2 15 rfl) (hF633.1 31 rfl)).trans ec615
                          have bln2_630 : (0 : Int) ≤ ln2_630 ∧ ln2_630 ≤ 3000 := e634 ▸ hW632.1 9
                          have bfk2_631 : (0 : Int) ≤ fk2_631 ∧ fk2_631 ≤ 6 := e635 ▸ hW632.1 16
                          refine .inl ⟨rfl, ?_⟩
                          rcases q636 with ⟨a643, a644, a645, a646, a647⟩ | ⟨a648, a649⟩
                          · have _q : True := trivial
                            exfalso
                            omega
                          · have _q : True := trivial
                            refine jx_ld (pc' := 101) (l' := L627) (st' := [.ref 66]) rfl (jl_aloadn gL627_0) ?_
                            refine jx_vr (pc' := 104) (as := []) (st := []) rfl rfl rfl rfl ⟨rfl, rfl, Nat.le_of_ble_eq_true rfl⟩ rfl rfl (c_bad (dd := d) (hd := by omega) (hW := hW632)  (fk := fk2_631) (e_fk := show G628 16 = fk2_631 from (e635))    ) (fun o V' hq => ?_)
                            obtain ⟨r650, rfl, rfl, b651, q652⟩ := hq
                            refine .inr ⟨_, rfl, ?_⟩
                            rcases q652 with ⟨rfl, a653⟩ | ⟨rfl, a654⟩
                            · have _q : True := trivial
                              refine jx_if_eq (pc' := 107) (tg := 108) rfl rfl rfl (by decide) (by decide) (fun h655 => ?_) (fun h655 => ?_)
                              · have _q := h655
                                exact absurd h655 (by omega)
                              · have _q := h655
                                refine jx_rt (v := none) rfl rfl rfl rfl rfl rfl ?_
                                exact ⟨_, _, ln2_630, at2_598, fk2_631, nd1, sy1, na1, vi, A 3 (ln2_630).toNat, ec1, rfl, rfl, hW632, hF637, hP638, hS639, hV640, (e634), ((hF633.1 10 rfl).trans (e604)), (e635), ((hF633.1 31 rfl).trans ((hF602.1 31 rfl).trans ((hF585.1 31 rfl).trans ((hF63.1 31 rfl).trans ((hF34.1 31 rfl).trans ((hF7.1 31 rfl).trans (ex_nd1))))))), ((hF633.1 19 rfl).trans ((hF602.1 19 rfl).trans ((hF585.1 19 rfl).trans ((hF63.1 19 rfl).trans ((hF34.1 19 rfl).trans ((hF7.1 19 rfl).trans (ex_sy1))))))), ((hF633.1 28 rfl).trans ((hF602.1 28 rfl).trans ((hF585.1 28 rfl).trans ((hF63.1 28 rfl).trans ((hF34.1 28 rfl).trans ((hF7.1 28 rfl).trans (ex_na1))))))), ((hF633.1 29 rfl).trans ((hF602.1 29 rfl).trans ((hF585.1 29 rfl).trans ((hF63.1 29 rfl).trans ((hF34.1 29 rfl).trans ((hF7.1 29 rfl).trans (fx_29))))))), (congrFun ((hF633.2 3 rfl).trans ((hF602.2 3 rfl).trans ((hF585.2 3 rfl).trans ((hF63.2 3 rfl).trans ((hF34.2 3 rfl).trans ((hF7.2 3 rfl).trans (hFx.2 3 rfl))))))) _), ec642, by omega, by omega, by omega, by omega, by omega, by omega, by first | exact Or.inl (by omega)⟩
                            · have _q : True := trivial
                              exfalso
                              omega
                        · have _q : True := trivial
                          exfalso
                          omega
                  · have _q : True := trivial
                    refine jx_if_eq (pc' := 68) (tg := 89) rfl rfl rfl (by decide) (by decide) (fun h656 => ?_) (fun h656 => ?_)
                    · have _q := h656
                      refine jx_ld (pc' := 90) (l' := L) (st' := [.ref 66]) rfl (jl_aloadn gL_0) ?_
                      refine jx_ar (pc' := 91) (st' := [.int (i32 (0)), .ref 66]) rfl rfl rfl rfl ?_
                      refine jx_ar (pc' := 92) (st' := [.int (i32 (5)), .int (i32 (0)), .ref 66]) rfl rfl rfl rfl ?_
                      refine jx_vr (pc' := 95) (as := [.int (i32 (0)), .int (i32 (5))]) (st := []) rfl rfl rfl rfl ⟨rfl, rfl, Nat.le_of_ble_eq_true rfl⟩ rfl rfl (c_needNumber2 (dd := d) (hd := by omega) (hW := hW62) (lo := 0) (hi := 5) (ln := ln1) (e_ln := show G57 9 = ln1 from ((hF63.1 9 rfl).trans ((hF34.1 9 rfl).trans ((hF7.1 9 rfl).trans (ex_ln1))))) (le := A 4 (ln1).toNat) (e_le := show A58 4 (ln1).toNat = A 4 (ln1).toNat from (congrFun ((hF63.2 4 rfl).trans ((hF34.2 4 rfl).trans ((hF7.2 4 rfl).trans (hFx.2 4 rfl)))) _)) (at0 := at2_59) (e_at0 := show G57 10 = at2_59 from (e64)) (fk := fk2_61) (e_fk := show G57 16 = fk2_61 from (e66)) (tk0 := tk2_60) (e_tk0 := show G57 11 = tk2_60 from (e65)) (tn := G57 13) (e_tn := show G57 13 = G57 13 from rfl)  (h_lo := ⟨(by decide), (by decide)⟩) (h_hi := ⟨(by decide), (by decide)⟩)  (p_0 := by omega)) (fun o V' hq => ?_)
                      obtain ⟨G657, A658, r659, at2_660, tk2_661, fk2_662, rfl, rfl, hW663, hF664, b665, e666, e667, e668, p669, p670, q671⟩ := hq
                      have hF672 := Fr_tr hF70 hF664 (Fr_sub (by decide)) (Fr_sub (by decide))
                      have hP673 := Pf_f hP71 hF664 (by decide)
                      have hS674 := Fx_f hS72 hF664 (by decide)
                      have hV675 := Fx_f hV73 hF664 (by decide)
                      have sf676 : wB A658 Vs pb (nd) (nd1) (sy) (sy1) := (show A658 = A58 from funext (fun k => hF664.2 k rfl)) ▸ sf74
                      have ec677 : ecn A658 (G657 31) = ec1 := (ecn_f (hF664.2 15 rfl) (hF664.1 31 rfl)).trans ec75
                      have bat2_660 : (0 : Int) ≤ at2_660 ∧ at2_660 ≤ 3002 := e666 ▸ hW663.1 10
                      have ztk2_661 := tz_b tk2_661
                      have btk2_661 : (0 : Int) ≤ tk2_661 ∧ tk2_661 ≤ 5 := e667 ▸ hW663.1 11
                      have bfk2_662 : (0 : Int) ≤ fk2_662 ∧ fk2_662 ≤ 6 := e668 ▸ hW663.1 16
                      refine .inr ⟨_, rfl, ?_⟩
                      rcases q671 with ⟨a678, a679, a680, a681⟩ | ⟨a682, a683, a684, a685, a686, a687, a688⟩
                      · have _q : True := trivial
                        refine jx_ld (pc' := 96) (l' := jSto1 L 2 (.int (i32 (r659)))) (st' := []) rfl rfl ?_
                        obtain ⟨L689, eL689⟩ : ∃ q, q = jSto1 L 2 (.int (i32 (r659))) := ⟨_, rfl⟩
                        rw [← eL689]
                        have gL689_0 : jGet L689 0 = some (.ref 66) := eL689 ▸ jg_ne (by decide) gL_0 rfl
                        have gL689_1 : jGet L689 1 = some (.int (i32 (many))) := eL689 ▸ jg_ne (by decide) gL_1 rfl
                        have gL689_2 : jGet L689 2 = some (.int (i32 (r659))) := eL689 ▸ jg_eq
                        refine jx_ld (pc' := 97) (l' := L689) (st' := [.ref 66]) rfl (jl_aloadn gL689_0) ?_
                        refine jx_vr (pc' := 100) (as := []) (st := []) rfl rfl rfl rfl ⟨rfl, rfl, Nat.le_of_ble_eq_true rfl⟩ rfl rfl (c_endLine (dd := d) (hd := by omega) (hW := hW663)  (ln := ln1) (e_ln := show G657 9 = ln1 from ((hF664.1 9 rfl).trans ((hF63.1 9 rfl).trans ((hF34.1 9 rfl).trans ((hF7.1 9 rfl).trans (ex_ln1)))))) (li := li) (e_li := show G657 3 = li from ((hF664.1 3 rfl).trans ((hF63.1 3 rfl).trans ((hF34.1 3 rfl).trans ((hF7.1 3 rfl).trans ((hFx.1 3 rfl).trans (e_li))))))) (fk := fk2_662) (e_fk := show G657 16 = fk2_662 from (e668)) (tk0 := tk2_661) (e_tk0 := show G657 11 = tk2_661 from (e667))    (p_0 := by omega)) (fun o V' hq => ?_)
                        obtain ⟨G690, A691, ln2_692, fk2_693, rfl, rfl, hW694, hF695, e696, e697, q698⟩ := hq
                        have hF699 := Fr_tr hF672 hF695 (Fr_sub (by decide)) (Fr_sub (by decide))
                        have hP700 := Pf_f hP673 hF695 (by decide)
                        have hS701 := Fx_f hS674 hF695 (by decide)
                        have hV702 := Fx_f hV675 hF695 (by decide)
                        have sf703 : wB A691 Vs pb (nd) (nd1) (sy) (sy1) := (show A691 = A658 from funext (fun k => hF695.2 k rfl)) ▸ sf676
                        have ec704 : ecn A691 (G690 31) = ec1 := (ecn_f (hF695.2 15 rfl) (hF695.1 31 rfl)).trans ec677
                        have bln2_692 : (0 : Int) ≤ ln2_692 ∧ ln2_692 ≤ 3000 := e696 ▸ hW694.1 9
                        have bfk2_693 : (0 : Int) ≤ fk2_693 ∧ fk2_693 ≤ 6 := e697 ▸ hW694.1 16
                        refine .inl ⟨rfl, ?_⟩
                        rcases q698 with ⟨a705, a706, a707, a708, a709⟩ | ⟨a710, a711⟩
                        · have _q : True := trivial
                          exfalso
                          omega
                        · have _q : True := trivial
                          refine jx_ld (pc' := 101) (l' := L689) (st' := [.ref 66]) rfl (jl_aloadn gL689_0) ?_
                          refine jx_vr (pc' := 104) (as := []) (st := []) rfl rfl rfl rfl ⟨rfl, rfl, Nat.le_of_ble_eq_true rfl⟩ rfl rfl (c_bad (dd := d) (hd := by omega) (hW := hW694)  (fk := fk2_693) (e_fk := show G690 16 = fk2_693 from (e697))    ) (fun o V' hq => ?_)
                          obtain ⟨r712, rfl, rfl, b713, q714⟩ := hq
                          refine .inr ⟨_, rfl, ?_⟩
                          rcases q714 with ⟨rfl, a715⟩ | ⟨rfl, a716⟩
                          · have _q : True := trivial
                            refine jx_if_eq (pc' := 107) (tg := 108) rfl rfl rfl (by decide) (by decide) (fun h717 => ?_) (fun h717 => ?_)
                            · have _q := h717
                              exact absurd h717 (by omega)
                            · have _q := h717
                              refine jx_rt (v := none) rfl rfl rfl rfl rfl rfl ?_
                              exact ⟨_, _, ln2_692, at2_660, fk2_693, nd1, sy1, na1, vi, A 3 (ln2_692).toNat, ec1, rfl, rfl, hW694, hF699, hP700, hS701, hV702, (e696), ((hF695.1 10 rfl).trans (e666)), (e697), ((hF695.1 31 rfl).trans ((hF664.1 31 rfl).trans ((hF63.1 31 rfl).trans ((hF34.1 31 rfl).trans ((hF7.1 31 rfl).trans (ex_nd1)))))), ((hF695.1 19 rfl).trans ((hF664.1 19 rfl).trans ((hF63.1 19 rfl).trans ((hF34.1 19 rfl).trans ((hF7.1 19 rfl).trans (ex_sy1)))))), ((hF695.1 28 rfl).trans ((hF664.1 28 rfl).trans ((hF63.1 28 rfl).trans ((hF34.1 28 rfl).trans ((hF7.1 28 rfl).trans (ex_na1)))))), ((hF695.1 29 rfl).trans ((hF664.1 29 rfl).trans ((hF63.1 29 rfl).trans ((hF34.1 29 rfl).trans ((hF7.1 29 rfl).trans (fx_29)))))), (congrFun ((hF695.2 3 rfl).trans ((hF664.2 3 rfl).trans ((hF63.2 3 rfl).trans ((hF34.2 3 rfl).trans ((hF7.2 3 rfl).trans (hFx.2 3 rfl)))))) _), ec704, by omega, by omega, by omega, by omega, by omega, by omega, by first | exact Or.inl (by omega)⟩
                          · have _q : True := trivial
                            exfalso
                            omega
                      · have _q : True := trivial
                        have pz718 : at2_59 + tz tk2_661 ≤ at2_660 := by omega
                        refine jx_ld (pc' := 96) (l' := jSto1 L 2 (.int (i32 (r659)))) (st' := []) rfl rfl ?_
                        obtain ⟨L719, eL719⟩ : ∃ q, q = jSto1 L 2 (.int (i32 (r659))) := ⟨_, rfl⟩
                        rw [← eL719]
                        have gL719_0 : jGet L719 0 = some (.ref 66) := eL719 ▸ jg_ne (by decide) gL_0 rfl
                        have gL719_1 : jGet L719 1 = some (.int (i32 (many))) := eL719 ▸ jg_ne (by decide) gL_1 rfl
                        have gL719_2 : jGet L719 2 = some (.int (i32 (r659))) := eL719 ▸ jg_eq
                        refine jx_ld (pc' := 97) (l' := L719) (st' := [.ref 66]) rfl (jl_aloadn gL719_0) ?_
                        refine jx_vr (pc' := 100) (as := []) (st := []) rfl rfl rfl rfl ⟨rfl, rfl, Nat.le_of_ble_eq_true rfl⟩ rfl rfl (c_endLine (dd := d) (hd := by omega) (hW := hW663)  (ln := ln1) (e_ln := show G657 9 = ln1 from ((hF664.1 9 rfl).trans ((hF63.1 9 rfl).trans ((hF34.1 9 rfl).trans ((hF7.1 9 rfl).trans (ex_ln1)))))) (li := li) (e_li := show G657 3 = li from ((hF664.1 3 rfl).trans ((hF63.1 3 rfl).trans ((hF34.1 3 rfl).trans ((hF7.1 3 rfl).trans ((hFx.1 3 rfl).trans (e_li))))))) (fk := fk2_662) (e_fk := show G657 16 = fk2_662 from (e668)) (tk0 := tk2_661) (e_tk0 := show G657 11 = tk2_661 from (e667))    (p_0 := by omega)) (fun o V' hq => ?_)
                        obtain ⟨G720, A721, ln2_722, fk2_723, rfl, rfl, hW724, hF725, e726, e727, q728⟩ := hq
                        have hF729 := Fr_tr hF672 hF725 (Fr_sub (by decide)) (Fr_sub (by decide))
                        have hP730 := Pf_f hP673 hF725 (by decide)
                        have hS731 := Fx_f hS674 hF725 (by decide)
                        have hV732 := Fx_f hV675 hF725 (by decide)
                        have sf733 : wB A721 Vs pb (nd) (nd1) (sy) (sy1) := (show A721 = A658 from funext (fun k => hF725.2 k rfl)) ▸ sf676
                        have ec734 : ecn A721 (G720 31) = ec1 := (ecn_f (hF725.2 15 rfl) (hF725.1 31 rfl)).trans ec677
                        have bln2_722 : (0 : Int) ≤ ln2_722 ∧ ln2_722 ≤ 3000 := e726 ▸ hW724.1 9
                        have bfk2_723 : (0 : Int) ≤ fk2_723 ∧ fk2_723 ≤ 6 := e727 ▸ hW724.1 16
                        refine .inl ⟨rfl, ?_⟩
                        rcases q728 with ⟨a735, a736, a737, a738, a739⟩ | ⟨a740, a741⟩
                        · have _q : True := trivial
                          have b742 : (0 : Int) ≤ A 3 (ln2_722).toNat ∧ A 3 (ln2_722).toNat ≤ 3000 := hW.2 3 _
                          have lt743 : ln2_722 < li → A 4 (ln1).toNat < A 3 (ln2_722).toNat := fun hh => LT_nx (LT_ext (((hF725.1 3 rfl).trans ((hF664.1 3 rfl).trans ((hF63.1 3 rfl).trans ((hF34.1 3 rfl).trans ((hF7.1 3 rfl).trans (hFx.1 3 rfl))))))) (((hF725.2 3 rfl).trans ((hF664.2 3 rfl).trans ((hF63.2 3 rfl).trans ((hF34.2 3 rfl).trans ((hF7.2 3 rfl).trans (hFx.2 3 rfl))))))) (((hF725.2 4 rfl).trans ((hF664.2 4 rfl).trans ((hF63.2 4 rfl).trans ((hF34.2 4 rfl).trans ((hF7.2 4 rfl).trans (hFx.2 4 rfl))))))) i_LT) (show G720 3 = li from ((hF725.1 3 rfl).trans ((hF664.1 3 rfl).trans ((hF63.1 3 rfl).trans ((hF34.1 3 rfl).trans ((hF7.1 3 rfl).trans ((hFx.1 3 rfl).trans (e_li)))))))) (show A721 4 (ln1).toNat = A 4 (ln1).toNat from (congrFun ((hF725.2 4 rfl).trans ((hF664.2 4 rfl).trans ((hF63.2 4 rfl).trans ((hF34.2 4 rfl).trans ((hF7.2 4 rfl).trans (hFx.2 4 rfl)))))) _)) (show A721 3 (ln2_722).toNat = A 3 (ln2_722).toNat from (congrFun ((hF725.2 3 rfl).trans ((hF664.2 3 rfl).trans ((hF63.2 3 rfl).trans ((hF34.2 3 rfl).trans ((hF7.2 3 rfl).trans (hFx.2 3 rfl)))))) _)) (show ln2_722 = ln1 + 1 by omega) (by omega) hh
                          refine jx_ld (pc' := 101) (l' := L719) (st' := [.ref 66]) rfl (jl_aloadn gL719_0) ?_
                          refine jx_vr (pc' := 104) (as := []) (st := []) rfl rfl rfl rfl ⟨rfl, rfl, Nat.le_of_ble_eq_true rfl⟩ rfl rfl (c_bad (dd := d) (hd := by omega) (hW := hW724)  (fk := fk2_723) (e_fk := show G720 16 = fk2_723 from (e727))    ) (fun o V' hq => ?_)
                          obtain ⟨r744, rfl, rfl, b745, q746⟩ := hq
                          refine .inr ⟨_, rfl, ?_⟩
                          rcases q746 with ⟨rfl, a747⟩ | ⟨rfl, a748⟩
                          · have _q : True := trivial
                            exfalso
                            omega
                          · have _q : True := trivial
                            refine jx_if_eq (pc' := 107) (tg := 108) rfl rfl rfl (by decide) (by decide) (fun h749 => ?_) (fun h749 => ?_)
                            · have _q := h749
                              refine jx_ld (pc' := 109) (l' := L719) (st' := [.ref 66]) rfl (jl_aloadn gL719_0) ?_
                              refine jr_get (pc' := 112) (i := 55) (v := .ref 103) rfl rfl (by decide) rfl rfl ?_
                              refine jx_ld (pc' := 113) (l' := L719) (st' := [.int (i32 (r659)), .ref 103]) rfl (jl_iloadn gL719_2) ?_
                              refine jx_ld (pc' := 114) (l' := L719) (st' := [.ref 66, .int (i32 (r659)), .ref 103]) rfl (jl_aloadn gL719_0) ?_
                              refine jx_ar (pc' := 115) (st' := [.int (i32 (2)), .ref 66, .int (i32 (r659)), .ref 103]) rfl rfl rfl rfl ?_
                              refine jx_vr (pc' := 118) (as := [.int (i32 (2))]) (st := [.int (i32 (r659)), .ref 103]) rfl rfl rfl rfl ⟨rfl, rfl, Nat.le_of_ble_eq_true rfl⟩ rfl rfl (RPw_all X 18 (dd := d) (hd := by omega) (hW := hW724) (lv := 2) (at0 := at2_660) (ln := ln2_722) (e_ln := show G720 9 = ln2_722 from (e726)) (li := li) (e_li := show G720 3 = li from ((hF725.1 3 rfl).trans ((hF664.1 3 rfl).trans ((hF63.1 3 rfl).trans ((hF34.1 3 rfl).trans ((hF7.1 3 rfl).trans ((hFx.1 3 rfl).trans (e_li)))))))) (fk := fk2_723) (e_fk := show G720 16 = fk2_723 from (e727)) (nd := nd1) (e_nd := show G720 31 = nd1 from ((hF725.1 31 rfl).trans ((hF664.1 31 rfl).trans ((hF63.1 31 rfl).trans ((hF34.1 31 rfl).trans ((hF7.1 31 rfl).trans (ex_nd1))))))) (sy := sy1) (e_sy := show G720 19 = sy1 from ((hF725.1 19 rfl).trans ((hF664.1 19 rfl).trans ((hF63.1 19 rfl).trans ((hF34.1 19 rfl).trans ((hF7.1 19 rfl).trans (ex_sy1))))))) (na := na1) (e_na := show G720 28 = na1 from ((hF725.1 28 rfl).trans ((hF664.1 28 rfl).trans ((hF63.1 28 rfl).trans ((hF34.1 28 rfl).trans ((hF7.1 28 rfl).trans (ex_na1))))))) (vi := vi) (e_vi := show G720 29 = vi from ((hF725.1 29 rfl).trans ((hF664.1 29 rfl).trans ((hF63.1 29 rfl).trans ((hF34.1 29 rfl).trans ((hF7.1 29 rfl).trans (fx_29))))))) (lf := A 3 (ln2_722).toNat) (e_lf := show A721 3 (ln2_722).toNat = A 3 (ln2_722).toNat from (congrFun ((hF725.2 3 rfl).trans ((hF664.2 3 rfl).trans ((hF63.2 3 rfl).trans ((hF34.2 3 rfl).trans ((hF7.2 3 rfl).trans (hFx.2 3 rfl)))))) _)) (ac := at2_660) (e_ac := show G720 10 = at2_660 from ((hF725.1 10 rfl).trans (e666))) (ec := ec1) (e_ec := show ecn A721 (G720 31) = ec1 from ec734) (i_LT := (LT_ext (((hF725.1 3 rfl).trans ((hF664.1 3 rfl).trans ((hF63.1 3 rfl).trans ((hF34.1 3 rfl).trans ((hF7.1 3 rfl).trans (hFx.1 3 rfl))))))) (((hF725.2 3 rfl).trans ((hF664.2 3 rfl).trans ((hF63.2 3 rfl).trans ((hF34.2 3 rfl).trans ((hF7.2 3 rfl).trans (hFx.2 3 rfl))))))) (((hF725.2 4 rfl).trans ((hF664.2 4 rfl).trans ((hF63.2 4 rfl).trans ((hF34.2 4 rfl).trans ((hF7.2 4 rfl).trans (hFx.2 4 rfl))))))) i_LT)) (i_SV := (SV_fx i_SV e_vi (show G720 29 = vi from ((hF725.1 29 rfl).trans ((hF664.1 29 rfl).trans ((hF63.1 29 rfl).trans ((hF34.1 29 rfl).trans ((hF7.1 29 rfl).trans (fx_29))))))) (by omega) hV732)) (i_PQ := (PQ_fx i_PQ hS731 (by omega) (hF729.2 29 rfl) (hF729.2 30 rfl))) (hvb := hvb) (h_lv := ⟨(by decide), (by decide)⟩)  (p_0 := by omega) (p_1 := by omega) (p_2 := by omega) (p_3 := by omega) (p_4 := by omega) (p_5 := by omega) (p_6 := by omega) (p_7 := by omega) (p_8 := by omega) (p_9 := by omega) (p_10 := by omega)) (fun o V' hq => ?_)
                              obtain ⟨G750, A751, r752, ln2_753, at2_754, fk2_755, nd2_756, sy2_757, na2_758, vi2_759, lf2_760, ec2_761, rfl, rfl, hW762, hF763, hQ764, hQ765, hQ766, b767, e768, e769, e770, e771, e772, e773, e774, e775, e776, p777, p778, p779, p780, p781, p782, p783, p784, p785, q786⟩ := hq
                              have hF787 := Fr_tr hF729 hF763 (Fr_sub (by decide)) (Fr_sub (by decide))
                              have hP788 := Pf_tr hP730 hQ764 (by omega)
                              have hS789 := Fx_tr hS731 hQ765 (by omega)
                              have hV790 := Fx_tr hV732 hQ766 (by omega)
                              have sf791 : wB A751 Vs pb (nd) (nd1) (sy) (sy1) := wB_fx (fun k j hk hj => hQ764 k j hk (by omega)) (Fx_su hQ765 (by omega)) (Qg_fx (Fx_f (w := pb) Fx_rf hF763 (by decide)) (by omega)) (hF763.2 36 rfl) (by omega) sf733
                              have bln2_753 : (0 : Int) ≤ ln2_753 ∧ ln2_753 ≤ 3000 := e768 ▸ hW762.1 9
                              have bat2_754 : (0 : Int) ≤ at2_754 ∧ at2_754 ≤ 3002 := e769 ▸ hW762.1 10
                              have bfk2_755 : (0 : Int) ≤ fk2_755 ∧ fk2_755 ≤ 6 := e770 ▸ hW762.1 16
                              have bnd2_756 : (0 : Int) ≤ nd2_756 ∧ nd2_756 ≤ 6999 := e771 ▸ hW762.1 31
                              have bsy2_757 : (0 : Int) ≤ sy2_757 ∧ sy2_757 ≤ 202 := e772 ▸ hW762.1 19
                              have bna2_758 : (0 : Int) ≤ na2_758 ∧ na2_758 ≤ 200 := e773 ▸ hW762.1 28
                              have bvi2_759 : (0 : Int) ≤ vi2_759 ∧ vi2_759 ≤ 202 := e774 ▸ hW762.1 29
                              have blf2_760 : (0 : Int) ≤ lf2_760 ∧ lf2_760 ≤ 3000 := e775 ▸ hW762.2 3 _
                              refine .inr ⟨_, rfl, ?_⟩
                              rcases q786 with ⟨a792, a793⟩ | ⟨a794, a795, a796, a797, a798, a799, a800, a801, a802, a803⟩
                              · have _q : True := trivial
                                refine jr_st (pc' := 119) (i := 36) (m := 6) (z := r659) (y := r752) rfl (by decide) rfl (by decide) (by omega) (by omega) rfl ?_
                                have hW805 : Wk G750 (uA A751 36 (r659).toNat (r752)) := Wk_a hW762 (show (-2147483648 : Int) ≤ r752 by omega) (show r752 ≤ (2147483647 : Int) by omega)
                                have hF806 := Fr_a (z := r752) (k := 36) (n := (r659).toNat) hF787 (by decide)
                                obtain ⟨A804, eA804⟩ : ∃ q, q = uA A751 36 (r659).toNat (r752) := ⟨_, rfl⟩
                                rw [← eA804]
                                rw [← eA804] at hW805 hF806
                                have q807 : A804 36 (r659).toNat = r752 := by rw [eA804]; exact uA_eq
                                have hP808 : Pf nd A A804 := eA804 ▸ Pf_n hP788 rfl
                                have hS809 : Fx sr (sy) A A804 := eA804 ▸ Fx_n hS789 rfl
                                have hV810 : Fx [14] (vi) A A804 := eA804 ▸ Fx_n hV790 rfl
                                have ec811 : ecn A804 (G750 31) = ec2_761 := (ecn_e ((congrFun eA804 15).trans (uA_ne (by decide)))).trans e776
                                refine jx_inc (pc' := 122) (l' := jSto1 L719 1 (.int (i32 ((many + (1)))))) (x := many) rfl gL719_1 (by decide) rfl rfl ?_
                                obtain ⟨L812, eL812⟩ : ∃ q, q = jSto1 L719 1 (.int (i32 ((many + (1))))) := ⟨_, rfl⟩
                                rw [← eL812]
                                have gL812_0 : jGet L812 0 = some (.ref 66) := eL812 ▸ jg_ne (by decide) gL719_0 rfl
                                have gL812_2 : jGet L812 2 = some (.int (i32 (r659))) := eL812 ▸ jg_ne (by decide) gL719_2 rfl
                                have gL812_1 : jGet L812 1 = some (.int (i32 ((many + (1))))) := eL812 ▸ jg_eq
                                refine jx_go (tg := 19) rfl rfl ?_
                                refine jx_ld (pc' := 20) (l' := L812) (st' := [.ref 66]) rfl (jl_aloadn gL812_0) ?_
                                refine jx_ar (pc' := 21) (st' := [.int (i32 (0)), .ref 66]) rfl rfl rfl rfl ?_
                                have b813 : (-1 : Int) ≤ A 5 (ln2_753).toNat ∧ A 5 (ln2_753).toNat ≤ 15 := hW.2 5 _
                                refine jx_vr (pc' := 24) (as := [.int (i32 (0))]) (st := []) rfl rfl rfl rfl ⟨rfl, rfl, Nat.le_of_ble_eq_true rfl⟩ rfl rfl (c_isBelow (dd := d) (hd := by omega) (hW := hW805) (lv := 0) (ln := ln2_753) (e_ln := show G750 9 = ln2_753 from (e768)) (li := li) (e_li := show G750 3 = li from ((hF763.1 3 rfl).trans ((hF725.1 3 rfl).trans ((hF664.1 3 rfl).trans ((hF63.1 3 rfl).trans ((hF34.1 3 rfl).trans ((hF7.1 3 rfl).trans ((hFx.1 3 rfl).trans (e_li))))))))) (fk := fk2_755) (e_fk := show G750 16 = fk2_755 from (e770)) (ll := A 5 (ln2_753).toNat) (e_ll := show A804 5 (ln2_753).toNat = A 5 (ln2_753).toNat from (congrFun (((congrFun eA804 5).trans (uA_ne (by decide))).trans ((hF763.2 5 rfl).trans ((hF725.2 5 rfl).trans ((hF664.2 5 rfl).trans ((hF63.2 5 rfl).trans ((hF34.2 5 rfl).trans ((hF7.2 5 rfl).trans (hFx.2 5 rfl)))))))) _))  (h_lv := ⟨(by decide), (by decide)⟩)  (p_0 := by omega)) (fun o V' hq => ?_)
                                obtain ⟨G814, A815, r816, fk2_817, rfl, rfl, hW818, hF819, b820, e821, q822⟩ := hq
                                have hF823 := Fr_tr hF806 hF819 (Fr_sub (by decide)) (Fr_sub (by decide))
                                have hP824 := Pf_f hP808 hF819 (by decide)
                                have hS825 := Fx_f hS809 hF819 (by decide)
                                have hV826 := Fx_f hV810 hF819 (by decide)
                                have ec827 : ecn A815 (G814 31) = ec2_761 := (ecn_f (hF819.2 15 rfl) (hF819.1 31 rfl)).trans ec811
                                have bfk2_817 : (0 : Int) ≤ fk2_817 ∧ fk2_817 ≤ 6 := e821 ▸ hW818.1 16
                                refine .inr ⟨_, rfl, ?_⟩
                                rcases q822 with ⟨rfl, a828, a829, a830, a831⟩ | ⟨rfl, a832⟩ | ⟨rfl, a833, a834, a835⟩
                                · have _q : True := trivial
                                  exfalso
                                  omega
                                · have _q : True := trivial
                                  refine jx_if_eq (pc' := 27) (tg := 125) rfl rfl rfl (by decide) (by decide) (fun h836 => ?_) (fun h836 => ?_)
                                  · have _q := h836
                                    refine jx_ld (pc' := 126) (l' := L812) (st' := [.ref 66]) rfl (jl_aloadn gL812_0) ?_
                                    refine jx_vr (pc' := 129) (as := []) (st := []) rfl rfl rfl rfl ⟨rfl, rfl, Nat.le_of_ble_eq_true rfl⟩ rfl rfl (c_bad (dd := d) (hd := by omega) (hW := hW818)  (fk := fk2_817) (e_fk := show G814 16 = fk2_817 from (e821))    ) (fun o V' hq => ?_)
                                    obtain ⟨r837, rfl, rfl, b838, q839⟩ := hq
                                    refine .inr ⟨_, rfl, ?_⟩
                                    rcases q839 with ⟨rfl, a840⟩ | ⟨rfl, a841⟩
                                    · have _q : True := trivial
                                      refine jx_if_ne (pc' := 132) (tg := 142) rfl rfl rfl (by decide) (by decide) (fun h842 => ?_) (fun h842 => ?_)
                                      · have _q := h842
                                        refine jx_rt (v := none) rfl rfl rfl rfl rfl rfl ?_
                                        exact ⟨_, _, ln2_753, at2_754, fk2_817, nd2_756, sy2_757, na2_758, vi2_759, lf2_760, ec2_761, rfl, rfl, hW818, hF823, hP824, hS825, hV826, ((hF819.1 9 rfl).trans (e768)), ((hF819.1 10 rfl).trans (e769)), (e821), ((hF819.1 31 rfl).trans (e771)), ((hF819.1 19 rfl).trans (e772)), ((hF819.1 28 rfl).trans (e773)), ((hF819.1 29 rfl).trans (e774)), (congrFun ((hF819.2 3 rfl).trans ((congrFun eA804 3).trans (uA_ne (by decide)))) _).trans (e775), ec827, by omega, by omega, by omega, by omega, by omega, by omega, by first | exact Or.inl (by omega)⟩
                                      · have _q := h842
                                        exact absurd h842 (by omega)
                                    · have _q : True := trivial
                                      exfalso
                                      omega
                                  · have _q := h836
                                    exact absurd h836 (by omega)
                                · have _q : True := trivial
                                  exfalso
                                  omega
                              · have _q : True := trivial
                                refine jr_st (pc' := 119) (i := 36) (m := 6) (z := r659) (y := r752) rfl (by decide) rfl (by decide) (by omega) (by omega) rfl ?_
                                have hW844 : Wk G750 (uA A751 36 (r659).toNat (r752)) := Wk_a hW762 (show (-2147483648 : Int) ≤ r752 by omega) (show r752 ≤ (2147483647 : Int) by omega)
                                have hF845 := Fr_a (z := r752) (k := 36) (n := (r659).toNat) hF787 (by decide)
                                obtain ⟨A843, eA843⟩ : ∃ q, q = uA A751 36 (r659).toNat (r752) := ⟨_, rfl⟩
                                rw [← eA843]
                                rw [← eA843] at hW844 hF845
                                have q846 : A843 36 (r659).toNat = r752 := by rw [eA843]; exact uA_eq
                                have hP847 : Pf nd A A843 := eA843 ▸ Pf_n hP788 rfl
                                have hS848 : Fx sr (sy) A A843 := eA843 ▸ Fx_n hS789 rfl
                                have hV849 : Fx [14] (vi) A A843 := eA843 ▸ Fx_n hV790 rfl
                                have sf850 : wB A843 Vs pb (nd) (nd2_756) (sy) (sy2_757) := wB_add eA843 sf791 (by omega) (by omega) (by omega) a800 (by omega) (by omega) rfl (by omega) (by omega) (by omega) (by omega) rfl
                                have sf851 : wP A843 (sy2_757) pb (18) (Vs) (r752) (nd1) (nd2_756) (sy1) (sy2_757) := wP_ag (Sg_ne eA843 rfl) (Qg_ne eA843 rfl) (by omega) (by omega) (Ax_ag (Ag_ne eA843 rfl)) a800
                                have sf852 : NX A843 (r752) := NX_r eA843 (by decide) a801
                                have ec853 : ecn A843 (G750 31) = ec2_761 := (ecn_e ((congrFun eA843 15).trans (uA_ne (by decide)))).trans e776
                                refine jx_inc (pc' := 122) (l' := jSto1 L719 1 (.int (i32 ((many + (1)))))) (x := many) rfl gL719_1 (by decide) rfl rfl ?_
                                obtain ⟨L854, eL854⟩ : ∃ q, q = jSto1 L719 1 (.int (i32 ((many + (1))))) := ⟨_, rfl⟩
                                rw [← eL854]
                                have gL854_0 : jGet L854 0 = some (.ref 66) := eL854 ▸ jg_ne (by decide) gL719_0 rfl
                                have gL854_2 : jGet L854 2 = some (.int (i32 (r659))) := eL854 ▸ jg_ne (by decide) gL719_2 rfl
                                have gL854_1 : jGet L854 1 = some (.int (i32 ((many + (1))))) := eL854 ▸ jg_eq
                                refine jx_go (tg := 19) rfl rfl ?_
                                exact ih19 _ (by omega) L854 G750 A843 ((many + (1))) (ln2_753) (at2_754) (fk2_755) (nd2_756) (sy2_757) (na2_758) (lf2_760) (ec2_761) rfl gL854_0 gL854_1 hW844 hF845 hP847 hS848 hV849 ((e768)) ((e769)) ((e770)) ((e771)) ((e772)) ((e773)) ((congrFun ((congrFun eA843 3).trans (uA_ne (by decide))) _).trans (e775)) (ec853) (Eq.trans (show G750 29 = vi2_759 from (e774)) (by omega)) (by omega) (by omega) (by omega) (by omega) (by omega) (by omega) (by omega) (by omega) (by omega) (by omega) (by omega) (by omega) (sf850) (by omega) (by omega)
                            · have _q := h749
                              exact absurd h749 (by omega)
                        · have _q : True := trivial
                          refine jx_ld (pc' := 101) (l' := L719) (st' := [.ref 66]) rfl (jl_aloadn gL719_0) ?_
                          refine jx_vr (pc' := 104) (as := []) (st := []) rfl rfl rfl rfl ⟨rfl, rfl, Nat.le_of_ble_eq_true rfl⟩ rfl rfl (c_bad (dd := d) (hd := by omega) (hW := hW724)  (fk := fk2_723) (e_fk := show G720 16 = fk2_723 from (e727))    ) (fun o V' hq => ?_)
                          obtain ⟨r855, rfl, rfl, b856, q857⟩ := hq
                          refine .inr ⟨_, rfl, ?_⟩
                          rcases q857 with ⟨rfl, a858⟩ | ⟨rfl, a859⟩
                          · have _q : True := trivial
                            refine jx_if_eq (pc' := 107) (tg := 108) rfl rfl rfl (by decide) (by decide) (fun h860 => ?_) (fun h860 => ?_)
                            · have _q := h860
                              exact absurd h860 (by omega)
                            · have _q := h860
                              refine jx_rt (v := none) rfl rfl rfl rfl rfl rfl ?_
                              exact ⟨_, _, ln2_722, at2_660, fk2_723, nd1, sy1, na1, vi, A 3 (ln2_722).toNat, ec1, rfl, rfl, hW724, hF729, hP730, hS731, hV732, (e726), ((hF725.1 10 rfl).trans (e666)), (e727), ((hF725.1 31 rfl).trans ((hF664.1 31 rfl).trans ((hF63.1 31 rfl).trans ((hF34.1 31 rfl).trans ((hF7.1 31 rfl).trans (ex_nd1)))))), ((hF725.1 19 rfl).trans ((hF664.1 19 rfl).trans ((hF63.1 19 rfl).trans ((hF34.1 19 rfl).trans ((hF7.1 19 rfl).trans (ex_sy1)))))), ((hF725.1 28 rfl).trans ((hF664.1 28 rfl).trans ((hF63.1 28 rfl).trans ((hF34.1 28 rfl).trans ((hF7.1 28 rfl).trans (ex_na1)))))), ((hF725.1 29 rfl).trans ((hF664.1 29 rfl).trans ((hF63.1 29 rfl).trans ((hF34.1 29 rfl).trans ((hF7.1 29 rfl).trans (fx_29)))))), (congrFun ((hF725.2 3 rfl).trans ((hF664.2 3 rfl).trans ((hF63.2 3 rfl).trans ((hF34.2 3 rfl).trans ((hF7.2 3 rfl).trans (hFx.2 3 rfl)))))) _), ec734, by omega, by omega, by omega, by omega, by omega, by omega, by first | exact Or.inl (by omega)⟩
                          · have _q : True := trivial
                            exfalso
                            omega
                    · have _q := h656
                      exact absurd h656 (by omega)
        · have _q : True := trivial
          refine jx_vr (pc' := 41) (as := [.int (i32 (0))]) (st := []) rfl rfl rfl rfl ⟨rfl, rfl, Nat.le_of_ble_eq_true rfl⟩ rfl rfl (c_need (dd := d) (hd := by omega) (hW := hW33) (g := 0) (ln := ln1) (e_ln := show G28 9 = ln1 from ((hF34.1 9 rfl).trans ((hF7.1 9 rfl).trans (ex_ln1)))) (le := A 4 (ln1).toNat) (e_le := show A29 4 (ln1).toNat = A 4 (ln1).toNat from (congrFun ((hF34.2 4 rfl).trans ((hF7.2 4 rfl).trans (hFx.2 4 rfl))) _)) (at0 := at2_30) (e_at0 := show G28 10 = at2_30 from (e35)) (fk := fk2_5) (e_fk := show G28 16 = fk2_5 from ((hF34.1 16 rfl).trans (e9))) (tk0 := tk2_31) (e_tk0 := show G28 11 = tk2_31 from (e36))  (h_g := ⟨(by decide), (by decide)⟩)  (p_0 := by omega)) (fun o V' hq => ?_)
          obtain ⟨G861, A862, at2_863, tk2_864, fk2_865, rfl, rfl, hW866, hF867, e868, e869, e870, p871, p872, q873⟩ := hq
          have hF874 := Fr_tr hF43 hF867 (Fr_sub (by decide)) (Fr_sub (by decide))
          have hP875 := Pf_f hP44 hF867 (by decide)
          have hS876 := Fx_f hS45 hF867 (by decide)
          have hV877 := Fx_f hV46 hF867 (by decide)
          have sf878 : wB A862 Vs pb (nd) (nd1) (sy) (sy1) := (show A862 = A29 from funext (fun k => hF867.2 k rfl)) ▸ sf47
          have ec879 : ecn A862 (G861 31) = ec1 := (ecn_f (hF867.2 15 rfl) (hF867.1 31 rfl)).trans ec48
          have bat2_863 : (0 : Int) ≤ at2_863 ∧ at2_863 ≤ 3002 := e868 ▸ hW866.1 10
          have ztk2_864 := tz_b tk2_864
          have btk2_864 : (0 : Int) ≤ tk2_864 ∧ tk2_864 ≤ 5 := e869 ▸ hW866.1 11
          have bfk2_865 : (0 : Int) ≤ fk2_865 ∧ fk2_865 ≤ 6 := e870 ▸ hW866.1 16
          refine .inl ⟨rfl, ?_⟩
          rcases q873 with ⟨a880, a881, a882, a883⟩ | ⟨a884, a885, a886, a887⟩
          · have _q : True := trivial
            refine jx_ld (pc' := 42) (l' := L) (st' := [.ref 66]) rfl (jl_aloadn gL_0) ?_
            refine jx_vr (pc' := 45) (as := []) (st := []) rfl rfl rfl rfl ⟨rfl, rfl, Nat.le_of_ble_eq_true rfl⟩ rfl rfl (c_bad (dd := d) (hd := by omega) (hW := hW866)  (fk := fk2_865) (e_fk := show G861 16 = fk2_865 from (e870))    ) (fun o V' hq => ?_)
            obtain ⟨r888, rfl, rfl, b889, q890⟩ := hq
            refine .inr ⟨_, rfl, ?_⟩
            rcases q890 with ⟨rfl, a891⟩ | ⟨rfl, a892⟩
            · have _q : True := trivial
              refine jx_if_ne (pc' := 48) (tg := 89) rfl rfl rfl (by decide) (by decide) (fun h893 => ?_) (fun h893 => ?_)
              · have _q := h893
                refine jx_ld (pc' := 90) (l' := L) (st' := [.ref 66]) rfl (jl_aloadn gL_0) ?_
                refine jx_ar (pc' := 91) (st' := [.int (i32 (0)), .ref 66]) rfl rfl rfl rfl ?_
                refine jx_ar (pc' := 92) (st' := [.int (i32 (5)), .int (i32 (0)), .ref 66]) rfl rfl rfl rfl ?_
                have b894 : (-2147483648 : Int) ≤ G861 13 ∧ G861 13 ≤ 2147483647 := hW866.1 13
                refine jx_vr (pc' := 95) (as := [.int (i32 (0)), .int (i32 (5))]) (st := []) rfl rfl rfl rfl ⟨rfl, rfl, Nat.le_of_ble_eq_true rfl⟩ rfl rfl (c_needNumber2 (dd := d) (hd := by omega) (hW := hW866) (lo := 0) (hi := 5) (ln := ln1) (e_ln := show G861 9 = ln1 from ((hF867.1 9 rfl).trans ((hF34.1 9 rfl).trans ((hF7.1 9 rfl).trans (ex_ln1))))) (le := A 4 (ln1).toNat) (e_le := show A862 4 (ln1).toNat = A 4 (ln1).toNat from (congrFun ((hF867.2 4 rfl).trans ((hF34.2 4 rfl).trans ((hF7.2 4 rfl).trans (hFx.2 4 rfl)))) _)) (at0 := at2_863) (e_at0 := show G861 10 = at2_863 from (e868)) (fk := fk2_865) (e_fk := show G861 16 = fk2_865 from (e870)) (tk0 := tk2_864) (e_tk0 := show G861 11 = tk2_864 from (e869)) (tn := G861 13) (e_tn := show G861 13 = G861 13 from rfl)  (h_lo := ⟨(by decide), (by decide)⟩) (h_hi := ⟨(by decide), (by decide)⟩)  (p_0 := by omega)) (fun o V' hq => ?_)
                obtain ⟨G895, A896, r897, at2_898, tk2_899, fk2_900, rfl, rfl, hW901, hF902, b903, e904, e905, e906, p907, p908, q909⟩ := hq
                have hF910 := Fr_tr hF874 hF902 (Fr_sub (by decide)) (Fr_sub (by decide))
                have hP911 := Pf_f hP875 hF902 (by decide)
                have hS912 := Fx_f hS876 hF902 (by decide)
                have hV913 := Fx_f hV877 hF902 (by decide)
                have sf914 : wB A896 Vs pb (nd) (nd1) (sy) (sy1) := (show A896 = A862 from funext (fun k => hF902.2 k rfl)) ▸ sf878
                have ec915 : ecn A896 (G895 31) = ec1 := (ecn_f (hF902.2 15 rfl) (hF902.1 31 rfl)).trans ec879
                have bat2_898 : (0 : Int) ≤ at2_898 ∧ at2_898 ≤ 3002 := e904 ▸ hW901.1 10
                have ztk2_899 := tz_b tk2_899
                have btk2_899 : (0 : Int) ≤ tk2_899 ∧ tk2_899 ≤ 5 := e905 ▸ hW901.1 11
                have bfk2_900 : (0 : Int) ≤ fk2_900 ∧ fk2_900 ≤ 6 := e906 ▸ hW901.1 16
                refine .inr ⟨_, rfl, ?_⟩
                rcases q909 with ⟨a916, a917, a918, a919⟩ | ⟨a920, a921, a922, a923, a924, a925, a926⟩
                · have _q : True := trivial
                  refine jx_ld (pc' := 96) (l' := jSto1 L 2 (.int (i32 (r897)))) (st' := []) rfl rfl ?_
                  obtain ⟨L927, eL927⟩ : ∃ q, q = jSto1 L 2 (.int (i32 (r897))) := ⟨_, rfl⟩
                  rw [← eL927]
                  have gL927_0 : jGet L927 0 = some (.ref 66) := eL927 ▸ jg_ne (by decide) gL_0 rfl
                  have gL927_1 : jGet L927 1 = some (.int (i32 (many))) := eL927 ▸ jg_ne (by decide) gL_1 rfl
                  have gL927_2 : jGet L927 2 = some (.int (i32 (r897))) := eL927 ▸ jg_eq
                  refine jx_ld (pc' := 97) (l' := L927) (st' := [.ref 66]) rfl (jl_aloadn gL927_0) ?_
                  refine jx_vr (pc' := 100) (as := []) (st := []) rfl rfl rfl rfl ⟨rfl, rfl, Nat.le_of_ble_eq_true rfl⟩ rfl rfl (c_endLine (dd := d) (hd := by omega) (hW := hW901)  (ln := ln1) (e_ln := show G895 9 = ln1 from ((hF902.1 9 rfl).trans ((hF867.1 9 rfl).trans ((hF34.1 9 rfl).trans ((hF7.1 9 rfl).trans (ex_ln1)))))) (li := li) (e_li := show G895 3 = li from ((hF902.1 3 rfl).trans ((hF867.1 3 rfl).trans ((hF34.1 3 rfl).trans ((hF7.1 3 rfl).trans ((hFx.1 3 rfl).trans (e_li))))))) (fk := fk2_900) (e_fk := show G895 16 = fk2_900 from (e906)) (tk0 := tk2_899) (e_tk0 := show G895 11 = tk2_899 from (e905))    (p_0 := by omega)) (fun o V' hq => ?_)
                  obtain ⟨G928, A929, ln2_930, fk2_931, rfl, rfl, hW932, hF933, e934, e935, q936⟩ := hq
                  have hF937 := Fr_tr hF910 hF933 (Fr_sub (by decide)) (Fr_sub (by decide))
                  have hP938 := Pf_f hP911 hF933 (by decide)
                  have hS939 := Fx_f hS912 hF933 (by decide)
                  have hV940 := Fx_f hV913 hF933 (by decide)
                  have sf941 : wB A929 Vs pb (nd) (nd1) (sy) (sy1) := (show A929 = A896 from funext (fun k => hF933.2 k rfl)) ▸ sf914
                  have ec942 : ecn A929 (G928 31) = ec1 := (ecn_f (hF933.2 15 rfl) (hF933.1 31 rfl)).trans ec915
                  have bln2_930 : (0 : Int) ≤ ln2_930 ∧ ln2_930 ≤ 3000 := e934 ▸ hW932.1 9
                  have bfk2_931 : (0 : Int) ≤ fk2_931 ∧ fk2_931 ≤ 6 := e935 ▸ hW932.1 16
                  refine .inl ⟨rfl, ?_⟩
                  rcases q936 with ⟨a943, a944, a945, a946, a947⟩ | ⟨a948, a949⟩
                  · have _q : True := trivial
                    exfalso
                    omega
                  · have _q : True := trivial
                    refine jx_ld (pc' := 101) (l' := L927) (st' := [.ref 66]) rfl (jl_aloadn gL927_0) ?_
                    refine jx_vr (pc' := 104) (as := []) (st := []) rfl rfl rfl rfl ⟨rfl, rfl, Nat.le_of_ble_eq_true rfl⟩ rfl rfl (c_bad (dd := d) (hd := by omega) (hW := hW932)  (fk := fk2_931) (e_fk := show G928 16 = fk2_931 from (e935))    ) (fun o V' hq => ?_)
                    obtain ⟨r950, rfl, rfl, b951, q952⟩ := hq
                    refine .inr ⟨_, rfl, ?_⟩
                    rcases q952 with ⟨rfl, a953⟩ | ⟨rfl, a954⟩
                    · have _q : True := trivial
                      refine jx_if_eq (pc' := 107) (tg := 108) rfl rfl rfl (by decide) (by decide) (fun h955 => ?_) (fun h955 => ?_)
                      · have _q := h955
                        exact absurd h955 (by omega)
                      · have _q := h955
                        refine jx_rt (v := none) rfl rfl rfl rfl rfl rfl ?_
                        exact ⟨_, _, ln2_930, at2_898, fk2_931, nd1, sy1, na1, vi, A 3 (ln2_930).toNat, ec1, rfl, rfl, hW932, hF937, hP938, hS939, hV940, (e934), ((hF933.1 10 rfl).trans (e904)), (e935), ((hF933.1 31 rfl).trans ((hF902.1 31 rfl).trans ((hF867.1 31 rfl).trans ((hF34.1 31 rfl).trans ((hF7.1 31 rfl).trans (ex_nd1)))))), ((hF933.1 19 rfl).trans ((hF902.1 19 rfl).trans ((hF867.1 19 rfl).trans ((hF34.1 19 rfl).trans ((hF7.1 19 rfl).trans (ex_sy1)))))), ((hF933.1 28 rfl).trans ((hF902.1 28 rfl).trans ((hF867.1 28 rfl).trans ((hF34.1 28 rfl).trans ((hF7.1 28 rfl).trans (ex_na1)))))), ((hF933.1 29 rfl).trans ((hF902.1 29 rfl).trans ((hF867.1 29 rfl).trans ((hF34.1 29 rfl).trans ((hF7.1 29 rfl).trans (fx_29)))))), (congrFun ((hF933.2 3 rfl).trans ((hF902.2 3 rfl).trans ((hF867.2 3 rfl).trans ((hF34.2 3 rfl).trans ((hF7.2 3 rfl).trans (hFx.2 3 rfl)))))) _), ec942, by omega, by omega, by omega, by omega, by omega, by omega, by first | exact Or.inl (by omega)⟩
                    · have _q : True := trivial
                      exfalso
                      omega
                · have _q : True := trivial
                  exfalso
                  omega
              · have _q := h893
                exact absurd h893 (by omega)
            · have _q : True := trivial
              exfalso
              omega
          · have _q : True := trivial
            exfalso
            omega
    · have _q : True := trivial
      refine jx_if_eq (pc' := 27) (tg := 125) rfl rfl rfl (by decide) (by decide) (fun h956 => ?_) (fun h956 => ?_)
      · have _q := h956
        refine jx_ld (pc' := 126) (l' := L) (st' := [.ref 66]) rfl (jl_aloadn gL_0) ?_
        refine jx_vr (pc' := 129) (as := []) (st := []) rfl rfl rfl rfl ⟨rfl, rfl, Nat.le_of_ble_eq_true rfl⟩ rfl rfl (c_bad (dd := d) (hd := by omega) (hW := hW6)  (fk := fk2_5) (e_fk := show G2 16 = fk2_5 from (e9))    ) (fun o V' hq => ?_)
        obtain ⟨r957, rfl, rfl, b958, q959⟩ := hq
        refine .inr ⟨_, rfl, ?_⟩
        rcases q959 with ⟨rfl, a960⟩ | ⟨rfl, a961⟩
        · have _q : True := trivial
          refine jx_if_ne (pc' := 132) (tg := 142) rfl rfl rfl (by decide) (by decide) (fun h962 => ?_) (fun h962 => ?_)
          · have _q := h962
            refine jx_rt (v := none) rfl rfl rfl rfl rfl rfl ?_
            exact ⟨_, _, ln1, at1, fk2_5, nd1, sy1, na1, vi, lf1, ec1, rfl, rfl, hW6, hF11, hP12, hS13, hV14, ((hF7.1 9 rfl).trans (ex_ln1)), ((hF7.1 10 rfl).trans (ex_at1)), (e9), ((hF7.1 31 rfl).trans (ex_nd1)), ((hF7.1 19 rfl).trans (ex_sy1)), ((hF7.1 28 rfl).trans (ex_na1)), ((hF7.1 29 rfl).trans (fx_29)), (congrFun (hF7.2 3 rfl) _).trans (ex_lf1), ec16, by omega, by omega, by omega, by omega, by omega, by omega, by first | exact Or.inl (by omega)⟩
          · have _q := h962
            exact absurd h962 (by omega)
        · have _q : True := trivial
          exfalso
          omega
      · have _q := h956
        exact absurd h956 (by omega)
    · have _q : True := trivial
      refine jx_if_eq (pc' := 27) (tg := 125) rfl rfl rfl (by decide) (by decide) (fun h963 => ?_) (fun h963 => ?_)
      · have _q := h963
        refine jx_ld (pc' := 126) (l' := L) (st' := [.ref 66]) rfl (jl_aloadn gL_0) ?_
        refine jx_vr (pc' := 129) (as := []) (st := []) rfl rfl rfl rfl ⟨rfl, rfl, Nat.le_of_ble_eq_true rfl⟩ rfl rfl (c_bad (dd := d) (hd := by omega) (hW := hW6)  (fk := fk2_5) (e_fk := show G2 16 = fk2_5 from (e9))    ) (fun o V' hq => ?_)
        obtain ⟨r964, rfl, rfl, b965, q966⟩ := hq
        refine .inr ⟨_, rfl, ?_⟩
        rcases q966 with ⟨rfl, a967⟩ | ⟨rfl, a968⟩
        · have _q : True := trivial
          exfalso
          omega
        · have _q : True := trivial
          refine jx_if_ne (pc' := 132) (tg := 142) rfl rfl rfl (by decide) (by decide) (fun h969 => ?_) (fun h969 => ?_)
          · have _q := h969
            exact absurd h969 (by omega)
          · have _q := h969
            refine jx_ld (pc' := 133) (l' := L) (st' := [.int (i32 (many))]) rfl (jl_iloadn gL_1) ?_
            refine jx_if_ne (pc' := 136) (tg := 142) rfl rfl rfl (Int.le_trans (by decide : (-2147483648 : Int) ≤ -2147483648) rx_many.1) (Int.le_trans rx_many.2 (by decide : (2147483647 : Int) ≤ 2147483647)) (fun h970 => ?_) (fun h970 => ?_)
            · have _q := h970
              refine jx_rt (v := none) rfl rfl rfl rfl rfl rfl ?_
              exact ⟨_, _, ln1, at1, fk2_5, nd1, sy1, na1, vi, lf1, ec1, rfl, rfl, hW6, hF11, hP12, hS13, hV14, ((hF7.1 9 rfl).trans (ex_ln1)), ((hF7.1 10 rfl).trans (ex_at1)), (e9), ((hF7.1 31 rfl).trans (ex_nd1)), ((hF7.1 19 rfl).trans (ex_sy1)), ((hF7.1 28 rfl).trans (ex_na1)), ((hF7.1 29 rfl).trans (fx_29)), (congrFun (hF7.2 3 rfl) _).trans (ex_lf1), ec16, by omega, by omega, by omega, by omega, by omega, by omega, by first | exact Or.inr ((⟨by omega, sf15, by omega⟩))⟩
            · have _q := h970
              refine jx_ld (pc' := 137) (l' := L) (st' := [.ref 66]) rfl (jl_aloadn gL_0) ?_
              refine jx_ar (pc' := 138) (st' := [.int (i32 (1)), .ref 66]) rfl rfl rfl rfl ?_
              refine jx_vr (pc' := 141) (as := [.int (i32 (1))]) (st := []) rfl rfl rfl rfl ⟨rfl, rfl, Nat.le_of_ble_eq_true rfl⟩ rfl rfl (c_needLevel (dd := d) (hd := by omega) (hW := hW6) (lv := 1) (ln := ln1) (e_ln := show G2 9 = ln1 from ((hF7.1 9 rfl).trans (ex_ln1))) (li := li) (e_li := show G2 3 = li from ((hF7.1 3 rfl).trans ((hFx.1 3 rfl).trans (e_li)))) (fk := fk2_5) (e_fk := show G2 16 = fk2_5 from (e9)) (ll := A 5 (ln1).toNat) (e_ll := show A3 5 (ln1).toNat = A 5 (ln1).toNat from (congrFun ((hF7.2 5 rfl).trans (hFx.2 5 rfl)) _))  (h_lv := ⟨(by decide), (by decide)⟩)  ) (fun o V' hq => ?_)
              obtain ⟨G971, A972, r973, fk2_974, rfl, rfl, hW975, hF976, b977, e978, q979⟩ := hq
              have hF980 := Fr_tr hF11 hF976 (Fr_sub (by decide)) (Fr_sub (by decide))
              have hP981 := Pf_f hP12 hF976 (by decide)
              have hS982 := Fx_f hS13 hF976 (by decide)
              have hV983 := Fx_f hV14 hF976 (by decide)
              have sf984 : wB A972 Vs pb (nd) (nd1) (sy) (sy1) := (show A972 = A3 from funext (fun k => hF976.2 k rfl)) ▸ sf15
              have ec985 : ecn A972 (G971 31) = ec1 := (ecn_f (hF976.2 15 rfl) (hF976.1 31 rfl)).trans ec16
              have bfk2_974 : (0 : Int) ≤ fk2_974 ∧ fk2_974 ≤ 6 := e978 ▸ hW975.1 16
              refine .inr ⟨_, rfl, ?_⟩
              rcases q979 with ⟨rfl, a986, a987, a988, a989⟩ | ⟨rfl, a990⟩
              · have _q : True := trivial
                have b991 : (0 : Int) ≤ A 4 (ln1).toNat ∧ A 4 (ln1).toNat ≤ 3000 := hW.2 4 _
                have lt992 : lf1 < A 4 (ln1).toNat := LT_at (LT_ext (((hF976.1 3 rfl).trans ((hF7.1 3 rfl).trans (hFx.1 3 rfl)))) (((hF976.2 3 rfl).trans ((hF7.2 3 rfl).trans (hFx.2 3 rfl)))) (((hF976.2 4 rfl).trans ((hF7.2 4 rfl).trans (hFx.2 4 rfl)))) i_LT) (show G971 3 = li from ((hF976.1 3 rfl).trans ((hF7.1 3 rfl).trans ((hFx.1 3 rfl).trans (e_li))))) (show A972 3 (ln1).toNat = lf1 from (congrFun ((hF976.2 3 rfl).trans (hF7.2 3 rfl)) _).trans (ex_lf1)) (show A972 4 (ln1).toNat = A 4 (ln1).toNat from (congrFun ((hF976.2 4 rfl).trans ((hF7.2 4 rfl).trans (hFx.2 4 rfl))) _)) (by omega) (by omega)
                refine jx_ar (pc' := 142) (st' := []) rfl rfl rfl rfl ?_
                refine jx_rt (v := none) rfl rfl rfl rfl rfl rfl ?_
                exact ⟨_, _, ln1, at1, fk2_974, nd1, sy1, na1, vi, lf1, ec1, rfl, rfl, hW975, hF980, hP981, hS982, hV983, ((hF976.1 9 rfl).trans ((hF7.1 9 rfl).trans (ex_ln1))), ((hF976.1 10 rfl).trans ((hF7.1 10 rfl).trans (ex_at1))), (e978), ((hF976.1 31 rfl).trans ((hF7.1 31 rfl).trans (ex_nd1))), ((hF976.1 19 rfl).trans ((hF7.1 19 rfl).trans (ex_sy1))), ((hF976.1 28 rfl).trans ((hF7.1 28 rfl).trans (ex_na1))), ((hF976.1 29 rfl).trans ((hF7.1 29 rfl).trans (fx_29))), (congrFun ((hF976.2 3 rfl).trans (hF7.2 3 rfl)) _).trans (ex_lf1), ec985, by omega, by omega, by omega, by omega, by omega, by omega, by first | exact Or.inr ((⟨by omega, sf984, by omega⟩))⟩
              · have _q : True := trivial
                refine jx_ar (pc' := 142) (st' := []) rfl rfl rfl rfl ?_
                refine jx_rt (v := none) rfl rfl rfl rfl rfl rfl ?_
                exact ⟨_, _, ln1, at1, fk2_974, nd1, sy1, na1, vi, lf1, ec1, rfl, rfl, hW975, hF980, hP981, hS982, hV983, ((hF976.1 9 rfl).trans ((hF7.1 9 rfl).trans (ex_ln1))), ((hF976.1 10 rfl).trans ((hF7.1 10 rfl).trans (ex_at1))), (e978), ((hF976.1 31 rfl).trans ((hF7.1 31 rfl).trans (ex_nd1))), ((hF976.1 19 rfl).trans ((hF7.1 19 rfl).trans (ex_sy1))), ((hF976.1 28 rfl).trans ((hF7.1 28 rfl).trans (ex_na1))), ((hF976.1 29 rfl).trans ((hF7.1 29 rfl).trans (fx_29))), (congrFun ((hF976.2 3 rfl).trans (hF7.2 3 rfl)) _).trans (ex_lf1), ec985, by omega, by omega, by omega, by omega, by omega, by omega, by first | exact Or.inl (by omega)⟩
      · have _q := h963
        exact absurd h963 (by omega)
set_option maxRecDepth 20000 in
set_option maxHeartbeats 4000000 in
theorem c_readPlaced_w {X : jX} {dd : Nat} {Vs : Nat → Prop} {sb pb : Int} (hvb : VB Vs sb) {c0 c1 : jC} {G : Nat → Int} {A : Nat → Nat → Int} {T : jH} {ln li at0 fk nd sy na vi le op0 tk0 ec : Int} (hd : 8 * 18 + 81 ≤ dd) (hW : Wk G A) (e_ln : G 9 = ln) (e_li : G 3 = li) (e_at0 : G 10 = at0) (e_fk : G 16 = fk) (e_nd : G 31 = nd) (e_sy : G 19 = sy) (e_na : G 28 = na) (e_vi : G 29 = vi) (e_le : A 4 (ln).toNat = le) (e_op0 : G 15 = op0) (e_tk0 : G 11 = tk0) (e_ec : ecn A (G 31) = ec) (i_LT : LT G A) (i_SV : SV Vs sb G A) (i_PQ : PQ Vs sb pb G A) (p_0 : fk = 0) (p_1 : 1 ≤ nd) (p_2 : ln < li) (p_3 : at0 ≤ le) (p_4 : nd ≤ 2 * at0 - tz tk0 + 30) (p_5 : sy ≤ na + 2) (p_6 : vi ≤ sy) (p_7 : sb ≤ sy) (p_8 : PZ A) (p_9 : nd + 5 * ec ≤ 2 * at0 - tz tk0 + 30) : wk X dd 311 [.ref 66] (rV c0 c1 G A T) (fun o V' => ∃ (G' : Nat → Int) (A' : Nat → Nat → Int) (ln2 : Int) (at2 : Int) (fk2 : Int) (nd2 : Int) (sy2 : Int) (na2 : Int) (vi2 : Int) (lf2 : Int) (ec2 : Int), V' = rV c0 c1 G' A' T ∧ o = .inl none ∧ Wk G' A' ∧ Fr [9, 10, 11, 12, 13, 14, 15, 16, 17, 18, 19, 28, 29, 31] [6, 7, 8, 9, 10, 11, 12, 14, 15, 16, 17, 18, 19, 20, 21, 22, 23, 24, 28, 36] G A G' A' ∧ Pf nd A A' ∧ Fx sr (sy) A A' ∧ Fx [14] (vi) A A' ∧ G' 9 = ln2 ∧ G' 10 = at2 ∧ G' 16 = fk2 ∧ G' 31 = nd2 ∧ G' 19 = sy2 ∧ G' 28 = na2 ∧ G' 29 = vi2 ∧ A' 3 (ln2).toNat = lf2 ∧ ecn A' (G' 31) = ec2 ∧ (nd ≤ nd2) ∧ (sy ≤ sy2) ∧ (sy2 ≤ na2 + 2) ∧ (vi2 = vi) ∧ (ln ≤ ln2) ∧ (ln2 ≤ li) ∧ (((1 ≤ fk2)) ∨ ((fk2 = 0) ∧ (wB A' Vs pb (nd) (nd2) (sy) (sy2)) ∧ (nd2 + 5 * ec2 ≤ 6050)))) := by
  obtain ⟨d, rfl⟩ : ∃ d, dd = d + 1 := ⟨dd - 1, by omega⟩
  refine wk_of (e := jm311) rfl (Nat.le_of_ble_eq_true rfl) ?_
  show wj X d jm311 (0, [(0, .ref 66)], [], rV c0 c1 G A T) _
  have hF0 : Fr [9, 10, 11, 12, 13, 14, 15, 16, 17, 18, 19, 28, 29, 31] [6, 7, 8, 9, 10, 11, 12, 14, 15, 16, 17, 18, 19, 20, 21, 22, 23, 24, 28, 36] G A G A := Fr_rf
  have hP0 : Pf nd A A := Pf_rf
  have hS0 : Fx sr (sy) A A := Fx_rf
  have hV0 : Fx [14] (vi) A A := Fx_rf
  have b_ln : (0 : Int) ≤ ln ∧ ln ≤ 3000 := e_ln ▸ hW.1 9
  have b_li : (0 : Int) ≤ li ∧ li ≤ 3000 := e_li ▸ hW.1 3
  have b_at0 : (0 : Int) ≤ at0 ∧ at0 ≤ 3002 := e_at0 ▸ hW.1 10
  have b_fk : (0 : Int) ≤ fk ∧ fk ≤ 6 := e_fk ▸ hW.1 16
  have b_nd : (0 : Int) ≤ nd ∧ nd ≤ 6999 := e_nd ▸ hW.1 31
  have b_sy : (0 : Int) ≤ sy ∧ sy ≤ 202 := e_sy ▸ hW.1 19
  have b_na : (0 : Int) ≤ na ∧ na ≤ 200 := e_na ▸ hW.1 28
  have b_vi : (0 : Int) ≤ vi ∧ vi ≤ 202 := e_vi ▸ hW.1 29
  have b_le : (0 : Int) ≤ le ∧ le ≤ 3000 := e_le ▸ hW.2 4 _
  have b_op0 : (-2147483648 : Int) ≤ op0 ∧ op0 ≤ 2147483647 := e_op0 ▸ hW.1 15
  have z_tk0 := tz_f tk0
  have b_tk0 : (0 : Int) ≤ tk0 ∧ tk0 ≤ 5 := e_tk0 ▸ hW.1 11
  refine jx_ld (pc' := 1) (l' := [(0, .ref 66)]) (st' := [.ref 66]) rfl (jl_aloadn rfl) ?_
  refine jx_vr (pc' := 4) (as := []) (st := []) rfl rfl rfl rfl ⟨rfl, rfl, Nat.le_of_ble_eq_true rfl⟩ rfl rfl (c_next (dd := d) (hd := by omega) (hW := hW)  (ln := ln) (e_ln := show G 9 = ln from (e_ln)) (le := le) (e_le := show A 4 (ln).toNat = le from (e_le)) (at0 := at0) (e_at0 := show G 10 = at0 from (e_at0))    (p_0 := by omega)) (fun o V' hq => ?_)
  obtain ⟨G993, A994, at2_995, tk2_996, rfl, rfl, hW997, hF998, e999, e1000, p1001, p1002, p1003, -⟩ := hq
  have hF1005 := Fr_tr hF0 hF998 (Fr_sub (by decide)) (Fr_sub (by decide))
  have hP1006 := Pf_f hP0 hF998 (by decide)
  have hS1007 := Fx_f hS0 hF998 (by decide)
  have hV1008 := Fx_f hV0 hF998 (by decide)
  have sf1009 : PZ A994 := (show A994 = A from funext (fun k => hF998.2 k rfl)) ▸ p_8
  have ec1010 : ecn A994 (G993 31) = ec := (ecn_f (hF998.2 15 rfl) (hF998.1 31 rfl)).trans e_ec
  have bat2_995 : (0 : Int) ≤ at2_995 ∧ at2_995 ≤ 3002 := e999 ▸ hW997.1 10
  have ztk2_996 := tz_b tk2_996
  have btk2_996 : (0 : Int) ≤ tk2_996 ∧ tk2_996 ≤ 5 := e1000 ▸ hW997.1 11
  refine .inl ⟨rfl, ?_⟩
  have pz1011 : at0 + tz tk2_996 ≤ at2_995 := by omega
  refine jx_ld (pc' := 5) (l' := [(0, .ref 66)]) (st' := [.ref 66]) rfl (jl_aloadn rfl) ?_
  refine jx_ld (pc' := 6) (l' := [(0, .ref 66)]) (st' := [.ref 66, .ref 66]) rfl (jl_aloadn rfl) ?_
  refine jx_ar (pc' := 7) (st' := [.int (i32 (2)), .ref 66, .ref 66]) rfl rfl rfl rfl ?_
  have b1012 : (-2147483648 : Int) ≤ G993 13 ∧ G993 13 ≤ 2147483647 := hW997.1 13
  refine jx_vr (pc' := 10) (as := [.int (i32 (2))]) (st := [.ref 66]) rfl rfl rfl rfl ⟨rfl, rfl, Nat.le_of_ble_eq_true rfl⟩ rfl rfl (c_isKey (dd := d) (hd := by omega) (hW := hW997) (k := 2) (tk := tk2_996) (e_tk := show G993 11 = tk2_996 from (e1000)) (tn := G993 13) (e_tn := show G993 13 = G993 13 from rfl)  (h_k := ⟨(by decide), (by decide)⟩)  ) (fun o V' hq => ?_)
  obtain ⟨r1013, rfl, rfl, b1014, q1015⟩ := hq
  refine .inr ⟨_, rfl, ?_⟩
  rcases q1015 with ⟨rfl, a1016, a1017, a1018⟩ | rfl
  · have _q : True := trivial
    refine jx_vr (pc' := 13) (as := [.int (i32 (1))]) (st := []) rfl rfl rfl rfl ⟨rfl, rfl, Nat.le_of_ble_eq_true rfl⟩ rfl rfl (c_need (dd := d) (hd := by omega) (hW := hW997) (g := 1) (ln := ln) (e_ln := show G993 9 = ln from ((hF998.1 9 rfl).trans (e_ln))) (le := le) (e_le := show A994 4 (ln).toNat = le from (congrFun (hF998.2 4 rfl) _).trans (e_le)) (at0 := at2_995) (e_at0 := show G993 10 = at2_995 from (e999)) (fk := fk) (e_fk := show G993 16 = fk from ((hF998.1 16 rfl).trans (e_fk))) (tk0 := tk2_996) (e_tk0 := show G993 11 = tk2_996 from (e1000))  (h_g := ⟨(by decide), (by decide)⟩)  (p_0 := by omega)) (fun o V' hq => ?_)
    obtain ⟨G1019, A1020, at2_1021, tk2_1022, fk2_1023, rfl, rfl, hW1024, hF1025, e1026, e1027, e1028, p1029, p1030, q1031⟩ := hq
    have hF1032 := Fr_tr hF1005 hF1025 (Fr_sub (by decide)) (Fr_sub (by decide))
    have hP1033 := Pf_f hP1006 hF1025 (by decide)
    have hS1034 := Fx_f hS1007 hF1025 (by decide)
    have hV1035 := Fx_f hV1008 hF1025 (by decide)
    have sf1036 : PZ A1020 := (show A1020 = A994 from funext (fun k => hF1025.2 k rfl)) ▸ sf1009
    have ec1037 : ecn A1020 (G1019 31) = ec := (ecn_f (hF1025.2 15 rfl) (hF1025.1 31 rfl)).trans ec1010
    have bat2_1021 : (0 : Int) ≤ at2_1021 ∧ at2_1021 ≤ 3002 := e1026 ▸ hW1024.1 10
    have ztk2_1022 := tz_b tk2_1022
    have btk2_1022 : (0 : Int) ≤ tk2_1022 ∧ tk2_1022 ≤ 5 := e1027 ▸ hW1024.1 11
    have bfk2_1023 : (0 : Int) ≤ fk2_1023 ∧ fk2_1023 ≤ 6 := e1028 ▸ hW1024.1 16
    refine .inl ⟨rfl, ?_⟩
    rcases q1031 with ⟨a1038, a1039, a1040, a1041⟩ | ⟨a1042, a1043, a1044, a1045⟩
    · have _q : True := trivial
      refine jx_ld (pc' := 14) (l' := [(0, .ref 66)]) (st' := [.ref 66]) rfl (jl_aloadn rfl) ?_
      refine jx_vr (pc' := 17) (as := []) (st := []) rfl rfl rfl rfl ⟨rfl, rfl, Nat.le_of_ble_eq_true rfl⟩ rfl rfl (c_endLine (dd := d) (hd := by omega) (hW := hW1024)  (ln := ln) (e_ln := show G1019 9 = ln from ((hF1025.1 9 rfl).trans ((hF998.1 9 rfl).trans (e_ln)))) (li := li) (e_li := show G1019 3 = li from ((hF1025.1 3 rfl).trans ((hF998.1 3 rfl).trans (e_li)))) (fk := fk2_1023) (e_fk := show G1019 16 = fk2_1023 from (e1028)) (tk0 := tk2_1022) (e_tk0 := show G1019 11 = tk2_1022 from (e1027))    (p_0 := by omega)) (fun o V' hq => ?_)
      obtain ⟨G1046, A1047, ln2_1048, fk2_1049, rfl, rfl, hW1050, hF1051, e1052, e1053, q1054⟩ := hq
      have hF1055 := Fr_tr hF1032 hF1051 (Fr_sub (by decide)) (Fr_sub (by decide))
      have hP1056 := Pf_f hP1033 hF1051 (by decide)
      have hS1057 := Fx_f hS1034 hF1051 (by decide)
      have hV1058 := Fx_f hV1035 hF1051 (by decide)
      have sf1059 : PZ A1047 := (show A1047 = A1020 from funext (fun k => hF1051.2 k rfl)) ▸ sf1036
      have ec1060 : ecn A1047 (G1046 31) = ec := (ecn_f (hF1051.2 15 rfl) (hF1051.1 31 rfl)).trans ec1037
      have bln2_1048 : (0 : Int) ≤ ln2_1048 ∧ ln2_1048 ≤ 3000 := e1052 ▸ hW1050.1 9
      have bfk2_1049 : (0 : Int) ≤ fk2_1049 ∧ fk2_1049 ≤ 6 := e1053 ▸ hW1050.1 16
      refine .inl ⟨rfl, ?_⟩
      rcases q1054 with ⟨a1061, a1062, a1063, a1064, a1065⟩ | ⟨a1066, a1067⟩
      · have _q : True := trivial
        exfalso
        omega
      · have _q : True := trivial
        refine jx_ar (pc' := 18) (st' := [.int (i32 (0))]) rfl rfl rfl rfl ?_
        refine jx_ld (pc' := 19) (l' := jSto1 [(0, .ref 66)] 1 (.int (i32 (0)))) (st' := []) rfl rfl ?_
        obtain ⟨L1068, eL1068⟩ : ∃ q, q = jSto1 [(0, .ref 66)] 1 (.int (i32 (0))) := ⟨_, rfl⟩
        rw [← eL1068]
        have gL1068_0 : jGet L1068 0 = some (.ref 66) := eL1068 ▸ jg_ne (by decide) (rfl : jGet [(0, .ref 66)] 0 = some (.ref 66)) rfl
        have gL1068_1 : jGet L1068 1 = some (.int (i32 (0))) := eL1068 ▸ jg_eq
        refine jx_ld (pc' := 20) (l' := L1068) (st' := [.ref 66]) rfl (jl_aloadn gL1068_0) ?_
        refine jx_ar (pc' := 21) (st' := [.int (i32 (0)), .ref 66]) rfl rfl rfl rfl ?_
        have b1069 : (-1 : Int) ≤ A 5 (ln2_1048).toNat ∧ A 5 (ln2_1048).toNat ≤ 15 := hW.2 5 _
        refine jx_vr (pc' := 24) (as := [.int (i32 (0))]) (st := []) rfl rfl rfl rfl ⟨rfl, rfl, Nat.le_of_ble_eq_true rfl⟩ rfl rfl (c_isBelow (dd := d) (hd := by omega) (hW := hW1050) (lv := 0) (ln := ln2_1048) (e_ln := show G1046 9 = ln2_1048 from (e1052)) (li := li) (e_li := show G1046 3 = li from ((hF1051.1 3 rfl).trans ((hF1025.1 3 rfl).trans ((hF998.1 3 rfl).trans (e_li))))) (fk := fk2_1049) (e_fk := show G1046 16 = fk2_1049 from (e1053)) (ll := A 5 (ln2_1048).toNat) (e_ll := show A1047 5 (ln2_1048).toNat = A 5 (ln2_1048).toNat from (congrFun ((hF1051.2 5 rfl).trans ((hF1025.2 5 rfl).trans (hF998.2 5 rfl))) _))  (h_lv := ⟨(by decide), (by decide)⟩)  (p_0 := by omega)) (fun o V' hq => ?_)
        obtain ⟨G1070, A1071, r1072, fk2_1073, rfl, rfl, hW1074, hF1075, b1076, e1077, q1078⟩ := hq
        have hF1079 := Fr_tr hF1055 hF1075 (Fr_sub (by decide)) (Fr_sub (by decide))
        have hP1080 := Pf_f hP1056 hF1075 (by decide)
        have hS1081 := Fx_f hS1057 hF1075 (by decide)
        have hV1082 := Fx_f hV1058 hF1075 (by decide)
        have sf1083 : PZ A1071 := (show A1071 = A1047 from funext (fun k => hF1075.2 k rfl)) ▸ sf1059
        have ec1084 : ecn A1071 (G1070 31) = ec := (ecn_f (hF1075.2 15 rfl) (hF1075.1 31 rfl)).trans ec1060
        have bfk2_1073 : (0 : Int) ≤ fk2_1073 ∧ fk2_1073 ≤ 6 := e1077 ▸ hW1074.1 16
        refine .inr ⟨_, rfl, ?_⟩
        rcases q1078 with ⟨rfl, a1085, a1086, a1087, a1088⟩ | ⟨rfl, a1089⟩ | ⟨rfl, a1090, a1091, a1092⟩
        · have _q : True := trivial
          exfalso
          omega
        · have _q : True := trivial
          refine jx_if_eq (pc' := 27) (tg := 125) rfl rfl rfl (by decide) (by decide) (fun h1093 => ?_) (fun h1093 => ?_)
          · have _q := h1093
            refine jx_ld (pc' := 126) (l' := L1068) (st' := [.ref 66]) rfl (jl_aloadn gL1068_0) ?_
            refine jx_vr (pc' := 129) (as := []) (st := []) rfl rfl rfl rfl ⟨rfl, rfl, Nat.le_of_ble_eq_true rfl⟩ rfl rfl (c_bad (dd := d) (hd := by omega) (hW := hW1074)  (fk := fk2_1073) (e_fk := show G1070 16 = fk2_1073 from (e1077))    ) (fun o V' hq => ?_)
            obtain ⟨r1094, rfl, rfl, b1095, q1096⟩ := hq
            refine .inr ⟨_, rfl, ?_⟩
            rcases q1096 with ⟨rfl, a1097⟩ | ⟨rfl, a1098⟩
            · have _q : True := trivial
              refine jx_if_ne (pc' := 132) (tg := 142) rfl rfl rfl (by decide) (by decide) (fun h1099 => ?_) (fun h1099 => ?_)
              · have _q := h1099
                refine jx_rt (v := none) rfl rfl rfl rfl rfl rfl ?_
                exact ⟨_, _, ln2_1048, at2_1021, fk2_1073, nd, sy, na, vi, A 3 (ln2_1048).toNat, ec, rfl, rfl, hW1074, hF1079, hP1080, hS1081, hV1082, ((hF1075.1 9 rfl).trans (e1052)), ((hF1075.1 10 rfl).trans ((hF1051.1 10 rfl).trans (e1026))), (e1077), ((hF1075.1 31 rfl).trans ((hF1051.1 31 rfl).trans ((hF1025.1 31 rfl).trans ((hF998.1 31 rfl).trans (e_nd))))), ((hF1075.1 19 rfl).trans ((hF1051.1 19 rfl).trans ((hF1025.1 19 rfl).trans ((hF998.1 19 rfl).trans (e_sy))))), ((hF1075.1 28 rfl).trans ((hF1051.1 28 rfl).trans ((hF1025.1 28 rfl).trans ((hF998.1 28 rfl).trans (e_na))))), ((hF1075.1 29 rfl).trans ((hF1051.1 29 rfl).trans ((hF1025.1 29 rfl).trans ((hF998.1 29 rfl).trans (e_vi))))), (congrFun ((hF1075.2 3 rfl).trans ((hF1051.2 3 rfl).trans ((hF1025.2 3 rfl).trans (hF998.2 3 rfl)))) _), ec1084, by omega, by omega, by omega, by omega, by omega, by omega, by first | exact Or.inl (by omega)⟩
              · have _q := h1099
                exact absurd h1099 (by omega)
            · have _q : True := trivial
              exfalso
              omega
          · have _q := h1093
            exact absurd h1093 (by omega)
        · have _q : True := trivial
          exfalso
          omega
    · have _q : True := trivial
      have pz1100 : at2_995 + tz tk2_1022 ≤ at2_1021 := by omega
      refine jx_ld (pc' := 14) (l' := [(0, .ref 66)]) (st' := [.ref 66]) rfl (jl_aloadn rfl) ?_
      refine jx_vr (pc' := 17) (as := []) (st := []) rfl rfl rfl rfl ⟨rfl, rfl, Nat.le_of_ble_eq_true rfl⟩ rfl rfl (c_endLine (dd := d) (hd := by omega) (hW := hW1024)  (ln := ln) (e_ln := show G1019 9 = ln from ((hF1025.1 9 rfl).trans ((hF998.1 9 rfl).trans (e_ln)))) (li := li) (e_li := show G1019 3 = li from ((hF1025.1 3 rfl).trans ((hF998.1 3 rfl).trans (e_li)))) (fk := fk2_1023) (e_fk := show G1019 16 = fk2_1023 from (e1028)) (tk0 := tk2_1022) (e_tk0 := show G1019 11 = tk2_1022 from (e1027))    (p_0 := by omega)) (fun o V' hq => ?_)
      obtain ⟨G1101, A1102, ln2_1103, fk2_1104, rfl, rfl, hW1105, hF1106, e1107, e1108, q1109⟩ := hq
      have hF1110 := Fr_tr hF1032 hF1106 (Fr_sub (by decide)) (Fr_sub (by decide))
      have hP1111 := Pf_f hP1033 hF1106 (by decide)
      have hS1112 := Fx_f hS1034 hF1106 (by decide)
      have hV1113 := Fx_f hV1035 hF1106 (by decide)
      have sf1114 : PZ A1102 := (show A1102 = A1020 from funext (fun k => hF1106.2 k rfl)) ▸ sf1036
      have ec1115 : ecn A1102 (G1101 31) = ec := (ecn_f (hF1106.2 15 rfl) (hF1106.1 31 rfl)).trans ec1037
      have bln2_1103 : (0 : Int) ≤ ln2_1103 ∧ ln2_1103 ≤ 3000 := e1107 ▸ hW1105.1 9
      have bfk2_1104 : (0 : Int) ≤ fk2_1104 ∧ fk2_1104 ≤ 6 := e1108 ▸ hW1105.1 16
      refine .inl ⟨rfl, ?_⟩
      rcases q1109 with ⟨a1116, a1117, a1118, a1119, a1120⟩ | ⟨a1121, a1122⟩
      · have _q : True := trivial
        have b1123 : (0 : Int) ≤ A 3 (ln2_1103).toNat ∧ A 3 (ln2_1103).toNat ≤ 3000 := hW.2 3 _
        have lt1124 : ln2_1103 < li → le < A 3 (ln2_1103).toNat := fun hh => LT_nx (LT_ext (((hF1106.1 3 rfl).trans ((hF1025.1 3 rfl).trans (hF998.1 3 rfl)))) (((hF1106.2 3 rfl).trans ((hF1025.2 3 rfl).trans (hF998.2 3 rfl)))) (((hF1106.2 4 rfl).trans ((hF1025.2 4 rfl).trans (hF998.2 4 rfl)))) i_LT) (show G1101 3 = li from ((hF1106.1 3 rfl).trans ((hF1025.1 3 rfl).trans ((hF998.1 3 rfl).trans (e_li))))) (show A1102 4 (ln).toNat = le from (congrFun ((hF1106.2 4 rfl).trans ((hF1025.2 4 rfl).trans (hF998.2 4 rfl))) _).trans (e_le)) (show A1102 3 (ln2_1103).toNat = A 3 (ln2_1103).toNat from (congrFun ((hF1106.2 3 rfl).trans ((hF1025.2 3 rfl).trans (hF998.2 3 rfl))) _)) (show ln2_1103 = ln + 1 by omega) (by omega) hh
        refine jx_ar (pc' := 18) (st' := [.int (i32 (0))]) rfl rfl rfl rfl ?_
        refine jx_ld (pc' := 19) (l' := jSto1 [(0, .ref 66)] 1 (.int (i32 (0)))) (st' := []) rfl rfl ?_
        obtain ⟨L1125, eL1125⟩ : ∃ q, q = jSto1 [(0, .ref 66)] 1 (.int (i32 (0))) := ⟨_, rfl⟩
        rw [← eL1125]
        have gL1125_0 : jGet L1125 0 = some (.ref 66) := eL1125 ▸ jg_ne (by decide) (rfl : jGet [(0, .ref 66)] 0 = some (.ref 66)) rfl
        have gL1125_1 : jGet L1125 1 = some (.int (i32 (0))) := eL1125 ▸ jg_eq
        exact c_readPlaced_w_at_19 (X := X) (d := d) (Vs := Vs) (sb := sb) (pb := pb) (hvb := hvb) (c0 := c0) (c1 := c1) (G := G) (A := A) (T := T) (ln := ln) (li := li) (at0 := at0) (fk := fk) (nd := nd) (sy := sy) (na := na) (vi := vi) (le := le) (op0 := op0) (tk0 := tk0) (ec := ec) (hd := hd) (hW := hW) (e_ln := e_ln) (e_li := e_li) (e_at0 := e_at0) (e_fk := e_fk) (e_nd := e_nd) (e_sy := e_sy) (e_na := e_na) (e_vi := e_vi) (e_le := e_le) (e_op0 := e_op0) (e_tk0 := e_tk0) (e_ec := e_ec) (i_LT := i_LT) (i_SV := i_SV) (i_PQ := i_PQ) (p_0 := p_0) (p_1 := p_1) (p_2 := p_2) (p_3 := p_3) (p_4 := p_4) (p_5 := p_5) (p_6 := p_6) (p_7 := p_7) (p_8 := p_8) (p_9 := p_9) _ L1125 G1101 A1102 (0) (ln2_1103) (at2_1021) (fk2_1104) (nd) (sy) (na) (A 3 (ln2_1103).toNat) (ec) rfl gL1125_0 gL1125_1 hW1105 hF1110 hP1111 hS1112 hV1113 ((e1107)) (((hF1106.1 10 rfl).trans (e1026))) ((e1108)) (((hF1106.1 31 rfl).trans ((hF1025.1 31 rfl).trans ((hF998.1 31 rfl).trans (e_nd))))) (((hF1106.1 19 rfl).trans ((hF1025.1 19 rfl).trans ((hF998.1 19 rfl).trans (e_sy))))) (((hF1106.1 28 rfl).trans ((hF1025.1 28 rfl).trans ((hF998.1 28 rfl).trans (e_na))))) ((congrFun ((hF1106.2 3 rfl).trans ((hF1025.2 3 rfl).trans (hF998.2 3 rfl))) _)) (ec1115) (((hF1106.1 29 rfl).trans ((hF1025.1 29 rfl).trans ((hF998.1 29 rfl).trans (e_vi))))) (by omega) (by omega) (by omega) (by omega) (by omega) (by omega) (by omega) (by omega) (by omega) (by omega) (by omega) (by omega) ((wB_nil sf1114 (by omega) (by omega))) (by omega) (by omega)
      · have _q : True := trivial
        refine jx_ar (pc' := 18) (st' := [.int (i32 (0))]) rfl rfl rfl rfl ?_
        refine jx_ld (pc' := 19) (l' := jSto1 [(0, .ref 66)] 1 (.int (i32 (0)))) (st' := []) rfl rfl ?_
        obtain ⟨L1126, eL1126⟩ : ∃ q, q = jSto1 [(0, .ref 66)] 1 (.int (i32 (0))) := ⟨_, rfl⟩
        rw [← eL1126]
        have gL1126_0 : jGet L1126 0 = some (.ref 66) := eL1126 ▸ jg_ne (by decide) (rfl : jGet [(0, .ref 66)] 0 = some (.ref 66)) rfl
        have gL1126_1 : jGet L1126 1 = some (.int (i32 (0))) := eL1126 ▸ jg_eq
        refine jx_ld (pc' := 20) (l' := L1126) (st' := [.ref 66]) rfl (jl_aloadn gL1126_0) ?_
        refine jx_ar (pc' := 21) (st' := [.int (i32 (0)), .ref 66]) rfl rfl rfl rfl ?_
        have b1127 : (-1 : Int) ≤ A 5 (ln2_1103).toNat ∧ A 5 (ln2_1103).toNat ≤ 15 := hW.2 5 _
        refine jx_vr (pc' := 24) (as := [.int (i32 (0))]) (st := []) rfl rfl rfl rfl ⟨rfl, rfl, Nat.le_of_ble_eq_true rfl⟩ rfl rfl (c_isBelow (dd := d) (hd := by omega) (hW := hW1105) (lv := 0) (ln := ln2_1103) (e_ln := show G1101 9 = ln2_1103 from (e1107)) (li := li) (e_li := show G1101 3 = li from ((hF1106.1 3 rfl).trans ((hF1025.1 3 rfl).trans ((hF998.1 3 rfl).trans (e_li))))) (fk := fk2_1104) (e_fk := show G1101 16 = fk2_1104 from (e1108)) (ll := A 5 (ln2_1103).toNat) (e_ll := show A1102 5 (ln2_1103).toNat = A 5 (ln2_1103).toNat from (congrFun ((hF1106.2 5 rfl).trans ((hF1025.2 5 rfl).trans (hF998.2 5 rfl))) _))  (h_lv := ⟨(by decide), (by decide)⟩)  (p_0 := by omega)) (fun o V' hq => ?_)
        obtain ⟨G1128, A1129, r1130, fk2_1131, rfl, rfl, hW1132, hF1133, b1134, e1135, q1136⟩ := hq
        have hF1137 := Fr_tr hF1110 hF1133 (Fr_sub (by decide)) (Fr_sub (by decide))
        have hP1138 := Pf_f hP1111 hF1133 (by decide)
        have hS1139 := Fx_f hS1112 hF1133 (by decide)
        have hV1140 := Fx_f hV1113 hF1133 (by decide)
        have sf1141 : PZ A1129 := (show A1129 = A1102 from funext (fun k => hF1133.2 k rfl)) ▸ sf1114
        have ec1142 : ecn A1129 (G1128 31) = ec := (ecn_f (hF1133.2 15 rfl) (hF1133.1 31 rfl)).trans ec1115
        have bfk2_1131 : (0 : Int) ≤ fk2_1131 ∧ fk2_1131 ≤ 6 := e1135 ▸ hW1132.1 16
        refine .inr ⟨_, rfl, ?_⟩
        rcases q1136 with ⟨rfl, a1143, a1144, a1145, a1146⟩ | ⟨rfl, a1147⟩ | ⟨rfl, a1148, a1149, a1150⟩
        · have _q : True := trivial
          exfalso
          omega
        · have _q : True := trivial
          refine jx_if_eq (pc' := 27) (tg := 125) rfl rfl rfl (by decide) (by decide) (fun h1151 => ?_) (fun h1151 => ?_)
          · have _q := h1151
            refine jx_ld (pc' := 126) (l' := L1126) (st' := [.ref 66]) rfl (jl_aloadn gL1126_0) ?_
            refine jx_vr (pc' := 129) (as := []) (st := []) rfl rfl rfl rfl ⟨rfl, rfl, Nat.le_of_ble_eq_true rfl⟩ rfl rfl (c_bad (dd := d) (hd := by omega) (hW := hW1132)  (fk := fk2_1131) (e_fk := show G1128 16 = fk2_1131 from (e1135))    ) (fun o V' hq => ?_)
            obtain ⟨r1152, rfl, rfl, b1153, q1154⟩ := hq
            refine .inr ⟨_, rfl, ?_⟩
            rcases q1154 with ⟨rfl, a1155⟩ | ⟨rfl, a1156⟩
            · have _q : True := trivial
              refine jx_if_ne (pc' := 132) (tg := 142) rfl rfl rfl (by decide) (by decide) (fun h1157 => ?_) (fun h1157 => ?_)
              · have _q := h1157
                refine jx_rt (v := none) rfl rfl rfl rfl rfl rfl ?_
                exact ⟨_, _, ln2_1103, at2_1021, fk2_1131, nd, sy, na, vi, A 3 (ln2_1103).toNat, ec, rfl, rfl, hW1132, hF1137, hP1138, hS1139, hV1140, ((hF1133.1 9 rfl).trans (e1107)), ((hF1133.1 10 rfl).trans ((hF1106.1 10 rfl).trans (e1026))), (e1135), ((hF1133.1 31 rfl).trans ((hF1106.1 31 rfl).trans ((hF1025.1 31 rfl).trans ((hF998.1 31 rfl).trans (e_nd))))), ((hF1133.1 19 rfl).trans ((hF1106.1 19 rfl).trans ((hF1025.1 19 rfl).trans ((hF998.1 19 rfl).trans (e_sy))))), ((hF1133.1 28 rfl).trans ((hF1106.1 28 rfl).trans ((hF1025.1 28 rfl).trans ((hF998.1 28 rfl).trans (e_na))))), ((hF1133.1 29 rfl).trans ((hF1106.1 29 rfl).trans ((hF1025.1 29 rfl).trans ((hF998.1 29 rfl).trans (e_vi))))), (congrFun ((hF1133.2 3 rfl).trans ((hF1106.2 3 rfl).trans ((hF1025.2 3 rfl).trans (hF998.2 3 rfl)))) _), ec1142, by omega, by omega, by omega, by omega, by omega, by omega, by first | exact Or.inl (by omega)⟩
              · have _q := h1157
                exact absurd h1157 (by omega)
            · have _q : True := trivial
              exfalso
              omega
          · have _q := h1151
            exact absurd h1151 (by omega)
        · have _q : True := trivial
          exfalso
          omega
  · have _q : True := trivial
    refine jx_vr (pc' := 13) (as := [.int (i32 (0))]) (st := []) rfl rfl rfl rfl ⟨rfl, rfl, Nat.le_of_ble_eq_true rfl⟩ rfl rfl (c_need (dd := d) (hd := by omega) (hW := hW997) (g := 0) (ln := ln) (e_ln := show G993 9 = ln from ((hF998.1 9 rfl).trans (e_ln))) (le := le) (e_le := show A994 4 (ln).toNat = le from (congrFun (hF998.2 4 rfl) _).trans (e_le)) (at0 := at2_995) (e_at0 := show G993 10 = at2_995 from (e999)) (fk := fk) (e_fk := show G993 16 = fk from ((hF998.1 16 rfl).trans (e_fk))) (tk0 := tk2_996) (e_tk0 := show G993 11 = tk2_996 from (e1000))  (h_g := ⟨(by decide), (by decide)⟩)  (p_0 := by omega)) (fun o V' hq => ?_)
    obtain ⟨G1158, A1159, at2_1160, tk2_1161, fk2_1162, rfl, rfl, hW1163, hF1164, e1165, e1166, e1167, p1168, p1169, q1170⟩ := hq
    have hF1171 := Fr_tr hF1005 hF1164 (Fr_sub (by decide)) (Fr_sub (by decide))
    have hP1172 := Pf_f hP1006 hF1164 (by decide)
    have hS1173 := Fx_f hS1007 hF1164 (by decide)
    have hV1174 := Fx_f hV1008 hF1164 (by decide)
    have sf1175 : PZ A1159 := (show A1159 = A994 from funext (fun k => hF1164.2 k rfl)) ▸ sf1009
    have ec1176 : ecn A1159 (G1158 31) = ec := (ecn_f (hF1164.2 15 rfl) (hF1164.1 31 rfl)).trans ec1010
    have bat2_1160 : (0 : Int) ≤ at2_1160 ∧ at2_1160 ≤ 3002 := e1165 ▸ hW1163.1 10
    have ztk2_1161 := tz_b tk2_1161
    have btk2_1161 : (0 : Int) ≤ tk2_1161 ∧ tk2_1161 ≤ 5 := e1166 ▸ hW1163.1 11
    have bfk2_1162 : (0 : Int) ≤ fk2_1162 ∧ fk2_1162 ≤ 6 := e1167 ▸ hW1163.1 16
    refine .inl ⟨rfl, ?_⟩
    rcases q1170 with ⟨a1177, a1178, a1179, a1180⟩ | ⟨a1181, a1182, a1183, a1184⟩
    · have _q : True := trivial
      refine jx_ld (pc' := 14) (l' := [(0, .ref 66)]) (st' := [.ref 66]) rfl (jl_aloadn rfl) ?_
      refine jx_vr (pc' := 17) (as := []) (st := []) rfl rfl rfl rfl ⟨rfl, rfl, Nat.le_of_ble_eq_true rfl⟩ rfl rfl (c_endLine (dd := d) (hd := by omega) (hW := hW1163)  (ln := ln) (e_ln := show G1158 9 = ln from ((hF1164.1 9 rfl).trans ((hF998.1 9 rfl).trans (e_ln)))) (li := li) (e_li := show G1158 3 = li from ((hF1164.1 3 rfl).trans ((hF998.1 3 rfl).trans (e_li)))) (fk := fk2_1162) (e_fk := show G1158 16 = fk2_1162 from (e1167)) (tk0 := tk2_1161) (e_tk0 := show G1158 11 = tk2_1161 from (e1166))    (p_0 := by omega)) (fun o V' hq => ?_)
      obtain ⟨G1185, A1186, ln2_1187, fk2_1188, rfl, rfl, hW1189, hF1190, e1191, e1192, q1193⟩ := hq
      have hF1194 := Fr_tr hF1171 hF1190 (Fr_sub (by decide)) (Fr_sub (by decide))
      have hP1195 := Pf_f hP1172 hF1190 (by decide)
      have hS1196 := Fx_f hS1173 hF1190 (by decide)
      have hV1197 := Fx_f hV1174 hF1190 (by decide)
      have sf1198 : PZ A1186 := (show A1186 = A1159 from funext (fun k => hF1190.2 k rfl)) ▸ sf1175
      have ec1199 : ecn A1186 (G1185 31) = ec := (ecn_f (hF1190.2 15 rfl) (hF1190.1 31 rfl)).trans ec1176
      have bln2_1187 : (0 : Int) ≤ ln2_1187 ∧ ln2_1187 ≤ 3000 := e1191 ▸ hW1189.1 9
      have bfk2_1188 : (0 : Int) ≤ fk2_1188 ∧ fk2_1188 ≤ 6 := e1192 ▸ hW1189.1 16
      refine .inl ⟨rfl, ?_⟩
      rcases q1193 with ⟨a1200, a1201, a1202, a1203, a1204⟩ | ⟨a1205, a1206⟩
      · have _q : True := trivial
        exfalso
        omega
      · have _q : True := trivial
        refine jx_ar (pc' := 18) (st' := [.int (i32 (0))]) rfl rfl rfl rfl ?_
        refine jx_ld (pc' := 19) (l' := jSto1 [(0, .ref 66)] 1 (.int (i32 (0)))) (st' := []) rfl rfl ?_
        obtain ⟨L1207, eL1207⟩ : ∃ q, q = jSto1 [(0, .ref 66)] 1 (.int (i32 (0))) := ⟨_, rfl⟩
        rw [← eL1207]
        have gL1207_0 : jGet L1207 0 = some (.ref 66) := eL1207 ▸ jg_ne (by decide) (rfl : jGet [(0, .ref 66)] 0 = some (.ref 66)) rfl
        have gL1207_1 : jGet L1207 1 = some (.int (i32 (0))) := eL1207 ▸ jg_eq
        refine jx_ld (pc' := 20) (l' := L1207) (st' := [.ref 66]) rfl (jl_aloadn gL1207_0) ?_
        refine jx_ar (pc' := 21) (st' := [.int (i32 (0)), .ref 66]) rfl rfl rfl rfl ?_
        have b1208 : (-1 : Int) ≤ A 5 (ln2_1187).toNat ∧ A 5 (ln2_1187).toNat ≤ 15 := hW.2 5 _
        refine jx_vr (pc' := 24) (as := [.int (i32 (0))]) (st := []) rfl rfl rfl rfl ⟨rfl, rfl, Nat.le_of_ble_eq_true rfl⟩ rfl rfl (c_isBelow (dd := d) (hd := by omega) (hW := hW1189) (lv := 0) (ln := ln2_1187) (e_ln := show G1185 9 = ln2_1187 from (e1191)) (li := li) (e_li := show G1185 3 = li from ((hF1190.1 3 rfl).trans ((hF1164.1 3 rfl).trans ((hF998.1 3 rfl).trans (e_li))))) (fk := fk2_1188) (e_fk := show G1185 16 = fk2_1188 from (e1192)) (ll := A 5 (ln2_1187).toNat) (e_ll := show A1186 5 (ln2_1187).toNat = A 5 (ln2_1187).toNat from (congrFun ((hF1190.2 5 rfl).trans ((hF1164.2 5 rfl).trans (hF998.2 5 rfl))) _))  (h_lv := ⟨(by decide), (by decide)⟩)  (p_0 := by omega)) (fun o V' hq => ?_)
        obtain ⟨G1209, A1210, r1211, fk2_1212, rfl, rfl, hW1213, hF1214, b1215, e1216, q1217⟩ := hq
        have hF1218 := Fr_tr hF1194 hF1214 (Fr_sub (by decide)) (Fr_sub (by decide))
        have hP1219 := Pf_f hP1195 hF1214 (by decide)
        have hS1220 := Fx_f hS1196 hF1214 (by decide)
        have hV1221 := Fx_f hV1197 hF1214 (by decide)
        have sf1222 : PZ A1210 := (show A1210 = A1186 from funext (fun k => hF1214.2 k rfl)) ▸ sf1198
        have ec1223 : ecn A1210 (G1209 31) = ec := (ecn_f (hF1214.2 15 rfl) (hF1214.1 31 rfl)).trans ec1199
        have bfk2_1212 : (0 : Int) ≤ fk2_1212 ∧ fk2_1212 ≤ 6 := e1216 ▸ hW1213.1 16
        refine .inr ⟨_, rfl, ?_⟩
        rcases q1217 with ⟨rfl, a1224, a1225, a1226, a1227⟩ | ⟨rfl, a1228⟩ | ⟨rfl, a1229, a1230, a1231⟩
        · have _q : True := trivial
          exfalso
          omega
        · have _q : True := trivial
          refine jx_if_eq (pc' := 27) (tg := 125) rfl rfl rfl (by decide) (by decide) (fun h1232 => ?_) (fun h1232 => ?_)
          · have _q := h1232
            refine jx_ld (pc' := 126) (l' := L1207) (st' := [.ref 66]) rfl (jl_aloadn gL1207_0) ?_
            refine jx_vr (pc' := 129) (as := []) (st := []) rfl rfl rfl rfl ⟨rfl, rfl, Nat.le_of_ble_eq_true rfl⟩ rfl rfl (c_bad (dd := d) (hd := by omega) (hW := hW1213)  (fk := fk2_1212) (e_fk := show G1209 16 = fk2_1212 from (e1216))    ) (fun o V' hq => ?_)
            obtain ⟨r1233, rfl, rfl, b1234, q1235⟩ := hq
            refine .inr ⟨_, rfl, ?_⟩
            rcases q1235 with ⟨rfl, a1236⟩ | ⟨rfl, a1237⟩
            · have _q : True := trivial
              refine jx_if_ne (pc' := 132) (tg := 142) rfl rfl rfl (by decide) (by decide) (fun h1238 => ?_) (fun h1238 => ?_)
              · have _q := h1238
                refine jx_rt (v := none) rfl rfl rfl rfl rfl rfl ?_
                exact ⟨_, _, ln2_1187, at2_1160, fk2_1212, nd, sy, na, vi, A 3 (ln2_1187).toNat, ec, rfl, rfl, hW1213, hF1218, hP1219, hS1220, hV1221, ((hF1214.1 9 rfl).trans (e1191)), ((hF1214.1 10 rfl).trans ((hF1190.1 10 rfl).trans (e1165))), (e1216), ((hF1214.1 31 rfl).trans ((hF1190.1 31 rfl).trans ((hF1164.1 31 rfl).trans ((hF998.1 31 rfl).trans (e_nd))))), ((hF1214.1 19 rfl).trans ((hF1190.1 19 rfl).trans ((hF1164.1 19 rfl).trans ((hF998.1 19 rfl).trans (e_sy))))), ((hF1214.1 28 rfl).trans ((hF1190.1 28 rfl).trans ((hF1164.1 28 rfl).trans ((hF998.1 28 rfl).trans (e_na))))), ((hF1214.1 29 rfl).trans ((hF1190.1 29 rfl).trans ((hF1164.1 29 rfl).trans ((hF998.1 29 rfl).trans (e_vi))))), (congrFun ((hF1214.2 3 rfl).trans ((hF1190.2 3 rfl).trans ((hF1164.2 3 rfl).trans (hF998.2 3 rfl)))) _), ec1223, by omega, by omega, by omega, by omega, by omega, by omega, by first | exact Or.inl (by omega)⟩
              · have _q := h1238
                exact absurd h1238 (by omega)
            · have _q : True := trivial
              exfalso
              omega
          · have _q := h1232
            exact absurd h1232 (by omega)
        · have _q : True := trivial
          exfalso
          omega
    · have _q : True := trivial
      exfalso
      omega
set_option maxRecDepth 20000 in
set_option maxHeartbeats 4000000 in
theorem c_readProgram_w_at_141_1 {X : jX} {d : Nat} {c0 c1 : jC} {G : Nat → Int} {A : Nat → Nat → Int} {T : jH} {ln li fk nd sy na vi lf pc lk ec : Int} (hd : 8 * 18 + 82 ≤ d + 1) (hW : Wk G A) (e_ln : G 9 = ln) (e_li : G 3 = li) (e_fk : G 16 = fk) (e_nd : G 31 = nd) (e_sy : G 19 = sy) (e_na : G 28 = na) (e_vi : G 29 = vi) (e_lf : A 3 (ln).toNat = lf) (e_pc : G 46 = pc) (e_lk : G 52 = lk) (e_ec : ecn A (G 31) = ec) (i_LT : LT G A) (p_0 : fk = 0) (p_1 : ln = 0) (p_2 : nd = 1) (p_3 : sy = 0) (p_4 : na = 0) (p_5 : vi = 0) (p_6 : pc = 0) (p_7 : lk = 0) (p_8 : PZ A) (p_9 : ec = 0) : ∀ (L : jL) (Gx : Nat → Int) (Ax : Nat → Nat → Int) (ln1 at1 tk1 fk1 op1 nd1 sy1 na1 vi1 lf1 le1 pc1 lk1 ec1 : Int), jGet L 0 = some (.ref 66) → jGet L 2 = some (.int (i32 (1))) → Wk Gx Ax → Fr [9, 10, 11, 12, 13, 14, 15, 16, 17, 18, 19, 28, 29, 31, 46, 52] [6, 7, 8, 9, 10, 11, 12, 14, 15, 16, 17, 18, 19, 20, 21, 22, 23, 24, 28, 29, 30, 31, 34, 35, 36] G A Gx Ax → Gx 9 = ln1 → Gx 10 = at1 → Gx 11 = tk1 → Gx 16 = fk1 → Gx 15 = op1 → Gx 31 = nd1 → Gx 19 = sy1 → Gx 28 = na1 → Gx 29 = vi1 → Ax 3 (ln1).toNat = lf1 → Ax 4 (ln1).toNat = le1 → Gx 46 = pc1 → Gx 52 = lk1 → ecn Ax (Gx 31) = ec1 → (fk1 = 0) → (0 ≤ lf1) → (ln1 < li) → (lf1 < le1) → (2 * lf1 ≤ 2 * at1 - tz tk1) → (lf1 ≤ at1) → (at1 ≤ le1) → (nd1 ≤ 2 * lf1 + 2) → (op1 = 0) → (sy1 ≤ na1 + 2) → (vi1 ≤ sy1) → (PZ Ax) → (TL Ax (pc1) (nd1) (sy1) (lk1) (vi1)) → (nd1 + 5 * ec1 ≤ 2 * lf1 + 2) → wj X d jm312 (141, L, [], rV c0 c1 Gx Ax T) (fun o V' => ∃ (G' : Nat → Int) (A' : Nat → Nat → Int) (ln2 : Int) (fk2 : Int) (nd2 : Int) (sy2 : Int) (na2 : Int) (vi2 : Int) (pc2 : Int) (lk2 : Int) (ec2 : Int), V' = rV c0 c1 G' A' T ∧ o = .inl none ∧ Wk G' A' ∧ Fr [9, 10, 11, 12, 13, 14, 15, 16, 17, 18, 19, 28, 29, 31, 46, 52] [6, 7, 8, 9, 10, 11, 12, 14, 15, 16, 17, 18, 19, 20, 21, 22, 23, 24, 28, 29, 30, 31, 34, 35, 36] G A G' A' ∧ G' 9 = ln2 ∧ G' 16 = fk2 ∧ G' 31 = nd2 ∧ G' 19 = sy2 ∧ G' 28 = na2 ∧ G' 29 = vi2 ∧ G' 46 = pc2 ∧ G' 52 = lk2 ∧ ecn A' (G' 31) = ec2 ∧ (((1 ≤ fk2)) ∨ ((fk2 = 0) ∧ (TT A' (pc2) (nd2) (sy2) (lk2)) ∧ (nd2 + 5 * ec2 ≤ 6050)))) := by
  have hF0 : Fr [9, 10, 11, 12, 13, 14, 15, 16, 17, 18, 19, 28, 29, 31, 46, 52] [6, 7, 8, 9, 10, 11, 12, 14, 15, 16, 17, 18, 19, 20, 21, 22, 23, 24, 28, 29, 30, 31, 34, 35, 36] G A G A := Fr_rf
  have b_ln : (0 : Int) ≤ ln ∧ ln ≤ 3000 := e_ln ▸ hW.1 9
  have b_li : (0 : Int) ≤ li ∧ li ≤ 3000 := e_li ▸ hW.1 3
  have b_fk : (0 : Int) ≤ fk ∧ fk ≤ 6 := e_fk ▸ hW.1 16
  have b_nd : (0 : Int) ≤ nd ∧ nd ≤ 6999 := e_nd ▸ hW.1 31
  have b_sy : (0 : Int) ≤ sy ∧ sy ≤ 202 := e_sy ▸ hW.1 19
  have b_na : (0 : Int) ≤ na ∧ na ≤ 200 := e_na ▸ hW.1 28
  have b_vi : (0 : Int) ≤ vi ∧ vi ≤ 202 := e_vi ▸ hW.1 29
  have b_lf : (0 : Int) ≤ lf ∧ lf ≤ 3000 := e_lf ▸ hW.2 3 _
  have b_pc : (0 : Int) ≤ pc ∧ pc ≤ 24 := e_pc ▸ hW.1 46
  have b_lk : (0 : Int) ≤ lk ∧ lk ≤ 12 := e_lk ▸ hW.1 52
  intro L Gx Ax ln1 at1 tk1 fk1 op1 nd1 sy1 na1 vi1 lf1 le1 pc1 lk1 ec1 gL_0 gL_2 hWx hFx ex_ln1 ex_at1 ex_tk1 ex_fk1 ex_op1 ex_nd1 ex_sy1 ex_na1 ex_vi1 ex_lf1 ex_le1 ex_pc1 ex_lk1 ex_ec1 iv_0 iv_1 iv_2 iv_3 iv_4 iv_5 iv_6 iv_7 iv_8 iv_9 iv_10 iv_11 iv_12 iv_13
  have b_ln1 : (0 : Int) ≤ ln1 ∧ ln1 ≤ 3000 := ex_ln1 ▸ hWx.1 9
  have b_at1 : (0 : Int) ≤ at1 ∧ at1 ≤ 3002 := ex_at1 ▸ hWx.1 10
  have z_tk1 := tz_f tk1
  have b_tk1 : (0 : Int) ≤ tk1 ∧ tk1 ≤ 5 := ex_tk1 ▸ hWx.1 11
  have b_fk1 : (0 : Int) ≤ fk1 ∧ fk1 ≤ 6 := ex_fk1 ▸ hWx.1 16
  have b_op1 : (-2147483648 : Int) ≤ op1 ∧ op1 ≤ 2147483647 := ex_op1 ▸ hWx.1 15
  have b_nd1 : (0 : Int) ≤ nd1 ∧ nd1 ≤ 6999 := ex_nd1 ▸ hWx.1 31
  have b_sy1 : (0 : Int) ≤ sy1 ∧ sy1 ≤ 202 := ex_sy1 ▸ hWx.1 19
  have b_na1 : (0 : Int) ≤ na1 ∧ na1 ≤ 200 := ex_na1 ▸ hWx.1 28
  have b_vi1 : (0 : Int) ≤ vi1 ∧ vi1 ≤ 202 := ex_vi1 ▸ hWx.1 29
  have b_pc1 : (0 : Int) ≤ pc1 ∧ pc1 ≤ 24 := ex_pc1 ▸ hWx.1 46
  have b_lk1 : (0 : Int) ≤ lk1 ∧ lk1 ≤ 12 := ex_lk1 ▸ hWx.1 52
  obtain ⟨Vs, s0, hs0, hlk0, h2s, hvb, hSW0, hPW0, hVL0, hwQ0, hwK0⟩ := iv_12; obtain ⟨sb, hsb⟩ : ∃ z : Int, z = sy1 := ⟨_, rfl⟩; obtain ⟨pb, hpb⟩ : ∃ z : Int, z = pc1 := ⟨_, rfl⟩; rw [← hsb] at hvb hSW0 hPW0 hVL0; rw [← hpb] at hPW0; have hle0 := wQ_le hwQ0
  refine jx_ld (pc' := 142) (l' := L) (st' := [.int (i32 (1))]) rfl (jl_iloadn gL_2) ?_
  refine jx_if_eq (pc' := 145) (tg := 184) rfl rfl rfl (by decide) (by decide) (fun h1 => ?_) (fun h1 => ?_)
  · have _q := h1
    exact absurd h1 (by omega)
  · have _q := h1
    refine jx_ld (pc' := 146) (l' := L) (st' := [.ref 66]) rfl (jl_aloadn gL_0) ?_
    refine jx_vr (pc' := 149) (as := []) (st := []) rfl rfl rfl rfl ⟨rfl, rfl, Nat.le_of_ble_eq_true rfl⟩ rfl rfl (c_bad (dd := d) (hd := by omega) (hW := hWx)  (fk := fk1) (e_fk := show Gx 16 = fk1 from (ex_fk1))    ) (fun o V' hq => ?_)
    obtain ⟨r2, rfl, rfl, b3, q4⟩ := hq
    refine .inr ⟨_, rfl, ?_⟩
    rcases q4 with ⟨rfl, a5⟩ | ⟨rfl, a6⟩
    · have _q : True := trivial
      exfalso
      omega
    · have _q : True := trivial
      refine jx_if_ne (pc' := 152) (tg := 170) rfl rfl rfl (by decide) (by decide) (fun h7 => ?_) (fun h7 => ?_)
      · have _q := h7
        exact absurd h7 (by omega)
      · have _q := h7
        refine jx_ld (pc' := 153) (l' := L) (st' := [.ref 66]) rfl (jl_aloadn gL_0) ?_
        refine jx_ar (pc' := 155) (st' := [.int (i32 (19)), .ref 66]) rfl rfl rfl rfl ?_
        have b8 : (-2147483648 : Int) ≤ Gx 13 ∧ Gx 13 ≤ 2147483647 := hWx.1 13
        refine jx_vr (pc' := 158) (as := [.int (i32 (19))]) (st := []) rfl rfl rfl rfl ⟨rfl, rfl, Nat.le_of_ble_eq_true rfl⟩ rfl rfl (c_isKey (dd := d) (hd := by omega) (hW := hWx) (k := 19) (tk := tk1) (e_tk := show Gx 11 = tk1 from (ex_tk1)) (tn := Gx 13) (e_tn := show Gx 13 = Gx 13 from rfl)  (h_k := ⟨(by decide), (by decide)⟩)  ) (fun o V' hq => ?_)
        obtain ⟨r9, rfl, rfl, b10, q11⟩ := hq
        refine .inr ⟨_, rfl, ?_⟩
        rcases q11 with ⟨rfl, a12, a13, a14⟩ | rfl
        · have _q : True := trivial
          refine jx_if_ne (pc' := 161) (tg := 170) rfl rfl rfl (by decide) (by decide) (fun h15 => ?_) (fun h15 => ?_)
          · have _q := h15
            refine jx_ld (pc' := 171) (l' := L) (st' := [.ref 66]) rfl (jl_aloadn gL_0) ?_
            refine jx_vr (pc' := 174) (as := []) (st := []) rfl rfl rfl rfl ⟨rfl, rfl, Nat.le_of_ble_eq_true rfl⟩ rfl rfl (c_bad (dd := d) (hd := by omega) (hW := hWx)  (fk := fk1) (e_fk := show Gx 16 = fk1 from (ex_fk1))    ) (fun o V' hq => ?_)
            obtain ⟨r16, rfl, rfl, b17, q18⟩ := hq
            refine .inr ⟨_, rfl, ?_⟩
            rcases q18 with ⟨rfl, a19⟩ | ⟨rfl, a20⟩
            · have _q : True := trivial
              exfalso
              omega
            · have _q : True := trivial
              refine jx_if_ne (pc' := 177) (tg := 195) rfl rfl rfl (by decide) (by decide) (fun h21 => ?_) (fun h21 => ?_)
              · have _q := h21
                exact absurd h21 (by omega)
              · have _q := h21
                refine jx_ld (pc' := 178) (l' := L) (st' := [.ref 66]) rfl (jl_aloadn gL_0) ?_
                refine jx_vr (pc' := 181) (as := []) (st := []) rfl rfl rfl rfl ⟨rfl, rfl, Nat.le_of_ble_eq_true rfl⟩ rfl rfl (c_readPlaced_w (dd := d) (hd := by omega) (hW := hWx)  (ln := ln1) (e_ln := show Gx 9 = ln1 from (ex_ln1)) (li := li) (e_li := show Gx 3 = li from ((hFx.1 3 rfl).trans (e_li))) (at0 := at1) (e_at0 := show Gx 10 = at1 from (ex_at1)) (fk := fk1) (e_fk := show Gx 16 = fk1 from (ex_fk1)) (nd := nd1) (e_nd := show Gx 31 = nd1 from (ex_nd1)) (sy := sy1) (e_sy := show Gx 19 = sy1 from (ex_sy1)) (na := na1) (e_na := show Gx 28 = na1 from (ex_na1)) (vi := vi1) (e_vi := show Gx 29 = vi1 from (ex_vi1)) (le := le1) (e_le := show Ax 4 (ln1).toNat = le1 from (ex_le1)) (op0 := op1) (e_op0 := show Gx 15 = op1 from (ex_op1)) (tk0 := tk1) (e_tk0 := show Gx 11 = tk1 from (ex_tk1)) (ec := ec1) (e_ec := show ecn Ax (Gx 31) = ec1 from ex_ec1) (i_LT := (LT_ext ((hFx.1 3 rfl)) ((hFx.2 3 rfl)) ((hFx.2 4 rfl)) i_LT)) (i_SV := (SW_sv hSW0 ((show Gx 29 = vi1 from (ex_vi1)).trans (by omega)))) (i_PQ := hPW0) (hvb := hvb)   (p_0 := by omega) (p_1 := by omega) (p_2 := by omega) (p_3 := by omega) (p_4 := by omega) (p_5 := by omega) (p_6 := by omega) (p_7 := by omega) (p_8 := iv_11) (p_9 := by omega)) (fun o V' hq => ?_)
                obtain ⟨G22, A23, ln2_24, at2_25, fk2_26, nd2_27, sy2_28, na2_29, vi2_30, lf2_31, ec2_32, rfl, rfl, hW33, hF34, hQ35, hQ36, hQ37, e38, e39, e40, e41, e42, e43, e44, e45, e46, p47, p48, p49, p50, p51, p52, q53⟩ := hq
                have hF54 := Fr_tr hFx hF34 (Fr_sub (by decide)) (Fr_sub (by decide))
                have sf55 : SW (Vs) (sb) (vi1) A23 := SW_fx hQ37 (by omega) hSW0
                have sf56 : PQ (Vs) (sb) (pb) (fun _ => 0) A23 := PQ_fxq hPW0 hQ36 (by omega) (Fx_f (w := pb) Fx_rf hF34 (by decide)) (by omega)
                have sf57 : VL (Vs) A23 (s0) (sb) := VL_fx hQ36 (by omega) hVL0
                have sf58 : wQ A23 (pc1).toNat (nd1) (s0) := wQ_fx (fun k j hk hj => hQ35 k j hk (by omega)) (Fx_su hQ36 (by omega)) (Fx_su (Fx_f (w := pc1) Fx_rf hF34 (by decide)) (by omega)) hwQ0
                have sf59 : wK A23 (s0) (lk1) := wK_fx hQ36 (Fx_f (w := lk1) Fx_rf hF34 (by decide)) (by omega) (by omega) (by omega) hwK0
                have bln2_24 : (0 : Int) ≤ ln2_24 ∧ ln2_24 ≤ 3000 := e38 ▸ hW33.1 9
                have bat2_25 : (0 : Int) ≤ at2_25 ∧ at2_25 ≤ 3002 := e39 ▸ hW33.1 10
                have bfk2_26 : (0 : Int) ≤ fk2_26 ∧ fk2_26 ≤ 6 := e40 ▸ hW33.1 16
                have bnd2_27 : (0 : Int) ≤ nd2_27 ∧ nd2_27 ≤ 6999 := e41 ▸ hW33.1 31
                have bsy2_28 : (0 : Int) ≤ sy2_28 ∧ sy2_28 ≤ 202 := e42 ▸ hW33.1 19
                have bna2_29 : (0 : Int) ≤ na2_29 ∧ na2_29 ≤ 200 := e43 ▸ hW33.1 28
                have bvi2_30 : (0 : Int) ≤ vi2_30 ∧ vi2_30 ≤ 202 := e44 ▸ hW33.1 29
                have blf2_31 : (0 : Int) ≤ lf2_31 ∧ lf2_31 ≤ 3000 := e45 ▸ hW33.2 3 _
                refine .inl ⟨rfl, ?_⟩
                rcases q53 with a60 | ⟨a61, a62, a63⟩
                · have _q : True := trivial
                  refine jx_go (tg := 195) rfl rfl ?_
                  refine jx_ld (pc' := 196) (l' := L) (st' := [.ref 66]) rfl (jl_aloadn gL_0) ?_
                  refine jx_vr (pc' := 199) (as := []) (st := []) rfl rfl rfl rfl ⟨rfl, rfl, Nat.le_of_ble_eq_true rfl⟩ rfl rfl (c_bad (dd := d) (hd := by omega) (hW := hW33)  (fk := fk2_26) (e_fk := show G22 16 = fk2_26 from (e40))    ) (fun o V' hq => ?_)
                  obtain ⟨r64, rfl, rfl, b65, q66⟩ := hq
                  refine .inr ⟨_, rfl, ?_⟩
                  rcases q66 with ⟨rfl, a67⟩ | ⟨rfl, a68⟩
                  · have _q : True := trivial
                    refine jx_if_ne (pc' := 202) (tg := 237) rfl rfl rfl (by decide) (by decide) (fun h69 => ?_) (fun h69 => ?_)
                    · have _q := h69
                      refine jx_rt (v := none) rfl rfl rfl rfl rfl rfl ?_
                      exact ⟨_, _, ln2_24, fk2_26, nd2_27, sy2_28, na2_29, vi2_30, pc1, lk1, ec2_32, rfl, rfl, hW33, hF54, (e38), (e40), (e41), (e42), (e43), (e44), ((hF34.1 46 rfl).trans (ex_pc1)), ((hF34.1 52 rfl).trans (ex_lk1)), e46, by first | exact Or.inl (by omega)⟩
                    · have _q := h69
                      exact absurd h69 (by omega)
                  · have _q : True := trivial
                    exfalso
                    omega
                · have _q : True := trivial
                  refine jx_go (tg := 195) rfl rfl ?_
                  refine jx_ld (pc' := 196) (l' := L) (st' := [.ref 66]) rfl (jl_aloadn gL_0) ?_
                  refine jx_vr (pc' := 199) (as := []) (st := []) rfl rfl rfl rfl ⟨rfl, rfl, Nat.le_of_ble_eq_true rfl⟩ rfl rfl (c_bad (dd := d) (hd := by omega) (hW := hW33)  (fk := fk2_26) (e_fk := show G22 16 = fk2_26 from (e40))    ) (fun o V' hq => ?_)
                  obtain ⟨r70, rfl, rfl, b71, q72⟩ := hq
                  refine .inr ⟨_, rfl, ?_⟩
                  rcases q72 with ⟨rfl, a73⟩ | ⟨rfl, a74⟩
                  · have _q : True := trivial
                    exfalso
                    omega
                  · have _q : True := trivial
                    refine jx_if_ne (pc' := 202) (tg := 237) rfl rfl rfl (by decide) (by decide) (fun h75 => ?_) (fun h75 => ?_)
                    · have _q := h75
                      exact absurd h75 (by omega)
                    · have _q := h75
                      refine jx_ld (pc' := 203) (l' := L) (st' := [.ref 66]) rfl (jl_aloadn gL_0) ?_
                      refine jr_get (pc' := 206) (i := 9) (v := .int (i32 (ln2_24))) rfl rfl (by decide) (rFv_eq (by decide) (show G22 9 = ln2_24 from (e38))) rfl ?_
                      refine jx_ld (pc' := 207) (l' := L) (st' := [.ref 66, .int (i32 (ln2_24))]) rfl (jl_aloadn gL_0) ?_
                      refine jr_get (pc' := 210) (i := 3) (v := .int (i32 (li))) rfl rfl (by decide) (rFv_eq (by decide) (show G22 3 = li from ((hF34.1 3 rfl).trans ((hFx.1 3 rfl).trans (e_li))))) rfl ?_
                      refine jx_icmp_ge (pc' := 213) (tg := 237) rfl rfl rfl (Int.le_trans (by decide : (-2147483648 : Int) ≤ 0) bln2_24.1) (Int.le_trans bln2_24.2 (by decide : (3000 : Int) ≤ 2147483647)) (Int.le_trans (by decide : (-2147483648 : Int) ≤ 0) b_li.1) (Int.le_trans b_li.2 (by decide : (3000 : Int) ≤ 2147483647)) (fun h76 => ?_) (fun h76 => ?_)
                      · have _q := h76
                        refine jx_rt (v := none) rfl rfl rfl rfl rfl rfl ?_
                        exact ⟨_, _, ln2_24, fk2_26, nd2_27, sy2_28, na2_29, vi2_30, pc1, lk1, ec2_32, rfl, rfl, hW33, hF54, (e38), (e40), (e41), (e42), (e43), (e44), ((hF34.1 46 rfl).trans (ex_pc1)), ((hF34.1 52 rfl).trans (ex_lk1)), e46, by first | exact Or.inr ((⟨by omega, (TT_mk (V := Vs) (lo := nd1) (s0 := s0) (t0 := sb) (by omega) (by omega) (by omega) hvb sf57 sf58 sf59 a62 (by omega) (by omega) (by omega) (by omega) (by omega) (by omega) (by omega) (by omega) (by omega) (by omega) (by omega)), by omega⟩))⟩
                      · have _q := h76
                        refine jx_ld (pc' := 214) (l' := L) (st' := [.ref 66]) rfl (jl_aloadn gL_0) ?_
                        refine jx_ar (pc' := 215) (st' := [.int (i32 (1)), .ref 66]) rfl rfl rfl rfl ?_
                        refine jx_ld (pc' := 216) (l' := L) (st' := [.ref 66, .int (i32 (1)), .ref 66]) rfl (jl_aloadn gL_0) ?_
                        refine jr_get (pc' := 219) (i := 6) (v := .ref 70) rfl rfl (by decide) rfl rfl ?_
                        refine jx_ld (pc' := 220) (l' := L) (st' := [.ref 66, .ref 70, .int (i32 (1)), .ref 66]) rfl (jl_aloadn gL_0) ?_
                        refine jr_get (pc' := 223) (i := 9) (v := .int (i32 (ln2_24))) rfl rfl (by decide) (rFv_eq (by decide) (show G22 9 = ln2_24 from (e38))) rfl ?_
                        refine jr_ldv (pc' := 224) (i := 3) (m := 3001) (z := ln2_24) (y := lf2_31) rfl (by decide) rfl (by decide) (Int.le_trans (by decide : (0 : Int) ≤ 0) bln2_24.1) (Int.lt_of_le_of_lt bln2_24.2 (by decide : (3000 : Int) < ((3001 : Nat) : Int))) rfl (show A23 3 (ln2_24).toNat = lf2_31 from (e45)) ?_
                        refine jx_ld (pc' := 225) (l' := L) (st' := [.ref 66, .int (i32 (lf2_31)), .int (i32 (1)), .ref 66]) rfl (jl_aloadn gL_0) ?_
                        refine jr_get (pc' := 228) (i := 5) (v := .ref 69) rfl rfl (by decide) rfl rfl ?_
                        refine jx_ld (pc' := 229) (l' := L) (st' := [.ref 66, .ref 69, .int (i32 (lf2_31)), .int (i32 (1)), .ref 66]) rfl (jl_aloadn gL_0) ?_
                        refine jr_get (pc' := 232) (i := 9) (v := .int (i32 (ln2_24))) rfl rfl (by decide) (rFv_eq (by decide) (show G22 9 = ln2_24 from (e38))) rfl ?_
                        have b77 : (0 : Int) ≤ A 2 (ln2_24).toNat ∧ A 2 (ln2_24).toNat ≤ 3000 := hW.2 2 _
                        refine jr_ldv (pc' := 233) (i := 2) (m := 3001) (z := ln2_24) (y := A 2 (ln2_24).toNat) rfl (by decide) rfl (by decide) (Int.le_trans (by decide : (0 : Int) ≤ 0) bln2_24.1) (Int.lt_of_le_of_lt bln2_24.2 (by decide : (3000 : Int) < ((3001 : Nat) : Int))) rfl (show A23 2 (ln2_24).toNat = A 2 (ln2_24).toNat from (congrFun ((hF34.2 2 rfl).trans (hFx.2 2 rfl)) _)) ?_
                        refine jx_sub (pc' := 234) rfl rfl ?_
                        refine jx_vr (pc' := 237) (as := [.int (i32 (1)), .int (i32 ((lf2_31 - A 2 (ln2_24).toNat)))]) (st := []) rfl rfl rfl rfl ⟨rfl, rfl, Nat.le_of_ble_eq_true rfl⟩ rfl rfl (c_fail (dd := d) (hd := by omega) (hW := hW33) (kind := 1) (place := (lf2_31 - A 2 (ln2_24).toNat)) (fk := fk2_26) (e_fk := show G22 16 = fk2_26 from (e40))  (h_kind := ⟨(by decide), (by decide)⟩) (h_place := ⟨(by omega), (by omega)⟩)  (p_0 := by omega) (p_1 := by omega)) (fun o V' hq => ?_)
                        obtain ⟨G78, A79, fk2_80, rfl, rfl, hW81, hF82, e83, p84, -⟩ := hq
                        have hF86 := Fr_tr hF54 hF82 (Fr_sub (by decide)) (Fr_sub (by decide))
                        have sf87 : SW (Vs) (sb) (vi1) A79 := (show A79 = A23 from funext (fun k => hF82.2 k rfl)) ▸ sf55
                        have sf88 : PQ (Vs) (sb) (pb) (fun _ => 0) A79 := (show A79 = A23 from funext (fun k => hF82.2 k rfl)) ▸ sf56
                        have sf89 : VL (Vs) A79 (s0) (sb) := (show A79 = A23 from funext (fun k => hF82.2 k rfl)) ▸ sf57
                        have sf90 : wQ A79 (pc1).toNat (nd1) (s0) := (show A79 = A23 from funext (fun k => hF82.2 k rfl)) ▸ sf58
                        have sf91 : wK A79 (s0) (lk1) := (show A79 = A23 from funext (fun k => hF82.2 k rfl)) ▸ sf59
                        have sf92 : wB A79 Vs pb (nd1) (nd2_27) (sy1) (sy2_28) := (show A79 = A23 from funext (fun k => hF82.2 k rfl)) ▸ a62
                        have ec93 : ecn A79 (G78 31) = ec2_32 := (ecn_f (hF82.2 15 rfl) (hF82.1 31 rfl)).trans e46
                        have bfk2_80 : (0 : Int) ≤ fk2_80 ∧ fk2_80 ≤ 6 := e83 ▸ hW81.1 16
                        refine .inl ⟨rfl, ?_⟩
                        refine jx_rt (v := none) rfl rfl rfl rfl rfl rfl ?_
                        exact ⟨_, _, ln2_24, fk2_80, nd2_27, sy2_28, na2_29, vi2_30, pc1, lk1, ec2_32, rfl, rfl, hW81, hF86, ((hF82.1 9 rfl).trans (e38)), (e83), ((hF82.1 31 rfl).trans (e41)), ((hF82.1 19 rfl).trans (e42)), ((hF82.1 28 rfl).trans (e43)), ((hF82.1 29 rfl).trans (e44)), ((hF82.1 46 rfl).trans ((hF34.1 46 rfl).trans (ex_pc1))), ((hF82.1 52 rfl).trans ((hF34.1 52 rfl).trans (ex_lk1))), ec93, by first | exact Or.inl (by omega)⟩
          · have _q := h15
            exact absurd h15 (by omega)
        · have _q : True := trivial
          refine jx_if_ne (pc' := 161) (tg := 170) rfl rfl rfl (by decide) (by decide) (fun h94 => ?_) (fun h94 => ?_)
          · have _q := h94
            exact absurd h94 (by omega)
          · have _q := h94
            refine jx_ld (pc' := 162) (l' := L) (st' := [.ref 66]) rfl (jl_aloadn gL_0) ?_
            refine jx_ar (pc' := 163) (st' := [.int (i32 (1)), .ref 66]) rfl rfl rfl rfl ?_
            refine jx_ld (pc' := 164) (l' := L) (st' := [.ref 66, .int (i32 (1)), .ref 66]) rfl (jl_aloadn gL_0) ?_
            have b95 : (-3000 : Int) ≤ Gx 12 ∧ Gx 12 ≤ 3002 := hWx.1 12
            refine jr_get (pc' := 167) (i := 12) (v := .int (i32 (Gx 12))) rfl rfl (by decide) rfl rfl ?_
            refine jx_vr (pc' := 170) (as := [.int (i32 (1)), .int (i32 (Gx 12))]) (st := []) rfl rfl rfl rfl ⟨rfl, rfl, Nat.le_of_ble_eq_true rfl⟩ rfl rfl (c_fail (dd := d) (hd := by omega) (hW := hWx) (kind := 1) (place := Gx 12) (fk := fk1) (e_fk := show Gx 16 = fk1 from (ex_fk1))  (h_kind := ⟨(by decide), (by decide)⟩) (h_place := ⟨(Int.le_trans (by decide : (-2147483648 : Int) ≤ -3000) b95.1), (Int.le_trans b95.2 (by decide : (3002 : Int) ≤ 2147483647))⟩)  (p_0 := by omega) (p_1 := by omega)) (fun o V' hq => ?_)
            obtain ⟨G96, A97, fk2_98, rfl, rfl, hW99, hF100, e101, p102, -⟩ := hq
            have hF104 := Fr_tr hFx hF100 (Fr_sub (by decide)) (Fr_sub (by decide))
            have sf105 : PZ A97 := (show A97 = Ax from funext (fun k => hF100.2 k rfl)) ▸ iv_11
            have sf106 : SW (Vs) (sb) (vi1) A97 := (show A97 = Ax from funext (fun k => hF100.2 k rfl)) ▸ hSW0
            have sf107 : PQ (Vs) (sb) (pb) (fun _ => 0) A97 := (show A97 = Ax from funext (fun k => hF100.2 k rfl)) ▸ hPW0
            have sf108 : VL (Vs) A97 (s0) (sb) := (show A97 = Ax from funext (fun k => hF100.2 k rfl)) ▸ hVL0
            have sf109 : wQ A97 (pc1).toNat (nd1) (s0) := (show A97 = Ax from funext (fun k => hF100.2 k rfl)) ▸ hwQ0
            have sf110 : wK A97 (s0) (lk1) := (show A97 = Ax from funext (fun k => hF100.2 k rfl)) ▸ hwK0
            have ec111 : ecn A97 (G96 31) = ec1 := (ecn_f (hF100.2 15 rfl) (hF100.1 31 rfl)).trans ex_ec1
            have bfk2_98 : (0 : Int) ≤ fk2_98 ∧ fk2_98 ≤ 6 := e101 ▸ hW99.1 16
            refine .inl ⟨rfl, ?_⟩
            refine jx_ld (pc' := 171) (l' := L) (st' := [.ref 66]) rfl (jl_aloadn gL_0) ?_
            refine jx_vr (pc' := 174) (as := []) (st := []) rfl rfl rfl rfl ⟨rfl, rfl, Nat.le_of_ble_eq_true rfl⟩ rfl rfl (c_bad (dd := d) (hd := by omega) (hW := hW99)  (fk := fk2_98) (e_fk := show G96 16 = fk2_98 from (e101))    ) (fun o V' hq => ?_)
            obtain ⟨r112, rfl, rfl, b113, q114⟩ := hq
            refine .inr ⟨_, rfl, ?_⟩
            rcases q114 with ⟨rfl, a115⟩ | ⟨rfl, a116⟩
            · have _q : True := trivial
              refine jx_if_ne (pc' := 177) (tg := 195) rfl rfl rfl (by decide) (by decide) (fun h117 => ?_) (fun h117 => ?_)
              · have _q := h117
                refine jx_ld (pc' := 196) (l' := L) (st' := [.ref 66]) rfl (jl_aloadn gL_0) ?_
                refine jx_vr (pc' := 199) (as := []) (st := []) rfl rfl rfl rfl ⟨rfl, rfl, Nat.le_of_ble_eq_true rfl⟩ rfl rfl (c_bad (dd := d) (hd := by omega) (hW := hW99)  (fk := fk2_98) (e_fk := show G96 16 = fk2_98 from (e101))    ) (fun o V' hq => ?_)
                obtain ⟨r118, rfl, rfl, b119, q120⟩ := hq
                refine .inr ⟨_, rfl, ?_⟩
                rcases q120 with ⟨rfl, a121⟩ | ⟨rfl, a122⟩
                · have _q : True := trivial
                  refine jx_if_ne (pc' := 202) (tg := 237) rfl rfl rfl (by decide) (by decide) (fun h123 => ?_) (fun h123 => ?_)
                  · have _q := h123
                    refine jx_rt (v := none) rfl rfl rfl rfl rfl rfl ?_
                    exact ⟨_, _, ln1, fk2_98, nd1, sy1, na1, vi1, pc1, lk1, ec1, rfl, rfl, hW99, hF104, ((hF100.1 9 rfl).trans (ex_ln1)), (e101), ((hF100.1 31 rfl).trans (ex_nd1)), ((hF100.1 19 rfl).trans (ex_sy1)), ((hF100.1 28 rfl).trans (ex_na1)), ((hF100.1 29 rfl).trans (ex_vi1)), ((hF100.1 46 rfl).trans (ex_pc1)), ((hF100.1 52 rfl).trans (ex_lk1)), ec111, by first | exact Or.inl (by omega)⟩
                  · have _q := h123
                    exact absurd h123 (by omega)
                · have _q : True := trivial
                  exfalso
                  omega
              · have _q := h117
                exact absurd h117 (by omega)
            · have _q : True := trivial
              exfalso
              omega
set_option maxRecDepth 20000 in
set_option maxHeartbeats 4000000 in
theorem c_readProgram_w_at_106_1 {X : jX} {d : Nat} {c0 c1 : jC} {G : Nat → Int} {A : Nat → Nat → Int} {T : jH} {ln li fk nd sy na vi lf pc lk ec : Int} (hd : 8 * 18 + 82 ≤ d + 1) (hW : Wk G A) (e_ln : G 9 = ln) (e_li : G 3 = li) (e_fk : G 16 = fk) (e_nd : G 31 = nd) (e_sy : G 19 = sy) (e_na : G 28 = na) (e_vi : G 29 = vi) (e_lf : A 3 (ln).toNat = lf) (e_pc : G 46 = pc) (e_lk : G 52 = lk) (e_ec : ecn A (G 31) = ec) (i_LT : LT G A) (p_0 : fk = 0) (p_1 : ln = 0) (p_2 : nd = 1) (p_3 : sy = 0) (p_4 : na = 0) (p_5 : vi = 0) (p_6 : pc = 0) (p_7 : lk = 0) (p_8 : PZ A) (p_9 : ec = 0) : ∀ (m : Nat) (L : jL) (Gx : Nat → Int) (Ax : Nat → Nat → Int) (ln1 at1 tk1 fk1 op1 nd1 sy1 na1 vi1 lf1 le1 pc1 lk1 ec1 : Int), (li - ln1).toNat = m → jGet L 0 = some (.ref 66) → jGet L 2 = some (.int (i32 (1))) → Wk Gx Ax → Fr [9, 10, 11, 12, 13, 14, 15, 16, 17, 18, 19, 28, 29, 31, 46, 52] [6, 7, 8, 9, 10, 11, 12, 14, 15, 16, 17, 18, 19, 20, 21, 22, 23, 24, 28, 29, 30, 31, 34, 35, 36] G A Gx Ax → Gx 9 = ln1 → Gx 10 = at1 → Gx 11 = tk1 → Gx 16 = fk1 → Gx 15 = op1 → Gx 31 = nd1 → Gx 19 = sy1 → Gx 28 = na1 → Gx 29 = vi1 → Ax 3 (ln1).toNat = lf1 → Ax 4 (ln1).toNat = le1 → Gx 46 = pc1 → Gx 52 = lk1 → ecn Ax (Gx 31) = ec1 → (fk1 = 0) → (0 ≤ lf1) → (ln1 < li) → (lf1 < le1) → (2 * lf1 ≤ 2 * at1 - tz tk1) → (lf1 ≤ at1) → (at1 ≤ le1) → (nd1 ≤ 2 * lf1 + 2) → (op1 = 0) → (sy1 ≤ na1 + 2) → (vi1 ≤ sy1) → (PZ Ax) → (TL Ax (pc1) (nd1) (sy1) (lk1) (vi1)) → (nd1 + 5 * ec1 ≤ 2 * lf1 + 2) → wj X d jm312 (106, L, [], rV c0 c1 Gx Ax T) (fun o V' => ∃ (G' : Nat → Int) (A' : Nat → Nat → Int) (ln2 : Int) (fk2 : Int) (nd2 : Int) (sy2 : Int) (na2 : Int) (vi2 : Int) (pc2 : Int) (lk2 : Int) (ec2 : Int), V' = rV c0 c1 G' A' T ∧ o = .inl none ∧ Wk G' A' ∧ Fr [9, 10, 11, 12, 13, 14, 15, 16, 17, 18, 19, 28, 29, 31, 46, 52] [6, 7, 8, 9, 10, 11, 12, 14, 15, 16, 17, 18, 19, 20, 21, 22, 23, 24, 28, 29, 30, 31, 34, 35, 36] G A G' A' ∧ G' 9 = ln2 ∧ G' 16 = fk2 ∧ G' 31 = nd2 ∧ G' 19 = sy2 ∧ G' 28 = na2 ∧ G' 29 = vi2 ∧ G' 46 = pc2 ∧ G' 52 = lk2 ∧ ecn A' (G' 31) = ec2 ∧ (((1 ≤ fk2)) ∨ ((fk2 = 0) ∧ (TT A' (pc2) (nd2) (sy2) (lk2)) ∧ (nd2 + 5 * ec2 ≤ 6050)))) := by
  have hF0 : Fr [9, 10, 11, 12, 13, 14, 15, 16, 17, 18, 19, 28, 29, 31, 46, 52] [6, 7, 8, 9, 10, 11, 12, 14, 15, 16, 17, 18, 19, 20, 21, 22, 23, 24, 28, 29, 30, 31, 34, 35, 36] G A G A := Fr_rf
  have b_ln : (0 : Int) ≤ ln ∧ ln ≤ 3000 := e_ln ▸ hW.1 9
  have b_li : (0 : Int) ≤ li ∧ li ≤ 3000 := e_li ▸ hW.1 3
  have b_fk : (0 : Int) ≤ fk ∧ fk ≤ 6 := e_fk ▸ hW.1 16
  have b_nd : (0 : Int) ≤ nd ∧ nd ≤ 6999 := e_nd ▸ hW.1 31
  have b_sy : (0 : Int) ≤ sy ∧ sy ≤ 202 := e_sy ▸ hW.1 19
  have b_na : (0 : Int) ≤ na ∧ na ≤ 200 := e_na ▸ hW.1 28
  have b_vi : (0 : Int) ≤ vi ∧ vi ≤ 202 := e_vi ▸ hW.1 29
  have b_lf : (0 : Int) ≤ lf ∧ lf ≤ 3000 := e_lf ▸ hW.2 3 _
  have b_pc : (0 : Int) ≤ pc ∧ pc ≤ 24 := e_pc ▸ hW.1 46
  have b_lk : (0 : Int) ≤ lk ∧ lk ≤ 12 := e_lk ▸ hW.1 52
  intro m
  induction m using Nat.strongRecOn with
  | ind m ih106_1 =>
    intro L Gx Ax ln1 at1 tk1 fk1 op1 nd1 sy1 na1 vi1 lf1 le1 pc1 lk1 ec1 hm gL_0 gL_2 hWx hFx ex_ln1 ex_at1 ex_tk1 ex_fk1 ex_op1 ex_nd1 ex_sy1 ex_na1 ex_vi1 ex_lf1 ex_le1 ex_pc1 ex_lk1 ex_ec1 iv_0 iv_1 iv_2 iv_3 iv_4 iv_5 iv_6 iv_7 iv_8 iv_9 iv_10 iv_11 iv_12 iv_13
    have b_ln1 : (0 : Int) ≤ ln1 ∧ ln1 ≤ 3000 := ex_ln1 ▸ hWx.1 9
    have b_at1 : (0 : Int) ≤ at1 ∧ at1 ≤ 3002 := ex_at1 ▸ hWx.1 10
    have z_tk1 := tz_f tk1
    have b_tk1 : (0 : Int) ≤ tk1 ∧ tk1 ≤ 5 := ex_tk1 ▸ hWx.1 11
    have b_fk1 : (0 : Int) ≤ fk1 ∧ fk1 ≤ 6 := ex_fk1 ▸ hWx.1 16
    have b_op1 : (-2147483648 : Int) ≤ op1 ∧ op1 ≤ 2147483647 := ex_op1 ▸ hWx.1 15
    have b_nd1 : (0 : Int) ≤ nd1 ∧ nd1 ≤ 6999 := ex_nd1 ▸ hWx.1 31
    have b_sy1 : (0 : Int) ≤ sy1 ∧ sy1 ≤ 202 := ex_sy1 ▸ hWx.1 19
    have b_na1 : (0 : Int) ≤ na1 ∧ na1 ≤ 200 := ex_na1 ▸ hWx.1 28
    have b_vi1 : (0 : Int) ≤ vi1 ∧ vi1 ≤ 202 := ex_vi1 ▸ hWx.1 29
    have b_pc1 : (0 : Int) ≤ pc1 ∧ pc1 ≤ 24 := ex_pc1 ▸ hWx.1 46
    have b_lk1 : (0 : Int) ≤ lk1 ∧ lk1 ≤ 12 := ex_lk1 ▸ hWx.1 52
    obtain ⟨Vs, s0, hs0, hlk0, h2s, hvb, hSW0, hPW0, hVL0, hwQ0, hwK0⟩ := iv_12; obtain ⟨sb, hsb⟩ : ∃ z : Int, z = sy1 := ⟨_, rfl⟩; obtain ⟨pb, hpb⟩ : ∃ z : Int, z = pc1 := ⟨_, rfl⟩; rw [← hsb] at hvb hSW0 hPW0 hVL0; rw [← hpb] at hPW0; have hle0 := wQ_le hwQ0
    refine jx_ld (pc' := 107) (l' := L) (st' := [.ref 66]) rfl (jl_aloadn gL_0) ?_
    refine jx_vr (pc' := 110) (as := []) (st := []) rfl rfl rfl rfl ⟨rfl, rfl, Nat.le_of_ble_eq_true rfl⟩ rfl rfl (c_bad (dd := d) (hd := by omega) (hW := hWx)  (fk := fk1) (e_fk := show Gx 16 = fk1 from (ex_fk1))    ) (fun o V' hq => ?_)
    obtain ⟨r124, rfl, rfl, b125, q126⟩ := hq
    refine .inr ⟨_, rfl, ?_⟩
    rcases q126 with ⟨rfl, a127⟩ | ⟨rfl, a128⟩
    · have _q : True := trivial
      exfalso
      omega
    · have _q : True := trivial
      refine jx_if_ne (pc' := 113) (tg := 141) rfl rfl rfl (by decide) (by decide) (fun h129 => ?_) (fun h129 => ?_)
      · have _q := h129
        exact absurd h129 (by omega)
      · have _q := h129
        refine jx_ld (pc' := 114) (l' := L) (st' := [.ref 66]) rfl (jl_aloadn gL_0) ?_
        refine jx_ar (pc' := 116) (st' := [.int (i32 (21)), .ref 66]) rfl rfl rfl rfl ?_
        have b130 : (-2147483648 : Int) ≤ Gx 13 ∧ Gx 13 ≤ 2147483647 := hWx.1 13
        refine jx_vr (pc' := 119) (as := [.int (i32 (21))]) (st := []) rfl rfl rfl rfl ⟨rfl, rfl, Nat.le_of_ble_eq_true rfl⟩ rfl rfl (c_isKey2 (dd := d) (hd := by omega) (hW := hWx) (k := 21) (tk := tk1) (e_tk := show Gx 11 = tk1 from (ex_tk1)) (tn := Gx 13) (e_tn := show Gx 13 = Gx 13 from rfl)  (h_k := ⟨(by decide), (by decide)⟩)  ) (fun o V' hq => ?_)
        obtain ⟨r131, rfl, rfl, b132, q133⟩ := hq
        refine .inr ⟨_, rfl, ?_⟩
        rcases q133 with ⟨rfl, a134, a135, a136⟩ | ⟨rfl, a137⟩
        · have _q : True := trivial
          refine jx_if_eq (pc' := 122) (tg := 141) rfl rfl rfl (by decide) (by decide) (fun h138 => ?_) (fun h138 => ?_)
          · have _q := h138
            exact absurd h138 (by omega)
          · have _q := h138
            refine jx_ld (pc' := 123) (l' := L) (st' := [.ref 66]) rfl (jl_aloadn gL_0) ?_
            refine jx_vr (pc' := 126) (as := []) (st := []) rfl rfl rfl rfl ⟨rfl, rfl, Nat.le_of_ble_eq_true rfl⟩ rfl rfl (c_readLink (dd := d) (hd := by omega) (hW := hWx)  (ln := ln1) (e_ln := show Gx 9 = ln1 from (ex_ln1)) (le := le1) (e_le := show Ax 4 (ln1).toNat = le1 from (ex_le1)) (at0 := at1) (e_at0 := show Gx 10 = at1 from (ex_at1)) (fk := fk1) (e_fk := show Gx 16 = fk1 from (ex_fk1)) (tk0 := tk1) (e_tk0 := show Gx 11 = tk1 from (ex_tk1)) (sy := sy1) (e_sy := show Gx 19 = sy1 from (ex_sy1)) (na := na1) (e_na := show Gx 28 = na1 from (ex_na1)) (li := li) (e_li := show Gx 3 = li from ((hFx.1 3 rfl).trans (e_li))) (vi := vi1) (e_vi := show Gx 29 = vi1 from (ex_vi1)) (lk0 := lk1) (e_lk0 := show Gx 52 = lk1 from (ex_lk1)) (i_LT := (LT_ext ((hFx.1 3 rfl)) ((hFx.2 3 rfl)) ((hFx.2 4 rfl)) i_LT)) (i_SV := (SW_sv hSW0 ((show Gx 29 = vi1 from (ex_vi1)).trans (by omega)))) (i_PQ := hPW0) (hvb := hvb)   (p_0 := by omega) (p_1 := by omega) (p_2 := by omega) (p_3 := by omega) (p_4 := by omega) (p_5 := by omega)) (fun o V' hq => ?_)
            obtain ⟨G139, A140, ln2_141, at2_142, fk2_143, sy2_144, na2_145, vi2_146, lk2_147, rfl, rfl, hW148, hF149, hQ150, hQ151, hQ152, e153, e154, e155, e156, e157, e158, e159, p160, p161, p162, p163, p164, p165, p166, q167⟩ := hq
            have hF168 := Fr_tr hFx hF149 (Fr_sub (by decide)) (Fr_sub (by decide))
            have sf169 : PZ A140 := PZ_ext (hF149.2 36 rfl) iv_11
            have sf170 : SW (Vs) (sb) (vi1) A140 := SW_fx hQ151 (by omega) hSW0
            have sf171 : PQ (Vs) (sb) (pb) (fun _ => 0) A140 := PQ_fxq hPW0 hQ150 (by omega) (Fx_f (w := pb) Fx_rf hF149 (by decide)) (by omega)
            have sf172 : VL (Vs) A140 (s0) (sb) := VL_fx hQ150 (by omega) hVL0
            have sf173 : wQ A140 (pc1).toNat (nd1) (s0) := wQ_fx (Pf_f Pf_rf hF149 (by decide)) (Fx_su hQ150 (by omega)) (Fx_su (Fx_f (w := pc1) Fx_rf hF149 (by decide)) (by omega)) hwQ0
            have sf174 : wK A140 (s0) (lk1) := wK_fx hQ150 hQ152 (by omega) (by omega) (by omega) hwK0
            have ec175 : ecn A140 (G139 31) = ec1 := (ecn_f (hF149.2 15 rfl) (hF149.1 31 rfl)).trans ex_ec1
            have bln2_141 : (0 : Int) ≤ ln2_141 ∧ ln2_141 ≤ 3000 := e153 ▸ hW148.1 9
            have bat2_142 : (0 : Int) ≤ at2_142 ∧ at2_142 ≤ 3002 := e154 ▸ hW148.1 10
            have bfk2_143 : (0 : Int) ≤ fk2_143 ∧ fk2_143 ≤ 6 := e155 ▸ hW148.1 16
            have bsy2_144 : (0 : Int) ≤ sy2_144 ∧ sy2_144 ≤ 202 := e156 ▸ hW148.1 19
            have bna2_145 : (0 : Int) ≤ na2_145 ∧ na2_145 ≤ 200 := e157 ▸ hW148.1 28
            have bvi2_146 : (0 : Int) ≤ vi2_146 ∧ vi2_146 ≤ 202 := e158 ▸ hW148.1 29
            have blk2_147 : (0 : Int) ≤ lk2_147 ∧ lk2_147 ≤ 12 := e159 ▸ hW148.1 52
            refine .inl ⟨rfl, ?_⟩
            rcases q167 with a176 | ⟨a177, a178, a179, a180, a181, a182, a183, a184⟩
            · have _q : True := trivial
              refine jx_ld (pc' := 127) (l' := L) (st' := [.ref 66]) rfl (jl_aloadn gL_0) ?_
              refine jx_ar (pc' := 128) (st' := [.int (i32 (0)), .ref 66]) rfl rfl rfl rfl ?_
              have b185 : (-1 : Int) ≤ A 5 (ln2_141).toNat ∧ A 5 (ln2_141).toNat ≤ 15 := hW.2 5 _
              refine jx_vr (pc' := 131) (as := [.int (i32 (0))]) (st := []) rfl rfl rfl rfl ⟨rfl, rfl, Nat.le_of_ble_eq_true rfl⟩ rfl rfl (c_needLevel (dd := d) (hd := by omega) (hW := hW148) (lv := 0) (ln := ln2_141) (e_ln := show G139 9 = ln2_141 from (e153)) (li := li) (e_li := show G139 3 = li from ((hF149.1 3 rfl).trans ((hFx.1 3 rfl).trans (e_li)))) (fk := fk2_143) (e_fk := show G139 16 = fk2_143 from (e155)) (ll := A 5 (ln2_141).toNat) (e_ll := show A140 5 (ln2_141).toNat = A 5 (ln2_141).toNat from (congrFun ((hF149.2 5 rfl).trans (hFx.2 5 rfl)) _))  (h_lv := ⟨(by decide), (by decide)⟩)  ) (fun o V' hq => ?_)
              obtain ⟨G186, A187, r188, fk2_189, rfl, rfl, hW190, hF191, b192, e193, q194⟩ := hq
              have hF195 := Fr_tr hF168 hF191 (Fr_sub (by decide)) (Fr_sub (by decide))
              have sf196 : PZ A187 := (show A187 = A140 from funext (fun k => hF191.2 k rfl)) ▸ sf169
              have sf197 : SW (Vs) (sb) (vi1) A187 := (show A187 = A140 from funext (fun k => hF191.2 k rfl)) ▸ sf170
              have sf198 : PQ (Vs) (sb) (pb) (fun _ => 0) A187 := (show A187 = A140 from funext (fun k => hF191.2 k rfl)) ▸ sf171
              have sf199 : VL (Vs) A187 (s0) (sb) := (show A187 = A140 from funext (fun k => hF191.2 k rfl)) ▸ sf172
              have sf200 : wQ A187 (pc1).toNat (nd1) (s0) := (show A187 = A140 from funext (fun k => hF191.2 k rfl)) ▸ sf173
              have sf201 : wK A187 (s0) (lk1) := (show A187 = A140 from funext (fun k => hF191.2 k rfl)) ▸ sf174
              have ec202 : ecn A187 (G186 31) = ec1 := (ecn_f (hF191.2 15 rfl) (hF191.1 31 rfl)).trans ec175
              have bfk2_189 : (0 : Int) ≤ fk2_189 ∧ fk2_189 ≤ 6 := e193 ▸ hW190.1 16
              refine .inr ⟨_, rfl, ?_⟩
              rcases q194 with ⟨rfl, a203, a204, a205, a206⟩ | ⟨rfl, a207⟩
              · have _q : True := trivial
                exfalso
                omega
              · have _q : True := trivial
                refine jx_if_eq (pc' := 134) (tg := 106) rfl rfl rfl (by decide) (by decide) (fun h208 => ?_) (fun h208 => ?_)
                · have _q := h208
                  refine jx_ld (pc' := 107) (l' := L) (st' := [.ref 66]) rfl (jl_aloadn gL_0) ?_
                  refine jx_vr (pc' := 110) (as := []) (st := []) rfl rfl rfl rfl ⟨rfl, rfl, Nat.le_of_ble_eq_true rfl⟩ rfl rfl (c_bad (dd := d) (hd := by omega) (hW := hW190)  (fk := fk2_189) (e_fk := show G186 16 = fk2_189 from (e193))    ) (fun o V' hq => ?_)
                  obtain ⟨r209, rfl, rfl, b210, q211⟩ := hq
                  refine .inr ⟨_, rfl, ?_⟩
                  rcases q211 with ⟨rfl, a212⟩ | ⟨rfl, a213⟩
                  · have _q : True := trivial
                    refine jx_if_ne (pc' := 113) (tg := 141) rfl rfl rfl (by decide) (by decide) (fun h214 => ?_) (fun h214 => ?_)
                    · have _q := h214
                      refine jx_ld (pc' := 142) (l' := L) (st' := [.int (i32 (1))]) rfl (jl_iloadn gL_2) ?_
                      refine jx_if_eq (pc' := 145) (tg := 184) rfl rfl rfl (by decide) (by decide) (fun h215 => ?_) (fun h215 => ?_)
                      · have _q := h215
                        exact absurd h215 (by omega)
                      · have _q := h215
                        refine jx_ld (pc' := 146) (l' := L) (st' := [.ref 66]) rfl (jl_aloadn gL_0) ?_
                        refine jx_vr (pc' := 149) (as := []) (st := []) rfl rfl rfl rfl ⟨rfl, rfl, Nat.le_of_ble_eq_true rfl⟩ rfl rfl (c_bad (dd := d) (hd := by omega) (hW := hW190)  (fk := fk2_189) (e_fk := show G186 16 = fk2_189 from (e193))    ) (fun o V' hq => ?_)
                        obtain ⟨r216, rfl, rfl, b217, q218⟩ := hq
                        refine .inr ⟨_, rfl, ?_⟩
                        rcases q218 with ⟨rfl, a219⟩ | ⟨rfl, a220⟩
                        · have _q : True := trivial
                          refine jx_if_ne (pc' := 152) (tg := 170) rfl rfl rfl (by decide) (by decide) (fun h221 => ?_) (fun h221 => ?_)
                          · have _q := h221
                            refine jx_ld (pc' := 171) (l' := L) (st' := [.ref 66]) rfl (jl_aloadn gL_0) ?_
                            refine jx_vr (pc' := 174) (as := []) (st := []) rfl rfl rfl rfl ⟨rfl, rfl, Nat.le_of_ble_eq_true rfl⟩ rfl rfl (c_bad (dd := d) (hd := by omega) (hW := hW190)  (fk := fk2_189) (e_fk := show G186 16 = fk2_189 from (e193))    ) (fun o V' hq => ?_)
                            obtain ⟨r222, rfl, rfl, b223, q224⟩ := hq
                            refine .inr ⟨_, rfl, ?_⟩
                            rcases q224 with ⟨rfl, a225⟩ | ⟨rfl, a226⟩
                            · have _q : True := trivial
                              refine jx_if_ne (pc' := 177) (tg := 195) rfl rfl rfl (by decide) (by decide) (fun h227 => ?_) (fun h227 => ?_)
                              · have _q := h227
                                refine jx_ld (pc' := 196) (l' := L) (st' := [.ref 66]) rfl (jl_aloadn gL_0) ?_
                                refine jx_vr (pc' := 199) (as := []) (st := []) rfl rfl rfl rfl ⟨rfl, rfl, Nat.le_of_ble_eq_true rfl⟩ rfl rfl (c_bad (dd := d) (hd := by omega) (hW := hW190)  (fk := fk2_189) (e_fk := show G186 16 = fk2_189 from (e193))    ) (fun o V' hq => ?_)
                                obtain ⟨r228, rfl, rfl, b229, q230⟩ := hq
                                refine .inr ⟨_, rfl, ?_⟩
                                rcases q230 with ⟨rfl, a231⟩ | ⟨rfl, a232⟩
                                · have _q : True := trivial
                                  refine jx_if_ne (pc' := 202) (tg := 237) rfl rfl rfl (by decide) (by decide) (fun h233 => ?_) (fun h233 => ?_)
                                  · have _q := h233
                                    refine jx_rt (v := none) rfl rfl rfl rfl rfl rfl ?_
                                    exact ⟨_, _, ln2_141, fk2_189, nd1, sy2_144, na2_145, vi2_146, pc1, lk2_147, ec1, rfl, rfl, hW190, hF195, ((hF191.1 9 rfl).trans (e153)), (e193), ((hF191.1 31 rfl).trans ((hF149.1 31 rfl).trans (ex_nd1))), ((hF191.1 19 rfl).trans (e156)), ((hF191.1 28 rfl).trans (e157)), ((hF191.1 29 rfl).trans (e158)), ((hF191.1 46 rfl).trans ((hF149.1 46 rfl).trans (ex_pc1))), ((hF191.1 52 rfl).trans (e159)), ec202, by first | exact Or.inl (by omega)⟩
                                  · have _q := h233
                                    exact absurd h233 (by omega)
                                · have _q : True := trivial
                                  exfalso
                                  omega
                              · have _q := h227
                                exact absurd h227 (by omega)
                            · have _q : True := trivial
                              exfalso
                              omega
                          · have _q := h221
                            exact absurd h221 (by omega)
                        · have _q : True := trivial
                          exfalso
                          omega
                    · have _q := h214
                      exact absurd h214 (by omega)
                  · have _q : True := trivial
                    exfalso
                    omega
                · have _q := h208
                  exact absurd h208 (by omega)
            · have _q : True := trivial
              have b234 : (0 : Int) ≤ A 3 (ln2_141).toNat ∧ A 3 (ln2_141).toNat ≤ 3000 := hW.2 3 _
              have lt235 : ln2_141 < li → le1 < A 3 (ln2_141).toNat := fun hh => LT_nx (LT_ext (((hF149.1 3 rfl).trans (hFx.1 3 rfl))) (((hF149.2 3 rfl).trans (hFx.2 3 rfl))) (((hF149.2 4 rfl).trans (hFx.2 4 rfl))) i_LT) (show G139 3 = li from ((hF149.1 3 rfl).trans ((hFx.1 3 rfl).trans (e_li)))) (show A140 4 (ln1).toNat = le1 from (congrFun (hF149.2 4 rfl) _).trans (ex_le1)) (show A140 3 (ln2_141).toNat = A 3 (ln2_141).toNat from (congrFun ((hF149.2 3 rfl).trans (hFx.2 3 rfl)) _)) (show ln2_141 = ln1 + 1 by omega) (by omega) hh
              refine jx_ld (pc' := 127) (l' := L) (st' := [.ref 66]) rfl (jl_aloadn gL_0) ?_
              refine jx_ar (pc' := 128) (st' := [.int (i32 (0)), .ref 66]) rfl rfl rfl rfl ?_
              have b236 : (-1 : Int) ≤ A 5 (ln2_141).toNat ∧ A 5 (ln2_141).toNat ≤ 15 := hW.2 5 _
              refine jx_vr (pc' := 131) (as := [.int (i32 (0))]) (st := []) rfl rfl rfl rfl ⟨rfl, rfl, Nat.le_of_ble_eq_true rfl⟩ rfl rfl (c_needLevel (dd := d) (hd := by omega) (hW := hW148) (lv := 0) (ln := ln2_141) (e_ln := show G139 9 = ln2_141 from (e153)) (li := li) (e_li := show G139 3 = li from ((hF149.1 3 rfl).trans ((hFx.1 3 rfl).trans (e_li)))) (fk := fk2_143) (e_fk := show G139 16 = fk2_143 from (e155)) (ll := A 5 (ln2_141).toNat) (e_ll := show A140 5 (ln2_141).toNat = A 5 (ln2_141).toNat from (congrFun ((hF149.2 5 rfl).trans (hFx.2 5 rfl)) _))  (h_lv := ⟨(by decide), (by decide)⟩)  ) (fun o V' hq => ?_)
              obtain ⟨G237, A238, r239, fk2_240, rfl, rfl, hW241, hF242, b243, e244, q245⟩ := hq
              have hF246 := Fr_tr hF168 hF242 (Fr_sub (by decide)) (Fr_sub (by decide))
              have sf247 : PZ A238 := (show A238 = A140 from funext (fun k => hF242.2 k rfl)) ▸ sf169
              have sf248 : SW (Vs) (sb) (vi1) A238 := (show A238 = A140 from funext (fun k => hF242.2 k rfl)) ▸ sf170
              have sf249 : PQ (Vs) (sb) (pb) (fun _ => 0) A238 := (show A238 = A140 from funext (fun k => hF242.2 k rfl)) ▸ sf171
              have sf250 : VL (Vs) A238 (s0) (sb) := (show A238 = A140 from funext (fun k => hF242.2 k rfl)) ▸ sf172
              have sf251 : wQ A238 (pc1).toNat (nd1) (s0) := (show A238 = A140 from funext (fun k => hF242.2 k rfl)) ▸ sf173
              have sf252 : wK A238 (s0) (lk1) := (show A238 = A140 from funext (fun k => hF242.2 k rfl)) ▸ sf174
              have sf253 : SW (Vu Vs sy1) (sy2_144) (vi2_146) A238 := (show A238 = A140 from funext (fun k => hF242.2 k rfl)) ▸ a182
              have sf254 : PQ (Vu Vs sy1) (sy2_144) (pb) (fun _ => 0) A238 := (show A238 = A140 from funext (fun k => hF242.2 k rfl)) ▸ a183
              have sf255 : LK A238 (sy1) (lk1) := (show A238 = A140 from funext (fun k => hF242.2 k rfl)) ▸ a184
              have ec256 : ecn A238 (G237 31) = ec1 := (ecn_f (hF242.2 15 rfl) (hF242.1 31 rfl)).trans ec175
              have bfk2_240 : (0 : Int) ≤ fk2_240 ∧ fk2_240 ≤ 6 := e244 ▸ hW241.1 16
              refine .inr ⟨_, rfl, ?_⟩
              rcases q245 with ⟨rfl, a257, a258, a259, a260⟩ | ⟨rfl, a261⟩
              · have _q : True := trivial
                have b262 : (0 : Int) ≤ A 4 (ln2_141).toNat ∧ A 4 (ln2_141).toNat ≤ 3000 := hW.2 4 _
                have lt263 : A 3 (ln2_141).toNat < A 4 (ln2_141).toNat := LT_at (LT_ext (((hF242.1 3 rfl).trans ((hF149.1 3 rfl).trans (hFx.1 3 rfl)))) (((hF242.2 3 rfl).trans ((hF149.2 3 rfl).trans (hFx.2 3 rfl)))) (((hF242.2 4 rfl).trans ((hF149.2 4 rfl).trans (hFx.2 4 rfl)))) i_LT) (show G237 3 = li from ((hF242.1 3 rfl).trans ((hF149.1 3 rfl).trans ((hFx.1 3 rfl).trans (e_li))))) (show A238 3 (ln2_141).toNat = A 3 (ln2_141).toNat from (congrFun ((hF242.2 3 rfl).trans ((hF149.2 3 rfl).trans (hFx.2 3 rfl))) _)) (show A238 4 (ln2_141).toNat = A 4 (ln2_141).toNat from (congrFun ((hF242.2 4 rfl).trans ((hF149.2 4 rfl).trans (hFx.2 4 rfl))) _)) (by omega) (by omega)
                refine jx_if_eq (pc' := 134) (tg := 106) rfl rfl rfl (by decide) (by decide) (fun h264 => ?_) (fun h264 => ?_)
                · have _q := h264
                  exact absurd h264 (by omega)
                · have _q := h264
                  refine jx_ld (pc' := 135) (l' := L) (st' := [.ref 66]) rfl (jl_aloadn gL_0) ?_
                  refine jx_vr (pc' := 138) (as := []) (st := []) rfl rfl rfl rfl ⟨rfl, rfl, Nat.le_of_ble_eq_true rfl⟩ rfl rfl (c_openLine (dd := d) (hd := by omega) (hW := hW241)  (ln := ln2_141) (e_ln := show G237 9 = ln2_141 from ((hF242.1 9 rfl).trans (e153))) (le := A 4 (ln2_141).toNat) (e_le := show A238 4 (ln2_141).toNat = A 4 (ln2_141).toNat from (congrFun ((hF242.2 4 rfl).trans ((hF149.2 4 rfl).trans (hFx.2 4 rfl))) _)) (lf := A 3 (ln2_141).toNat) (e_lf := show A238 3 (ln2_141).toNat = A 3 (ln2_141).toNat from (congrFun ((hF242.2 3 rfl).trans ((hF149.2 3 rfl).trans (hFx.2 3 rfl))) _))    (p_0 := by omega)) (fun o V' hq => ?_)
                  obtain ⟨G265, A266, at2_267, tk2_268, op2_269, rfl, rfl, hW270, hF271, e272, e273, e274, p275, p276, p277, p278, -⟩ := hq
                  have hF280 := Fr_tr hF246 hF271 (Fr_sub (by decide)) (Fr_sub (by decide))
                  have sf281 : PZ A266 := (show A266 = A238 from funext (fun k => hF271.2 k rfl)) ▸ sf247
                  have sf282 : SW (Vs) (sb) (vi1) A266 := (show A266 = A238 from funext (fun k => hF271.2 k rfl)) ▸ sf248
                  have sf283 : PQ (Vs) (sb) (pb) (fun _ => 0) A266 := (show A266 = A238 from funext (fun k => hF271.2 k rfl)) ▸ sf249
                  have sf284 : VL (Vs) A266 (s0) (sb) := (show A266 = A238 from funext (fun k => hF271.2 k rfl)) ▸ sf250
                  have sf285 : wQ A266 (pc1).toNat (nd1) (s0) := (show A266 = A238 from funext (fun k => hF271.2 k rfl)) ▸ sf251
                  have sf286 : wK A266 (s0) (lk1) := (show A266 = A238 from funext (fun k => hF271.2 k rfl)) ▸ sf252
                  have sf287 : SW (Vu Vs sy1) (sy2_144) (vi2_146) A266 := (show A266 = A238 from funext (fun k => hF271.2 k rfl)) ▸ sf253
                  have sf288 : PQ (Vu Vs sy1) (sy2_144) (pb) (fun _ => 0) A266 := (show A266 = A238 from funext (fun k => hF271.2 k rfl)) ▸ sf254
                  have sf289 : LK A266 (sy1) (lk1) := (show A266 = A238 from funext (fun k => hF271.2 k rfl)) ▸ sf255
                  have ec290 : ecn A266 (G265 31) = ec1 := (ecn_f (hF271.2 15 rfl) (hF271.1 31 rfl)).trans ec256
                  have bat2_267 : (0 : Int) ≤ at2_267 ∧ at2_267 ≤ 3002 := e272 ▸ hW270.1 10
                  have ztk2_268 := tz_b tk2_268
                  have btk2_268 : (0 : Int) ≤ tk2_268 ∧ tk2_268 ≤ 5 := e273 ▸ hW270.1 11
                  have bop2_269 : (-2147483648 : Int) ≤ op2_269 ∧ op2_269 ≤ 2147483647 := e274 ▸ hW270.1 15
                  refine .inl ⟨rfl, ?_⟩
                  have pz291 : (A 3 (ln2_141).toNat) + tz tk2_268 ≤ at2_267 := by omega
                  refine jx_go (tg := 106) rfl rfl ?_
                  have z292 := tz_f (tk2_268)
                  exact ih106_1 _ (by omega) L G265 A266 (ln2_141) (at2_267) (tk2_268) (fk2_240) (op2_269) (nd1) (sy2_144) (na2_145) (vi2_146) (A 3 (ln2_141).toNat) (A 4 (ln2_141).toNat) (pc1) (lk2_147) (ec1) rfl gL_0 gL_2 hW270 hF280 (((hF271.1 9 rfl).trans ((hF242.1 9 rfl).trans (e153)))) ((e272)) ((e273)) (((hF271.1 16 rfl).trans (e244))) ((e274)) (((hF271.1 31 rfl).trans ((hF242.1 31 rfl).trans ((hF149.1 31 rfl).trans (ex_nd1))))) (((hF271.1 19 rfl).trans ((hF242.1 19 rfl).trans (e156)))) (((hF271.1 28 rfl).trans ((hF242.1 28 rfl).trans (e157)))) (((hF271.1 29 rfl).trans ((hF242.1 29 rfl).trans (e158)))) ((congrFun ((hF271.2 3 rfl).trans ((hF242.2 3 rfl).trans ((hF149.2 3 rfl).trans (hFx.2 3 rfl)))) _)) ((congrFun ((hF271.2 4 rfl).trans ((hF242.2 4 rfl).trans ((hF149.2 4 rfl).trans (hFx.2 4 rfl)))) _)) (((hF271.1 46 rfl).trans ((hF242.1 46 rfl).trans ((hF149.1 46 rfl).trans (ex_pc1))))) (((hF271.1 52 rfl).trans ((hF242.1 52 rfl).trans (e159)))) (ec290) (by omega) (by omega) (by omega) (by omega) (by omega) (by omega) (by omega) (by omega) (by omega) (by omega) (by omega) (sf281) ((TL_mk (s0 := s0) (by omega) (by omega) (by omega) (VB_u hvb (by omega) (by omega)) sf287 sf288 (VL_u (t1 := sy2_144) sf284 (by omega) (by omega) (by omega)) sf285 (wK_add sf286 sf289 (by omega) (by omega) rfl) (by omega) (by omega) (by omega) (by omega) (by omega) (by omega) (by omega) (by omega) (by omega) (by omega))) (by omega)
              · have _q : True := trivial
                refine jx_if_eq (pc' := 134) (tg := 106) rfl rfl rfl (by decide) (by decide) (fun h293 => ?_) (fun h293 => ?_)
                · have _q := h293
                  refine jx_ld (pc' := 107) (l' := L) (st' := [.ref 66]) rfl (jl_aloadn gL_0) ?_
                  refine jx_vr (pc' := 110) (as := []) (st := []) rfl rfl rfl rfl ⟨rfl, rfl, Nat.le_of_ble_eq_true rfl⟩ rfl rfl (c_bad (dd := d) (hd := by omega) (hW := hW241)  (fk := fk2_240) (e_fk := show G237 16 = fk2_240 from (e244))    ) (fun o V' hq => ?_)
                  obtain ⟨r294, rfl, rfl, b295, q296⟩ := hq
                  refine .inr ⟨_, rfl, ?_⟩
                  rcases q296 with ⟨rfl, a297⟩ | ⟨rfl, a298⟩
                  · have _q : True := trivial
                    refine jx_if_ne (pc' := 113) (tg := 141) rfl rfl rfl (by decide) (by decide) (fun h299 => ?_) (fun h299 => ?_)
                    · have _q := h299
                      refine jx_ld (pc' := 142) (l' := L) (st' := [.int (i32 (1))]) rfl (jl_iloadn gL_2) ?_
                      refine jx_if_eq (pc' := 145) (tg := 184) rfl rfl rfl (by decide) (by decide) (fun h300 => ?_) (fun h300 => ?_)
                      · have _q := h300
                        exact absurd h300 (by omega)
                      · have _q := h300
                        refine jx_ld (pc' := 146) (l' := L) (st' := [.ref 66]) rfl (jl_aloadn gL_0) ?_
                        refine jx_vr (pc' := 149) (as := []) (st := []) rfl rfl rfl rfl ⟨rfl, rfl, Nat.le_of_ble_eq_true rfl⟩ rfl rfl (c_bad (dd := d) (hd := by omega) (hW := hW241)  (fk := fk2_240) (e_fk := show G237 16 = fk2_240 from (e244))    ) (fun o V' hq => ?_)
                        obtain ⟨r301, rfl, rfl, b302, q303⟩ := hq
                        refine .inr ⟨_, rfl, ?_⟩
                        rcases q303 with ⟨rfl, a304⟩ | ⟨rfl, a305⟩
                        · have _q : True := trivial
                          refine jx_if_ne (pc' := 152) (tg := 170) rfl rfl rfl (by decide) (by decide) (fun h306 => ?_) (fun h306 => ?_)
                          · have _q := h306
                            refine jx_ld (pc' := 171) (l' := L) (st' := [.ref 66]) rfl (jl_aloadn gL_0) ?_
                            refine jx_vr (pc' := 174) (as := []) (st := []) rfl rfl rfl rfl ⟨rfl, rfl, Nat.le_of_ble_eq_true rfl⟩ rfl rfl (c_bad (dd := d) (hd := by omega) (hW := hW241)  (fk := fk2_240) (e_fk := show G237 16 = fk2_240 from (e244))    ) (fun o V' hq => ?_)
                            obtain ⟨r307, rfl, rfl, b308, q309⟩ := hq
                            refine .inr ⟨_, rfl, ?_⟩
                            rcases q309 with ⟨rfl, a310⟩ | ⟨rfl, a311⟩
                            · have _q : True := trivial
                              refine jx_if_ne (pc' := 177) (tg := 195) rfl rfl rfl (by decide) (by decide) (fun h312 => ?_) (fun h312 => ?_)
                              · have _q := h312
                                refine jx_ld (pc' := 196) (l' := L) (st' := [.ref 66]) rfl (jl_aloadn gL_0) ?_
                                refine jx_vr (pc' := 199) (as := []) (st := []) rfl rfl rfl rfl ⟨rfl, rfl, Nat.le_of_ble_eq_true rfl⟩ rfl rfl (c_bad (dd := d) (hd := by omega) (hW := hW241)  (fk := fk2_240) (e_fk := show G237 16 = fk2_240 from (e244))    ) (fun o V' hq => ?_)
                                obtain ⟨r313, rfl, rfl, b314, q315⟩ := hq
                                refine .inr ⟨_, rfl, ?_⟩
                                rcases q315 with ⟨rfl, a316⟩ | ⟨rfl, a317⟩
                                · have _q : True := trivial
                                  refine jx_if_ne (pc' := 202) (tg := 237) rfl rfl rfl (by decide) (by decide) (fun h318 => ?_) (fun h318 => ?_)
                                  · have _q := h318
                                    refine jx_rt (v := none) rfl rfl rfl rfl rfl rfl ?_
                                    exact ⟨_, _, ln2_141, fk2_240, nd1, sy2_144, na2_145, vi2_146, pc1, lk2_147, ec1, rfl, rfl, hW241, hF246, ((hF242.1 9 rfl).trans (e153)), (e244), ((hF242.1 31 rfl).trans ((hF149.1 31 rfl).trans (ex_nd1))), ((hF242.1 19 rfl).trans (e156)), ((hF242.1 28 rfl).trans (e157)), ((hF242.1 29 rfl).trans (e158)), ((hF242.1 46 rfl).trans ((hF149.1 46 rfl).trans (ex_pc1))), ((hF242.1 52 rfl).trans (e159)), ec256, by first | exact Or.inl (by omega)⟩
                                  · have _q := h318
                                    exact absurd h318 (by omega)
                                · have _q : True := trivial
                                  exfalso
                                  omega
                              · have _q := h312
                                exact absurd h312 (by omega)
                            · have _q : True := trivial
                              exfalso
                              omega
                          · have _q := h306
                            exact absurd h306 (by omega)
                        · have _q : True := trivial
                          exfalso
                          omega
                    · have _q := h299
                      exact absurd h299 (by omega)
                  · have _q : True := trivial
                    exfalso
                    omega
                · have _q := h293
                  exact absurd h293 (by omega)
        · have _q : True := trivial
          refine jx_if_eq (pc' := 122) (tg := 141) rfl rfl rfl (by decide) (by decide) (fun h319 => ?_) (fun h319 => ?_)
          · have _q := h319
            have z320 := tz_f (tk1)
            exact c_readProgram_w_at_141_1 (X := X) (d := d) (c0 := c0) (c1 := c1) (G := G) (A := A) (T := T) (ln := ln) (li := li) (fk := fk) (nd := nd) (sy := sy) (na := na) (vi := vi) (lf := lf) (pc := pc) (lk := lk) (ec := ec) (hd := hd) (hW := hW) (e_ln := e_ln) (e_li := e_li) (e_fk := e_fk) (e_nd := e_nd) (e_sy := e_sy) (e_na := e_na) (e_vi := e_vi) (e_lf := e_lf) (e_pc := e_pc) (e_lk := e_lk) (e_ec := e_ec) (i_LT := i_LT) (p_0 := p_0) (p_1 := p_1) (p_2 := p_2) (p_3 := p_3) (p_4 := p_4) (p_5 := p_5) (p_6 := p_6) (p_7 := p_7) (p_8 := p_8) (p_9 := p_9) L Gx Ax (ln1) (at1) (tk1) (fk1) (op1) (nd1) (sy1) (na1) (vi1) (lf1) (le1) (pc1) (lk1) (ec1) gL_0 gL_2 hWx hFx ((ex_ln1)) ((ex_at1)) ((ex_tk1)) ((ex_fk1)) ((ex_op1)) ((ex_nd1)) ((ex_sy1)) ((ex_na1)) ((ex_vi1)) ((ex_lf1)) ((ex_le1)) ((ex_pc1)) ((ex_lk1)) (ex_ec1) (by omega) (by omega) (by omega) (by omega) (by omega) (by omega) (by omega) (by omega) (by omega) (by omega) (by omega) (iv_11) ((TL_mk (s0 := s0) (by omega) (by omega) (by omega) (VB_eq hvb (by omega)) hSW0 hPW0 hVL0 hwQ0 hwK0 (by omega) (by omega) (by omega) (by omega) (by omega) (by omega) (by omega) (by omega) (by omega) (by omega))) (by omega)
          · have _q := h319
            exact absurd h319 (by omega)
set_option maxRecDepth 20000 in
set_option maxHeartbeats 4000000 in
theorem c_readProgram_w_at_74 {X : jX} {d : Nat} {c0 c1 : jC} {G : Nat → Int} {A : Nat → Nat → Int} {T : jH} {ln li fk nd sy na vi lf pc lk ec : Int} (hd : 8 * 18 + 82 ≤ d + 1) (hW : Wk G A) (e_ln : G 9 = ln) (e_li : G 3 = li) (e_fk : G 16 = fk) (e_nd : G 31 = nd) (e_sy : G 19 = sy) (e_na : G 28 = na) (e_vi : G 29 = vi) (e_lf : A 3 (ln).toNat = lf) (e_pc : G 46 = pc) (e_lk : G 52 = lk) (e_ec : ecn A (G 31) = ec) (i_LT : LT G A) (p_0 : fk = 0) (p_1 : ln = 0) (p_2 : nd = 1) (p_3 : sy = 0) (p_4 : na = 0) (p_5 : vi = 0) (p_6 : pc = 0) (p_7 : lk = 0) (p_8 : PZ A) (p_9 : ec = 0) : ∀ (L : jL) (Gx : Nat → Int) (Ax : Nat → Nat → Int) (ln1 at1 tk1 fk1 op1 nd1 sy1 na1 vi1 lf1 le1 pc1 ec1 : Int), jGet L 0 = some (.ref 66) → Wk Gx Ax → Fr [9, 10, 11, 12, 13, 14, 15, 16, 17, 18, 19, 28, 29, 31, 46, 52] [6, 7, 8, 9, 10, 11, 12, 14, 15, 16, 17, 18, 19, 20, 21, 22, 23, 24, 28, 29, 30, 31, 34, 35, 36] G A Gx Ax → Gx 9 = ln1 → Gx 10 = at1 → Gx 11 = tk1 → Gx 16 = fk1 → Gx 15 = op1 → Gx 31 = nd1 → Gx 19 = sy1 → Gx 28 = na1 → Gx 29 = vi1 → Ax 3 (ln1).toNat = lf1 → Ax 4 (ln1).toNat = le1 → Gx 46 = pc1 → ecn Ax (Gx 31) = ec1 → Gx 52 = lk → (fk1 = 0) → (0 ≤ lf1) → (ln1 < li) → (lf1 < le1) → (2 * lf1 ≤ 2 * at1 - tz tk1) → (lf1 ≤ at1) → (at1 ≤ le1) → (nd1 ≤ 2 * lf1 + 2) → (op1 = 0) → (sy1 ≤ na1 + 2) → (vi1 ≤ sy1) → (PZ Ax) → (TP Ax (pc1) (nd1) (sy1) (vi1)) → (nd1 + 5 * ec1 ≤ 2 * lf1 + 2) → wj X d jm312 (74, L, [], rV c0 c1 Gx Ax T) (fun o V' => ∃ (G' : Nat → Int) (A' : Nat → Nat → Int) (ln2 : Int) (fk2 : Int) (nd2 : Int) (sy2 : Int) (na2 : Int) (vi2 : Int) (pc2 : Int) (lk2 : Int) (ec2 : Int), V' = rV c0 c1 G' A' T ∧ o = .inl none ∧ Wk G' A' ∧ Fr [9, 10, 11, 12, 13, 14, 15, 16, 17, 18, 19, 28, 29, 31, 46, 52] [6, 7, 8, 9, 10, 11, 12, 14, 15, 16, 17, 18, 19, 20, 21, 22, 23, 24, 28, 29, 30, 31, 34, 35, 36] G A G' A' ∧ G' 9 = ln2 ∧ G' 16 = fk2 ∧ G' 31 = nd2 ∧ G' 19 = sy2 ∧ G' 28 = na2 ∧ G' 29 = vi2 ∧ G' 46 = pc2 ∧ G' 52 = lk2 ∧ ecn A' (G' 31) = ec2 ∧ (((1 ≤ fk2)) ∨ ((fk2 = 0) ∧ (TT A' (pc2) (nd2) (sy2) (lk2)) ∧ (nd2 + 5 * ec2 ≤ 6050)))) := by
  have hF0 : Fr [9, 10, 11, 12, 13, 14, 15, 16, 17, 18, 19, 28, 29, 31, 46, 52] [6, 7, 8, 9, 10, 11, 12, 14, 15, 16, 17, 18, 19, 20, 21, 22, 23, 24, 28, 29, 30, 31, 34, 35, 36] G A G A := Fr_rf
  have b_ln : (0 : Int) ≤ ln ∧ ln ≤ 3000 := e_ln ▸ hW.1 9
  have b_li : (0 : Int) ≤ li ∧ li ≤ 3000 := e_li ▸ hW.1 3
  have b_fk : (0 : Int) ≤ fk ∧ fk ≤ 6 := e_fk ▸ hW.1 16
  have b_nd : (0 : Int) ≤ nd ∧ nd ≤ 6999 := e_nd ▸ hW.1 31
  have b_sy : (0 : Int) ≤ sy ∧ sy ≤ 202 := e_sy ▸ hW.1 19
  have b_na : (0 : Int) ≤ na ∧ na ≤ 200 := e_na ▸ hW.1 28
  have b_vi : (0 : Int) ≤ vi ∧ vi ≤ 202 := e_vi ▸ hW.1 29
  have b_lf : (0 : Int) ≤ lf ∧ lf ≤ 3000 := e_lf ▸ hW.2 3 _
  have b_pc : (0 : Int) ≤ pc ∧ pc ≤ 24 := e_pc ▸ hW.1 46
  have b_lk : (0 : Int) ≤ lk ∧ lk ≤ 12 := e_lk ▸ hW.1 52
  intro L Gx Ax ln1 at1 tk1 fk1 op1 nd1 sy1 na1 vi1 lf1 le1 pc1 ec1 gL_0 hWx hFx ex_ln1 ex_at1 ex_tk1 ex_fk1 ex_op1 ex_nd1 ex_sy1 ex_na1 ex_vi1 ex_lf1 ex_le1 ex_pc1 ex_ec1 fx_52 iv_0 iv_1 iv_2 iv_3 iv_4 iv_5 iv_6 iv_7 iv_8 iv_9 iv_10 iv_11 iv_12 iv_13
  have b_ln1 : (0 : Int) ≤ ln1 ∧ ln1 ≤ 3000 := ex_ln1 ▸ hWx.1 9
  have b_at1 : (0 : Int) ≤ at1 ∧ at1 ≤ 3002 := ex_at1 ▸ hWx.1 10
  have z_tk1 := tz_f tk1
  have b_tk1 : (0 : Int) ≤ tk1 ∧ tk1 ≤ 5 := ex_tk1 ▸ hWx.1 11
  have b_fk1 : (0 : Int) ≤ fk1 ∧ fk1 ≤ 6 := ex_fk1 ▸ hWx.1 16
  have b_op1 : (-2147483648 : Int) ≤ op1 ∧ op1 ≤ 2147483647 := ex_op1 ▸ hWx.1 15
  have b_nd1 : (0 : Int) ≤ nd1 ∧ nd1 ≤ 6999 := ex_nd1 ▸ hWx.1 31
  have b_sy1 : (0 : Int) ≤ sy1 ∧ sy1 ≤ 202 := ex_sy1 ▸ hWx.1 19
  have b_na1 : (0 : Int) ≤ na1 ∧ na1 ≤ 200 := ex_na1 ▸ hWx.1 28
  have b_vi1 : (0 : Int) ≤ vi1 ∧ vi1 ≤ 202 := ex_vi1 ▸ hWx.1 29
  have b_pc1 : (0 : Int) ≤ pc1 ∧ pc1 ≤ 24 := ex_pc1 ▸ hWx.1 46
  obtain ⟨Vs, hvb, hSW0, hPW0, hVT0, hwQ0⟩ := iv_12; obtain ⟨sb, hsb⟩ : ∃ z : Int, z = sy1 := ⟨_, rfl⟩; obtain ⟨pb, hpb⟩ : ∃ z : Int, z = pc1 := ⟨_, rfl⟩; rw [← hsb] at hvb hSW0 hPW0 hVT0 hwQ0; rw [← hpb] at hPW0; have hle0 := wQ_le hwQ0
  refine jx_ld (pc' := 75) (l' := L) (st' := [.ref 66]) rfl (jl_aloadn gL_0) ?_
  refine jx_vr (pc' := 78) (as := []) (st := []) rfl rfl rfl rfl ⟨rfl, rfl, Nat.le_of_ble_eq_true rfl⟩ rfl rfl (c_bad (dd := d) (hd := by omega) (hW := hWx)  (fk := fk1) (e_fk := show Gx 16 = fk1 from (ex_fk1))    ) (fun o V' hq => ?_)
  obtain ⟨r321, rfl, rfl, b322, q323⟩ := hq
  refine .inr ⟨_, rfl, ?_⟩
  rcases q323 with ⟨rfl, a324⟩ | ⟨rfl, a325⟩
  · have _q : True := trivial
    exfalso
    omega
  · have _q : True := trivial
    refine jx_if_eq (pc' := 81) (tg := 82) rfl rfl rfl (by decide) (by decide) (fun h326 => ?_) (fun h326 => ?_)
    · have _q := h326
      refine jx_ld (pc' := 83) (l' := L) (st' := [.ref 66]) rfl (jl_aloadn gL_0) ?_
      refine jx_ar (pc' := 85) (st' := [.int (i32 (21)), .ref 66]) rfl rfl rfl rfl ?_
      have b327 : (-2147483648 : Int) ≤ Gx 13 ∧ Gx 13 ≤ 2147483647 := hWx.1 13
      refine jx_vr (pc' := 88) (as := [.int (i32 (21))]) (st := []) rfl rfl rfl rfl ⟨rfl, rfl, Nat.le_of_ble_eq_true rfl⟩ rfl rfl (c_isKey2 (dd := d) (hd := by omega) (hW := hWx) (k := 21) (tk := tk1) (e_tk := show Gx 11 = tk1 from (ex_tk1)) (tn := Gx 13) (e_tn := show Gx 13 = Gx 13 from rfl)  (h_k := ⟨(by decide), (by decide)⟩)  ) (fun o V' hq => ?_)
      obtain ⟨r328, rfl, rfl, b329, q330⟩ := hq
      refine .inr ⟨_, rfl, ?_⟩
      rcases q330 with ⟨rfl, a331, a332, a333⟩ | ⟨rfl, a334⟩
      · have _q : True := trivial
        refine jx_if_ne (pc' := 91) (tg := 100) rfl rfl rfl (by decide) (by decide) (fun h335 => ?_) (fun h335 => ?_)
        · have _q := h335
          refine jx_ar (pc' := 101) (st' := [.int (i32 (1))]) rfl rfl rfl rfl ?_
          refine jx_go (tg := 105) rfl rfl ?_
          refine jx_ld (pc' := 106) (l' := jSto1 L 2 (.int (i32 (1)))) (st' := []) rfl rfl ?_
          obtain ⟨L336, eL336⟩ : ∃ q, q = jSto1 L 2 (.int (i32 (1))) := ⟨_, rfl⟩
          rw [← eL336]
          have gL336_0 : jGet L336 0 = some (.ref 66) := eL336 ▸ jg_ne (by decide) gL_0 rfl
          have gL336_2 : jGet L336 2 = some (.int (i32 (1))) := eL336 ▸ jg_eq
          have z337 := tz_f (tk1)
          exact c_readProgram_w_at_106_1 (X := X) (d := d) (c0 := c0) (c1 := c1) (G := G) (A := A) (T := T) (ln := ln) (li := li) (fk := fk) (nd := nd) (sy := sy) (na := na) (vi := vi) (lf := lf) (pc := pc) (lk := lk) (ec := ec) (hd := hd) (hW := hW) (e_ln := e_ln) (e_li := e_li) (e_fk := e_fk) (e_nd := e_nd) (e_sy := e_sy) (e_na := e_na) (e_vi := e_vi) (e_lf := e_lf) (e_pc := e_pc) (e_lk := e_lk) (e_ec := e_ec) (i_LT := i_LT) (p_0 := p_0) (p_1 := p_1) (p_2 := p_2) (p_3 := p_3) (p_4 := p_4) (p_5 := p_5) (p_6 := p_6) (p_7 := p_7) (p_8 := p_8) (p_9 := p_9) _ L336 Gx Ax (ln1) (at1) (tk1) (fk1) (op1) (nd1) (sy1) (na1) (vi1) (lf1) (le1) (pc1) (lk) (ec1) rfl gL336_0 gL336_2 hWx hFx ((ex_ln1)) ((ex_at1)) ((ex_tk1)) ((ex_fk1)) ((ex_op1)) ((ex_nd1)) ((ex_sy1)) ((ex_na1)) ((ex_vi1)) ((ex_lf1)) ((ex_le1)) ((ex_pc1)) ((fx_52)) (ex_ec1) (by omega) (by omega) (by omega) (by omega) (by omega) (by omega) (by omega) (by omega) (by omega) (by omega) (by omega) (iv_11) ((TL_tp (TP_mk (VB_eq hvb (by omega)) hSW0 hPW0 hVT0 hwQ0 (by omega) (by omega) (by omega) (by omega) (by omega) (by omega) (by omega) (by omega)) (by omega))) (by omega)
        · have _q := h335
          exact absurd h335 (by omega)
      · have _q : True := trivial
        refine jx_if_ne (pc' := 91) (tg := 100) rfl rfl rfl (by decide) (by decide) (fun h338 => ?_) (fun h338 => ?_)
        · have _q := h338
          exact absurd h338 (by omega)
        · have _q := h338
          refine jx_ld (pc' := 92) (l' := L) (st' := [.ref 66]) rfl (jl_aloadn gL_0) ?_
          refine jx_ar (pc' := 94) (st' := [.int (i32 (19)), .ref 66]) rfl rfl rfl rfl ?_
          refine jx_vr (pc' := 97) (as := [.int (i32 (19))]) (st := []) rfl rfl rfl rfl ⟨rfl, rfl, Nat.le_of_ble_eq_true rfl⟩ rfl rfl (c_isKey2 (dd := d) (hd := by omega) (hW := hWx) (k := 19) (tk := tk1) (e_tk := show Gx 11 = tk1 from (ex_tk1)) (tn := Gx 13) (e_tn := show Gx 13 = Gx 13 from rfl)  (h_k := ⟨(by decide), (by decide)⟩)  ) (fun o V' hq => ?_)
          obtain ⟨r339, rfl, rfl, b340, q341⟩ := hq
          refine .inr ⟨_, rfl, ?_⟩
          rcases q341 with ⟨rfl, a342, a343, a344⟩ | ⟨rfl, a345⟩
          · have _q : True := trivial
            refine jx_if_eq (pc' := 100) (tg := 104) rfl rfl rfl (by decide) (by decide) (fun h346 => ?_) (fun h346 => ?_)
            · have _q := h346
              exact absurd h346 (by omega)
            · have _q := h346
              refine jx_ar (pc' := 101) (st' := [.int (i32 (1))]) rfl rfl rfl rfl ?_
              refine jx_go (tg := 105) rfl rfl ?_
              refine jx_ld (pc' := 106) (l' := jSto1 L 2 (.int (i32 (1)))) (st' := []) rfl rfl ?_
              obtain ⟨L347, eL347⟩ : ∃ q, q = jSto1 L 2 (.int (i32 (1))) := ⟨_, rfl⟩
              rw [← eL347]
              have gL347_0 : jGet L347 0 = some (.ref 66) := eL347 ▸ jg_ne (by decide) gL_0 rfl
              have gL347_2 : jGet L347 2 = some (.int (i32 (1))) := eL347 ▸ jg_eq
              have z348 := tz_f (tk1)
              exact c_readProgram_w_at_106_1 (X := X) (d := d) (c0 := c0) (c1 := c1) (G := G) (A := A) (T := T) (ln := ln) (li := li) (fk := fk) (nd := nd) (sy := sy) (na := na) (vi := vi) (lf := lf) (pc := pc) (lk := lk) (ec := ec) (hd := hd) (hW := hW) (e_ln := e_ln) (e_li := e_li) (e_fk := e_fk) (e_nd := e_nd) (e_sy := e_sy) (e_na := e_na) (e_vi := e_vi) (e_lf := e_lf) (e_pc := e_pc) (e_lk := e_lk) (e_ec := e_ec) (i_LT := i_LT) (p_0 := p_0) (p_1 := p_1) (p_2 := p_2) (p_3 := p_3) (p_4 := p_4) (p_5 := p_5) (p_6 := p_6) (p_7 := p_7) (p_8 := p_8) (p_9 := p_9) _ L347 Gx Ax (ln1) (at1) (tk1) (fk1) (op1) (nd1) (sy1) (na1) (vi1) (lf1) (le1) (pc1) (lk) (ec1) rfl gL347_0 gL347_2 hWx hFx ((ex_ln1)) ((ex_at1)) ((ex_tk1)) ((ex_fk1)) ((ex_op1)) ((ex_nd1)) ((ex_sy1)) ((ex_na1)) ((ex_vi1)) ((ex_lf1)) ((ex_le1)) ((ex_pc1)) ((fx_52)) (ex_ec1) (by omega) (by omega) (by omega) (by omega) (by omega) (by omega) (by omega) (by omega) (by omega) (by omega) (by omega) (iv_11) ((TL_tp (TP_mk (VB_eq hvb (by omega)) hSW0 hPW0 hVT0 hwQ0 (by omega) (by omega) (by omega) (by omega) (by omega) (by omega) (by omega) (by omega)) (by omega))) (by omega)
          · have _q : True := trivial
            refine jx_if_eq (pc' := 100) (tg := 104) rfl rfl rfl (by decide) (by decide) (fun h349 => ?_) (fun h349 => ?_)
            · have _q := h349
              refine jx_ar (pc' := 105) (st' := [.int (i32 (0))]) rfl rfl rfl rfl ?_
              refine jx_ld (pc' := 106) (l' := jSto1 L 2 (.int (i32 (0)))) (st' := []) rfl rfl ?_
              obtain ⟨L350, eL350⟩ : ∃ q, q = jSto1 L 2 (.int (i32 (0))) := ⟨_, rfl⟩
              rw [← eL350]
              have gL350_0 : jGet L350 0 = some (.ref 66) := eL350 ▸ jg_ne (by decide) gL_0 rfl
              have gL350_2 : jGet L350 2 = some (.int (i32 (0))) := eL350 ▸ jg_eq
              refine jx_ld (pc' := 107) (l' := L350) (st' := [.ref 66]) rfl (jl_aloadn gL350_0) ?_
              refine jx_vr (pc' := 110) (as := []) (st := []) rfl rfl rfl rfl ⟨rfl, rfl, Nat.le_of_ble_eq_true rfl⟩ rfl rfl (c_bad (dd := d) (hd := by omega) (hW := hWx)  (fk := fk1) (e_fk := show Gx 16 = fk1 from (ex_fk1))    ) (fun o V' hq => ?_)
              obtain ⟨r351, rfl, rfl, b352, q353⟩ := hq
              refine .inr ⟨_, rfl, ?_⟩
              rcases q353 with ⟨rfl, a354⟩ | ⟨rfl, a355⟩
              · have _q : True := trivial
                exfalso
                omega
              · have _q : True := trivial
                refine jx_if_ne (pc' := 113) (tg := 141) rfl rfl rfl (by decide) (by decide) (fun h356 => ?_) (fun h356 => ?_)
                · have _q := h356
                  exact absurd h356 (by omega)
                · have _q := h356
                  refine jx_ld (pc' := 114) (l' := L350) (st' := [.ref 66]) rfl (jl_aloadn gL350_0) ?_
                  refine jx_ar (pc' := 116) (st' := [.int (i32 (21)), .ref 66]) rfl rfl rfl rfl ?_
                  refine jx_vr (pc' := 119) (as := [.int (i32 (21))]) (st := []) rfl rfl rfl rfl ⟨rfl, rfl, Nat.le_of_ble_eq_true rfl⟩ rfl rfl (c_isKey2 (dd := d) (hd := by omega) (hW := hWx) (k := 21) (tk := tk1) (e_tk := show Gx 11 = tk1 from (ex_tk1)) (tn := Gx 13) (e_tn := show Gx 13 = Gx 13 from rfl)  (h_k := ⟨(by decide), (by decide)⟩)  ) (fun o V' hq => ?_)
                  obtain ⟨r357, rfl, rfl, b358, q359⟩ := hq
                  refine .inr ⟨_, rfl, ?_⟩
                  rcases q359 with ⟨rfl, a360, a361, a362⟩ | ⟨rfl, a363⟩
                  · have _q : True := trivial
                    refine jx_if_eq (pc' := 122) (tg := 141) rfl rfl rfl (by decide) (by decide) (fun h364 => ?_) (fun h364 => ?_)
                    · have _q := h364
                      exact absurd h364 (by omega)
                    · have _q := h364
                      exfalso
                      omega
                  · have _q : True := trivial
                    refine jx_if_eq (pc' := 122) (tg := 141) rfl rfl rfl (by decide) (by decide) (fun h365 => ?_) (fun h365 => ?_)
                    · have _q := h365
                      refine jx_ld (pc' := 142) (l' := L350) (st' := [.int (i32 (0))]) rfl (jl_iloadn gL350_2) ?_
                      refine jx_if_eq (pc' := 145) (tg := 184) rfl rfl rfl (by decide) (by decide) (fun h366 => ?_) (fun h366 => ?_)
                      · have _q := h366
                        refine jx_ld (pc' := 185) (l' := L350) (st' := [.ref 66]) rfl (jl_aloadn gL350_0) ?_
                        refine jr_get (pc' := 188) (i := 55) (v := .ref 103) rfl rfl (by decide) rfl rfl ?_
                        refine jx_ar (pc' := 189) (st' := [.int (i32 (0)), .ref 103]) rfl rfl rfl rfl ?_
                        refine jx_ld (pc' := 190) (l' := L350) (st' := [.ref 66, .int (i32 (0)), .ref 103]) rfl (jl_aloadn gL350_0) ?_
                        refine jx_ar (pc' := 191) (st' := [.int (i32 (0)), .ref 66, .int (i32 (0)), .ref 103]) rfl rfl rfl rfl ?_
                        refine jx_vr (pc' := 194) (as := [.int (i32 (0))]) (st := [.int (i32 (0)), .ref 103]) rfl rfl rfl rfl ⟨rfl, rfl, Nat.le_of_ble_eq_true rfl⟩ rfl rfl (RPw_all X 18 (dd := d) (hd := by omega) (hW := hWx) (lv := 0) (at0 := (lf1 - 1)) (ln := ln1) (e_ln := show Gx 9 = ln1 from (ex_ln1)) (li := li) (e_li := show Gx 3 = li from ((hFx.1 3 rfl).trans (e_li))) (fk := fk1) (e_fk := show Gx 16 = fk1 from (ex_fk1)) (nd := nd1) (e_nd := show Gx 31 = nd1 from (ex_nd1)) (sy := sy1) (e_sy := show Gx 19 = sy1 from (ex_sy1)) (na := na1) (e_na := show Gx 28 = na1 from (ex_na1)) (vi := vi1) (e_vi := show Gx 29 = vi1 from (ex_vi1)) (lf := lf1) (e_lf := show Ax 3 (ln1).toNat = lf1 from (ex_lf1)) (ac := at1) (e_ac := show Gx 10 = at1 from (ex_at1)) (ec := ec1) (e_ec := show ecn Ax (Gx 31) = ec1 from ex_ec1) (i_LT := (LT_ext ((hFx.1 3 rfl)) ((hFx.2 3 rfl)) ((hFx.2 4 rfl)) i_LT)) (i_SV := (SW_sv hSW0 ((show Gx 29 = vi1 from (ex_vi1)).trans (by omega)))) (i_PQ := hPW0) (hvb := hvb) (h_lv := ⟨(by decide), (by decide)⟩)  (p_0 := by omega) (p_1 := by omega) (p_2 := by omega) (p_3 := by omega) (p_4 := by omega) (p_5 := by omega) (p_6 := by omega) (p_7 := by omega) (p_8 := by omega) (p_9 := by omega) (p_10 := by omega)) (fun o V' hq => ?_)
                        obtain ⟨G367, A368, r369, ln2_370, at2_371, fk2_372, nd2_373, sy2_374, na2_375, vi2_376, lf2_377, ec2_378, rfl, rfl, hW379, hF380, hQ381, hQ382, hQ383, b384, e385, e386, e387, e388, e389, e390, e391, e392, e393, p394, p395, p396, p397, p398, p399, p400, p401, p402, q403⟩ := hq
                        have hF404 := Fr_tr hFx hF380 (Fr_sub (by decide)) (Fr_sub (by decide))
                        have sf405 : PZ A368 := PZ_ext (hF380.2 36 rfl) iv_11
                        have sf406 : SW (Vs) (sb) (vi1) A368 := SW_fx hQ383 (by omega) hSW0
                        have sf407 : PQ (Vs) (sb) (pb) (fun _ => 0) A368 := PQ_fxq hPW0 hQ382 (by omega) (Fx_f (w := pb) Fx_rf hF380 (by decide)) (by omega)
                        have sf408 : VT (Vs) A368 (sb) := VT_fx hQ382 (by omega) hVT0
                        have sf409 : wQ A368 (pc1).toNat (nd1) (sb) := wQ_fx (fun k j hk hj => hQ381 k j hk (by omega)) (Fx_su hQ382 (by omega)) (Fx_su (Fx_f (w := pc1) Fx_rf hF380 (by decide)) (by omega)) hwQ0
                        have bln2_370 : (0 : Int) ≤ ln2_370 ∧ ln2_370 ≤ 3000 := e385 ▸ hW379.1 9
                        have bat2_371 : (0 : Int) ≤ at2_371 ∧ at2_371 ≤ 3002 := e386 ▸ hW379.1 10
                        have bfk2_372 : (0 : Int) ≤ fk2_372 ∧ fk2_372 ≤ 6 := e387 ▸ hW379.1 16
                        have bnd2_373 : (0 : Int) ≤ nd2_373 ∧ nd2_373 ≤ 6999 := e388 ▸ hW379.1 31
                        have bsy2_374 : (0 : Int) ≤ sy2_374 ∧ sy2_374 ≤ 202 := e389 ▸ hW379.1 19
                        have bna2_375 : (0 : Int) ≤ na2_375 ∧ na2_375 ≤ 200 := e390 ▸ hW379.1 28
                        have bvi2_376 : (0 : Int) ≤ vi2_376 ∧ vi2_376 ≤ 202 := e391 ▸ hW379.1 29
                        have blf2_377 : (0 : Int) ≤ lf2_377 ∧ lf2_377 ≤ 3000 := e392 ▸ hW379.2 3 _
                        refine .inr ⟨_, rfl, ?_⟩
                        rcases q403 with ⟨a410, a411⟩ | ⟨a412, a413, a414, a415, a416, a417, a418, a419, a420, a421⟩
                        · have _q : True := trivial
                          refine jr_st (pc' := 195) (i := 36) (m := 6) (z := (0 : Int)) (y := r369) rfl (by decide) rfl (by decide) (by omega) (by omega) rfl ?_
                          have hW423 : Wk G367 (uA A368 36 ((0 : Int)).toNat (r369)) := Wk_a hW379 (show (-2147483648 : Int) ≤ r369 by omega) (show r369 ≤ (2147483647 : Int) by omega)
                          have hF424 := Fr_a (z := r369) (k := 36) (n := ((0 : Int)).toNat) hF404 (by decide)
                          obtain ⟨A422, eA422⟩ : ∃ q, q = uA A368 36 ((0 : Int)).toNat (r369) := ⟨_, rfl⟩
                          rw [← eA422]
                          rw [← eA422] at hW423 hF424
                          have q425 : A422 36 ((0 : Int)).toNat = r369 := by rw [eA422]; exact uA_eq
                          have sf426 : SW (Vs) (sb) (vi1) A422 := SW_ext ((congrFun eA422 14).trans (uA_ne (by decide))) sf406
                          have sf427 : PQ (Vs) (sb) (pb) (fun _ => 0) A422 := PQ_fxq sf407 (Sg_ne (sb := sb) eA422 rfl) (by omega) (show Fx [29, 30, 31] (pb) A368 A422 from eA422 ▸ Fx_n Fx_rf rfl) (by omega)
                          have sf428 : VT (Vs) A422 (sb) := VT_fx (Sg_ne (sb := sb) eA422 rfl) (by omega) sf408
                          have sf429 : wQ A422 (pc1).toNat (nd1) (sb) := wQ_fx (show Pf _ _ _ from eA422 ▸ Pf_n Pf_rf rfl) (Fx_su (Sg_ne (sb := sb) eA422 rfl) (by omega)) (Fx_su (show Fx [29, 30, 31] (pc1) A368 A422 from eA422 ▸ Fx_n Fx_rf rfl) (by omega)) sf409
                          have ec430 : ecn A422 (G367 31) = ec2_378 := (ecn_e ((congrFun eA422 15).trans (uA_ne (by decide)))).trans e393
                          refine jx_ld (pc' := 196) (l' := L350) (st' := [.ref 66]) rfl (jl_aloadn gL350_0) ?_
                          refine jx_vr (pc' := 199) (as := []) (st := []) rfl rfl rfl rfl ⟨rfl, rfl, Nat.le_of_ble_eq_true rfl⟩ rfl rfl (c_bad (dd := d) (hd := by omega) (hW := hW423)  (fk := fk2_372) (e_fk := show G367 16 = fk2_372 from (e387))    ) (fun o V' hq => ?_)
                          obtain ⟨r431, rfl, rfl, b432, q433⟩ := hq
                          refine .inr ⟨_, rfl, ?_⟩
                          rcases q433 with ⟨rfl, a434⟩ | ⟨rfl, a435⟩
                          · have _q : True := trivial
                            refine jx_if_ne (pc' := 202) (tg := 237) rfl rfl rfl (by decide) (by decide) (fun h436 => ?_) (fun h436 => ?_)
                            · have _q := h436
                              refine jx_rt (v := none) rfl rfl rfl rfl rfl rfl ?_
                              exact ⟨_, _, ln2_370, fk2_372, nd2_373, sy2_374, na2_375, vi2_376, pc1, lk, ec2_378, rfl, rfl, hW423, hF424, (e385), (e387), (e388), (e389), (e390), (e391), ((hF380.1 46 rfl).trans (ex_pc1)), ((hF380.1 52 rfl).trans (fx_52)), ec430, by first | exact Or.inl (by omega)⟩
                            · have _q := h436
                              exact absurd h436 (by omega)
                          · have _q : True := trivial
                            exfalso
                            omega
                        · have _q : True := trivial
                          refine jr_st (pc' := 195) (i := 36) (m := 6) (z := (0 : Int)) (y := r369) rfl (by decide) rfl (by decide) (by omega) (by omega) rfl ?_
                          have hW438 : Wk G367 (uA A368 36 ((0 : Int)).toNat (r369)) := Wk_a hW379 (show (-2147483648 : Int) ≤ r369 by omega) (show r369 ≤ (2147483647 : Int) by omega)
                          have hF439 := Fr_a (z := r369) (k := 36) (n := ((0 : Int)).toNat) hF404 (by decide)
                          obtain ⟨A437, eA437⟩ : ∃ q, q = uA A368 36 ((0 : Int)).toNat (r369) := ⟨_, rfl⟩
                          rw [← eA437]
                          rw [← eA437] at hW438 hF439
                          have q440 : A437 36 ((0 : Int)).toNat = r369 := by rw [eA437]; exact uA_eq
                          have sf441 : wB A437 Vs pb (nd1) (nd2_373) (sy1) (sy2_374) := wB_one eA437 sf405 (by omega) (by omega) a418 rfl (by omega) (by omega) (by omega) (by omega)
                          have sf442 : SW (Vs) (sb) (vi1) A437 := SW_ext ((congrFun eA437 14).trans (uA_ne (by decide))) sf406
                          have sf443 : PQ (Vs) (sb) (pb) (fun _ => 0) A437 := PQ_fxq sf407 (Sg_ne (sb := sb) eA437 rfl) (by omega) (show Fx [29, 30, 31] (pb) A368 A437 from eA437 ▸ Fx_n Fx_rf rfl) (by omega)
                          have sf444 : VT (Vs) A437 (sb) := VT_fx (Sg_ne (sb := sb) eA437 rfl) (by omega) sf408
                          have sf445 : wQ A437 (pc1).toNat (nd1) (sb) := wQ_fx (show Pf _ _ _ from eA437 ▸ Pf_n Pf_rf rfl) (Fx_su (Sg_ne (sb := sb) eA437 rfl) (by omega)) (Fx_su (show Fx [29, 30, 31] (pc1) A368 A437 from eA437 ▸ Fx_n Fx_rf rfl) (by omega)) sf409
                          have sf446 : wP A437 (sy2_374) pb (18) (Vs) (r369) (nd1) (nd2_373) (sy1) (sy2_374) := wP_ag (Sg_ne eA437 rfl) (Qg_ne eA437 rfl) (by omega) (by omega) (Ax_ag (Ag_ne eA437 rfl)) a418
                          have sf447 : NX A437 (r369) := NX_r eA437 (by decide) a419
                          have ec448 : ecn A437 (G367 31) = ec2_378 := (ecn_e ((congrFun eA437 15).trans (uA_ne (by decide)))).trans e393
                          refine jx_ld (pc' := 196) (l' := L350) (st' := [.ref 66]) rfl (jl_aloadn gL350_0) ?_
                          refine jx_vr (pc' := 199) (as := []) (st := []) rfl rfl rfl rfl ⟨rfl, rfl, Nat.le_of_ble_eq_true rfl⟩ rfl rfl (c_bad (dd := d) (hd := by omega) (hW := hW438)  (fk := fk2_372) (e_fk := show G367 16 = fk2_372 from (e387))    ) (fun o V' hq => ?_)
                          obtain ⟨r449, rfl, rfl, b450, q451⟩ := hq
                          refine .inr ⟨_, rfl, ?_⟩
                          rcases q451 with ⟨rfl, a452⟩ | ⟨rfl, a453⟩
                          · have _q : True := trivial
                            exfalso
                            omega
                          · have _q : True := trivial
                            refine jx_if_ne (pc' := 202) (tg := 237) rfl rfl rfl (by decide) (by decide) (fun h454 => ?_) (fun h454 => ?_)
                            · have _q := h454
                              exact absurd h454 (by omega)
                            · have _q := h454
                              refine jx_ld (pc' := 203) (l' := L350) (st' := [.ref 66]) rfl (jl_aloadn gL350_0) ?_
                              refine jr_get (pc' := 206) (i := 9) (v := .int (i32 (ln2_370))) rfl rfl (by decide) (rFv_eq (by decide) (show G367 9 = ln2_370 from (e385))) rfl ?_
                              refine jx_ld (pc' := 207) (l' := L350) (st' := [.ref 66, .int (i32 (ln2_370))]) rfl (jl_aloadn gL350_0) ?_
                              refine jr_get (pc' := 210) (i := 3) (v := .int (i32 (li))) rfl rfl (by decide) (rFv_eq (by decide) (show G367 3 = li from ((hF380.1 3 rfl).trans ((hFx.1 3 rfl).trans (e_li))))) rfl ?_
                              refine jx_icmp_ge (pc' := 213) (tg := 237) rfl rfl rfl (Int.le_trans (by decide : (-2147483648 : Int) ≤ 0) bln2_370.1) (Int.le_trans bln2_370.2 (by decide : (3000 : Int) ≤ 2147483647)) (Int.le_trans (by decide : (-2147483648 : Int) ≤ 0) b_li.1) (Int.le_trans b_li.2 (by decide : (3000 : Int) ≤ 2147483647)) (fun h455 => ?_) (fun h455 => ?_)
                              · have _q := h455
                                refine jx_rt (v := none) rfl rfl rfl rfl rfl rfl ?_
                                exact ⟨_, _, ln2_370, fk2_372, nd2_373, sy2_374, na2_375, vi2_376, pc1, lk, ec2_378, rfl, rfl, hW438, hF439, (e385), (e387), (e388), (e389), (e390), (e391), ((hF380.1 46 rfl).trans (ex_pc1)), ((hF380.1 52 rfl).trans (fx_52)), ec448, by first | exact Or.inr ((⟨by omega, (TT_mk (V := Vs) (lo := nd1) (s0 := sb) (t0 := sb) (by omega) (by omega) (by omega) hvb (VL_vt (t0 := sb) sf444) sf445 (wK_nil (s0 := sb)) sf441 (by omega) (by omega) (by omega) (by omega) (by omega) (by omega) (by omega) (by omega) (by omega) (by omega) (by omega)), by omega⟩))⟩
                              · have _q := h455
                                refine jx_ld (pc' := 214) (l' := L350) (st' := [.ref 66]) rfl (jl_aloadn gL350_0) ?_
                                refine jx_ar (pc' := 215) (st' := [.int (i32 (1)), .ref 66]) rfl rfl rfl rfl ?_
                                refine jx_ld (pc' := 216) (l' := L350) (st' := [.ref 66, .int (i32 (1)), .ref 66]) rfl (jl_aloadn gL350_0) ?_
                                refine jr_get (pc' := 219) (i := 6) (v := .ref 70) rfl rfl (by decide) rfl rfl ?_
                                refine jx_ld (pc' := 220) (l' := L350) (st' := [.ref 66, .ref 70, .int (i32 (1)), .ref 66]) rfl (jl_aloadn gL350_0) ?_
                                refine jr_get (pc' := 223) (i := 9) (v := .int (i32 (ln2_370))) rfl rfl (by decide) (rFv_eq (by decide) (show G367 9 = ln2_370 from (e385))) rfl ?_
                                refine jr_ldv (pc' := 224) (i := 3) (m := 3001) (z := ln2_370) (y := lf2_377) rfl (by decide) rfl (by decide) (Int.le_trans (by decide : (0 : Int) ≤ 0) bln2_370.1) (Int.lt_of_le_of_lt bln2_370.2 (by decide : (3000 : Int) < ((3001 : Nat) : Int))) rfl (show A437 3 (ln2_370).toNat = lf2_377 from (congrFun ((congrFun eA437 3).trans (uA_ne (by decide))) _).trans (e392)) ?_
                                refine jx_ld (pc' := 225) (l' := L350) (st' := [.ref 66, .int (i32 (lf2_377)), .int (i32 (1)), .ref 66]) rfl (jl_aloadn gL350_0) ?_
                                refine jr_get (pc' := 228) (i := 5) (v := .ref 69) rfl rfl (by decide) rfl rfl ?_
                                refine jx_ld (pc' := 229) (l' := L350) (st' := [.ref 66, .ref 69, .int (i32 (lf2_377)), .int (i32 (1)), .ref 66]) rfl (jl_aloadn gL350_0) ?_
                                refine jr_get (pc' := 232) (i := 9) (v := .int (i32 (ln2_370))) rfl rfl (by decide) (rFv_eq (by decide) (show G367 9 = ln2_370 from (e385))) rfl ?_
                                have b456 : (0 : Int) ≤ A 2 (ln2_370).toNat ∧ A 2 (ln2_370).toNat ≤ 3000 := hW.2 2 _
                                refine jr_ldv (pc' := 233) (i := 2) (m := 3001) (z := ln2_370) (y := A 2 (ln2_370).toNat) rfl (by decide) rfl (by decide) (Int.le_trans (by decide : (0 : Int) ≤ 0) bln2_370.1) (Int.lt_of_le_of_lt bln2_370.2 (by decide : (3000 : Int) < ((3001 : Nat) : Int))) rfl (show A437 2 (ln2_370).toNat = A 2 (ln2_370).toNat from (congrFun (((congrFun eA437 2).trans (uA_ne (by decide))).trans ((hF380.2 2 rfl).trans (hFx.2 2 rfl))) _)) ?_
                                refine jx_sub (pc' := 234) rfl rfl ?_
                                refine jx_vr (pc' := 237) (as := [.int (i32 (1)), .int (i32 ((lf2_377 - A 2 (ln2_370).toNat)))]) (st := []) rfl rfl rfl rfl ⟨rfl, rfl, Nat.le_of_ble_eq_true rfl⟩ rfl rfl (c_fail (dd := d) (hd := by omega) (hW := hW438) (kind := 1) (place := (lf2_377 - A 2 (ln2_370).toNat)) (fk := fk2_372) (e_fk := show G367 16 = fk2_372 from (e387))  (h_kind := ⟨(by decide), (by decide)⟩) (h_place := ⟨(by omega), (by omega)⟩)  (p_0 := by omega) (p_1 := by omega)) (fun o V' hq => ?_)
                                obtain ⟨G457, A458, fk2_459, rfl, rfl, hW460, hF461, e462, p463, -⟩ := hq
                                have hF465 := Fr_tr hF439 hF461 (Fr_sub (by decide)) (Fr_sub (by decide))
                                have sf466 : wB A458 Vs pb (nd1) (nd2_373) (sy1) (sy2_374) := (show A458 = A437 from funext (fun k => hF461.2 k rfl)) ▸ sf441
                                have sf467 : SW (Vs) (sb) (vi1) A458 := (show A458 = A437 from funext (fun k => hF461.2 k rfl)) ▸ sf442
                                have sf468 : PQ (Vs) (sb) (pb) (fun _ => 0) A458 := (show A458 = A437 from funext (fun k => hF461.2 k rfl)) ▸ sf443
                                have sf469 : VT (Vs) A458 (sb) := (show A458 = A437 from funext (fun k => hF461.2 k rfl)) ▸ sf444
                                have sf470 : wQ A458 (pc1).toNat (nd1) (sb) := (show A458 = A437 from funext (fun k => hF461.2 k rfl)) ▸ sf445
                                have sf471 : wP A458 (sy2_374) pb (18) (Vs) (r369) (nd1) (nd2_373) (sy1) (sy2_374) := wP_ag (Sg_fr hF461 (by decide)) (Qg_fr hF461 (by decide)) (by omega) (by omega) (Ax_ag (Ag_fr hF461 (by decide))) sf446
                                have sf472 : NX A458 (r369) := NX_ag (by omega) (Ag_fr hF461 (by decide)) sf447
                                have ec473 : ecn A458 (G457 31) = ec2_378 := (ecn_f (hF461.2 15 rfl) (hF461.1 31 rfl)).trans ec448
                                have bfk2_459 : (0 : Int) ≤ fk2_459 ∧ fk2_459 ≤ 6 := e462 ▸ hW460.1 16
                                refine .inl ⟨rfl, ?_⟩
                                refine jx_rt (v := none) rfl rfl rfl rfl rfl rfl ?_
                                exact ⟨_, _, ln2_370, fk2_459, nd2_373, sy2_374, na2_375, vi2_376, pc1, lk, ec2_378, rfl, rfl, hW460, hF465, ((hF461.1 9 rfl).trans (e385)), (e462), ((hF461.1 31 rfl).trans (e388)), ((hF461.1 19 rfl).trans (e389)), ((hF461.1 28 rfl).trans (e390)), ((hF461.1 29 rfl).trans (e391)), ((hF461.1 46 rfl).trans ((hF380.1 46 rfl).trans (ex_pc1))), ((hF461.1 52 rfl).trans ((hF380.1 52 rfl).trans (fx_52))), ec473, by first | exact Or.inl (by omega)⟩
                      · have _q := h366
                        exact absurd h366 (by omega)
                    · have _q := h365
                      exact absurd h365 (by omega)
            · have _q := h349
              exact absurd h349 (by omega)
    · have _q := h326
      exact absurd h326 (by omega)
set_option maxRecDepth 20000 in
set_option maxHeartbeats 4000000 in
theorem c_readProgram_w_at_40 {X : jX} {d : Nat} {c0 c1 : jC} {G : Nat → Int} {A : Nat → Nat → Int} {T : jH} {ln li fk nd sy na vi lf pc lk ec : Int} (hd : 8 * 18 + 82 ≤ d + 1) (hW : Wk G A) (e_ln : G 9 = ln) (e_li : G 3 = li) (e_fk : G 16 = fk) (e_nd : G 31 = nd) (e_sy : G 19 = sy) (e_na : G 28 = na) (e_vi : G 29 = vi) (e_lf : A 3 (ln).toNat = lf) (e_pc : G 46 = pc) (e_lk : G 52 = lk) (e_ec : ecn A (G 31) = ec) (i_LT : LT G A) (p_0 : fk = 0) (p_1 : ln = 0) (p_2 : nd = 1) (p_3 : sy = 0) (p_4 : na = 0) (p_5 : vi = 0) (p_6 : pc = 0) (p_7 : lk = 0) (p_8 : PZ A) (p_9 : ec = 0) : ∀ (m : Nat) (L : jL) (Gx : Nat → Int) (Ax : Nat → Nat → Int) (more ln1 fk1 nd1 sy1 na1 vi1 lf1 pc1 ec1 : Int), (li - ln1).toNat = m → jGet L 0 = some (.ref 66) → jGet L 1 = some (.int (i32 more)) → Wk Gx Ax → Fr [9, 10, 11, 12, 13, 14, 15, 16, 17, 18, 19, 28, 29, 31, 46, 52] [6, 7, 8, 9, 10, 11, 12, 14, 15, 16, 17, 18, 19, 20, 21, 22, 23, 24, 28, 29, 30, 31, 34, 35, 36] G A Gx Ax → Gx 9 = ln1 → Gx 16 = fk1 → Gx 31 = nd1 → Gx 19 = sy1 → Gx 28 = na1 → Gx 29 = vi1 → Ax 3 (ln1).toNat = lf1 → Gx 46 = pc1 → ecn Ax (Gx 31) = ec1 → Gx 52 = lk → ((-2147483648 : Int) ≤ more ∧ more ≤ 2147483647) → (fk1 = 0) → (0 ≤ lf1) → (ln1 ≤ li) → (nd1 ≤ 2 * lf1 + 2 ∨ li ≤ ln1) → (sy1 ≤ na1 + 2) → (vi1 ≤ sy1) → (TP Ax (pc1) (nd1) (sy1) (vi1)) → (PZ Ax) → (more = 1) → (nd1 + 5 * ec1 ≤ 2 * lf1 + 2 ∨ li ≤ ln1) → wj X d jm312 (40, L, [], rV c0 c1 Gx Ax T) (fun o V' => ∃ (G' : Nat → Int) (A' : Nat → Nat → Int) (ln2 : Int) (fk2 : Int) (nd2 : Int) (sy2 : Int) (na2 : Int) (vi2 : Int) (pc2 : Int) (lk2 : Int) (ec2 : Int), V' = rV c0 c1 G' A' T ∧ o = .inl none ∧ Wk G' A' ∧ Fr [9, 10, 11, 12, 13, 14, 15, 16, 17, 18, 19, 28, 29, 31, 46, 52] [6, 7, 8, 9, 10, 11, 12, 14, 15, 16, 17, 18, 19, 20, 21, 22, 23, 24, 28, 29, 30, 31, 34, 35, 36] G A G' A' ∧ G' 9 = ln2 ∧ G' 16 = fk2 ∧ G' 31 = nd2 ∧ G' 19 = sy2 ∧ G' 28 = na2 ∧ G' 29 = vi2 ∧ G' 46 = pc2 ∧ G' 52 = lk2 ∧ ecn A' (G' 31) = ec2 ∧ (((1 ≤ fk2)) ∨ ((fk2 = 0) ∧ (TT A' (pc2) (nd2) (sy2) (lk2)) ∧ (nd2 + 5 * ec2 ≤ 6050)))) := by
  have hF0 : Fr [9, 10, 11, 12, 13, 14, 15, 16, 17, 18, 19, 28, 29, 31, 46, 52] [6, 7, 8, 9, 10, 11, 12, 14, 15, 16, 17, 18, 19, 20, 21, 22, 23, 24, 28, 29, 30, 31, 34, 35, 36] G A G A := Fr_rf
  have b_ln : (0 : Int) ≤ ln ∧ ln ≤ 3000 := e_ln ▸ hW.1 9
  have b_li : (0 : Int) ≤ li ∧ li ≤ 3000 := e_li ▸ hW.1 3
  have b_fk : (0 : Int) ≤ fk ∧ fk ≤ 6 := e_fk ▸ hW.1 16
  have b_nd : (0 : Int) ≤ nd ∧ nd ≤ 6999 := e_nd ▸ hW.1 31
  have b_sy : (0 : Int) ≤ sy ∧ sy ≤ 202 := e_sy ▸ hW.1 19
  have b_na : (0 : Int) ≤ na ∧ na ≤ 200 := e_na ▸ hW.1 28
  have b_vi : (0 : Int) ≤ vi ∧ vi ≤ 202 := e_vi ▸ hW.1 29
  have b_lf : (0 : Int) ≤ lf ∧ lf ≤ 3000 := e_lf ▸ hW.2 3 _
  have b_pc : (0 : Int) ≤ pc ∧ pc ≤ 24 := e_pc ▸ hW.1 46
  have b_lk : (0 : Int) ≤ lk ∧ lk ≤ 12 := e_lk ▸ hW.1 52
  intro m
  induction m using Nat.strongRecOn with
  | ind m ih40 =>
    intro L Gx Ax more ln1 fk1 nd1 sy1 na1 vi1 lf1 pc1 ec1 hm gL_0 gL_1 hWx hFx ex_ln1 ex_fk1 ex_nd1 ex_sy1 ex_na1 ex_vi1 ex_lf1 ex_pc1 ex_ec1 fx_52 rx_more iv_0 iv_1 iv_2 iv_3 iv_4 iv_5 iv_6 iv_7 iv_8 iv_9
    have b_ln1 : (0 : Int) ≤ ln1 ∧ ln1 ≤ 3000 := ex_ln1 ▸ hWx.1 9
    have b_fk1 : (0 : Int) ≤ fk1 ∧ fk1 ≤ 6 := ex_fk1 ▸ hWx.1 16
    have b_nd1 : (0 : Int) ≤ nd1 ∧ nd1 ≤ 6999 := ex_nd1 ▸ hWx.1 31
    have b_sy1 : (0 : Int) ≤ sy1 ∧ sy1 ≤ 202 := ex_sy1 ▸ hWx.1 19
    have b_na1 : (0 : Int) ≤ na1 ∧ na1 ≤ 200 := ex_na1 ▸ hWx.1 28
    have b_vi1 : (0 : Int) ≤ vi1 ∧ vi1 ≤ 202 := ex_vi1 ▸ hWx.1 29
    have b_pc1 : (0 : Int) ≤ pc1 ∧ pc1 ≤ 24 := ex_pc1 ▸ hWx.1 46
    obtain ⟨Vs, hvb, hSW0, hPW0, hVT0, hwQ0⟩ := iv_6; obtain ⟨sb, hsb⟩ : ∃ z : Int, z = sy1 := ⟨_, rfl⟩; obtain ⟨pb, hpb⟩ : ∃ z : Int, z = pc1 := ⟨_, rfl⟩; rw [← hsb] at hvb hSW0 hPW0 hVT0 hwQ0; rw [← hpb] at hPW0; have hle0 := wQ_le hwQ0
    refine jx_ld (pc' := 41) (l' := L) (st' := [.int (i32 (more))]) rfl (jl_iloadn gL_1) ?_
    refine jx_if_eq (pc' := 44) (tg := 74) rfl rfl rfl (Int.le_trans (by decide : (-2147483648 : Int) ≤ -2147483648) rx_more.1) (Int.le_trans rx_more.2 (by decide : (2147483647 : Int) ≤ 2147483647)) (fun h474 => ?_) (fun h474 => ?_)
    · have _q := h474
      have z475 := tz_f (Gx 11)
      exact c_readProgram_w_at_74 (X := X) (d := d) (c0 := c0) (c1 := c1) (G := G) (A := A) (T := T) (ln := ln) (li := li) (fk := fk) (nd := nd) (sy := sy) (na := na) (vi := vi) (lf := lf) (pc := pc) (lk := lk) (ec := ec) (hd := hd) (hW := hW) (e_ln := e_ln) (e_li := e_li) (e_fk := e_fk) (e_nd := e_nd) (e_sy := e_sy) (e_na := e_na) (e_vi := e_vi) (e_lf := e_lf) (e_pc := e_pc) (e_lk := e_lk) (e_ec := e_ec) (i_LT := i_LT) (p_0 := p_0) (p_1 := p_1) (p_2 := p_2) (p_3 := p_3) (p_4 := p_4) (p_5 := p_5) (p_6 := p_6) (p_7 := p_7) (p_8 := p_8) (p_9 := p_9) L Gx Ax (ln1) (Gx 10) (Gx 11) (fk1) (Gx 15) (nd1) (sy1) (na1) (vi1) (lf1) (A 4 (ln1).toNat) (pc1) (ec1) gL_0 hWx hFx ((ex_ln1)) (rfl) (rfl) ((ex_fk1)) (rfl) ((ex_nd1)) ((ex_sy1)) ((ex_na1)) ((ex_vi1)) ((ex_lf1)) ((congrFun (hFx.2 4 rfl) _)) ((ex_pc1)) (ex_ec1) ((fx_52)) (by omega) (by omega) (by omega) (by omega) (by omega) (by omega) (by omega) (by omega) (by omega) (by omega) (by omega) (iv_7) ((TP_mk (VB_eq hvb (by omega)) hSW0 hPW0 hVT0 hwQ0 (by omega) (by omega) (by omega) (by omega) (by omega) (by omega) (by omega) (by omega))) (by omega)
    · have _q := h474
      refine jx_ld (pc' := 45) (l' := L) (st' := [.ref 66]) rfl (jl_aloadn gL_0) ?_
      refine jx_ar (pc' := 46) (st' := [.int (i32 (0)), .ref 66]) rfl rfl rfl rfl ?_
      have b476 : (-1 : Int) ≤ A 5 (ln1).toNat ∧ A 5 (ln1).toNat ≤ 15 := hW.2 5 _
      refine jx_vr (pc' := 49) (as := [.int (i32 (0))]) (st := []) rfl rfl rfl rfl ⟨rfl, rfl, Nat.le_of_ble_eq_true rfl⟩ rfl rfl (c_needLevel (dd := d) (hd := by omega) (hW := hWx) (lv := 0) (ln := ln1) (e_ln := show Gx 9 = ln1 from (ex_ln1)) (li := li) (e_li := show Gx 3 = li from ((hFx.1 3 rfl).trans (e_li))) (fk := fk1) (e_fk := show Gx 16 = fk1 from (ex_fk1)) (ll := A 5 (ln1).toNat) (e_ll := show Ax 5 (ln1).toNat = A 5 (ln1).toNat from (congrFun (hFx.2 5 rfl) _))  (h_lv := ⟨(by decide), (by decide)⟩)  ) (fun o V' hq => ?_)
      obtain ⟨G477, A478, r479, fk2_480, rfl, rfl, hW481, hF482, b483, e484, q485⟩ := hq
      have hF486 := Fr_tr hFx hF482 (Fr_sub (by decide)) (Fr_sub (by decide))
      have sf487 : PZ A478 := (show A478 = Ax from funext (fun k => hF482.2 k rfl)) ▸ iv_7
      have sf488 : SW (Vs) (sb) (vi1) A478 := (show A478 = Ax from funext (fun k => hF482.2 k rfl)) ▸ hSW0
      have sf489 : PQ (Vs) (sb) (pb) (fun _ => 0) A478 := (show A478 = Ax from funext (fun k => hF482.2 k rfl)) ▸ hPW0
      have sf490 : VT (Vs) A478 (sb) := (show A478 = Ax from funext (fun k => hF482.2 k rfl)) ▸ hVT0
      have sf491 : wQ A478 (pc1).toNat (nd1) (sb) := (show A478 = Ax from funext (fun k => hF482.2 k rfl)) ▸ hwQ0
      have ec492 : ecn A478 (G477 31) = ec1 := (ecn_f (hF482.2 15 rfl) (hF482.1 31 rfl)).trans ex_ec1
      have bfk2_480 : (0 : Int) ≤ fk2_480 ∧ fk2_480 ≤ 6 := e484 ▸ hW481.1 16
      refine .inr ⟨_, rfl, ?_⟩
      rcases q485 with ⟨rfl, a493, a494, a495, a496⟩ | ⟨rfl, a497⟩
      · have _q : True := trivial
        have b498 : (0 : Int) ≤ A 4 (ln1).toNat ∧ A 4 (ln1).toNat ≤ 3000 := hW.2 4 _
        have lt499 : lf1 < A 4 (ln1).toNat := LT_at (LT_ext (((hF482.1 3 rfl).trans (hFx.1 3 rfl))) (((hF482.2 3 rfl).trans (hFx.2 3 rfl))) (((hF482.2 4 rfl).trans (hFx.2 4 rfl))) i_LT) (show G477 3 = li from ((hF482.1 3 rfl).trans ((hFx.1 3 rfl).trans (e_li)))) (show A478 3 (ln1).toNat = lf1 from (congrFun (hF482.2 3 rfl) _).trans (ex_lf1)) (show A478 4 (ln1).toNat = A 4 (ln1).toNat from (congrFun ((hF482.2 4 rfl).trans (hFx.2 4 rfl)) _)) (by omega) (by omega)
        refine jx_if_eq (pc' := 52) (tg := 74) rfl rfl rfl (by decide) (by decide) (fun h500 => ?_) (fun h500 => ?_)
        · have _q := h500
          exact absurd h500 (by omega)
        · have _q := h500
          refine jx_ld (pc' := 53) (l' := L) (st' := [.ref 66]) rfl (jl_aloadn gL_0) ?_
          refine jx_vr (pc' := 56) (as := []) (st := []) rfl rfl rfl rfl ⟨rfl, rfl, Nat.le_of_ble_eq_true rfl⟩ rfl rfl (c_openLine (dd := d) (hd := by omega) (hW := hW481)  (ln := ln1) (e_ln := show G477 9 = ln1 from ((hF482.1 9 rfl).trans (ex_ln1))) (le := A 4 (ln1).toNat) (e_le := show A478 4 (ln1).toNat = A 4 (ln1).toNat from (congrFun ((hF482.2 4 rfl).trans (hFx.2 4 rfl)) _)) (lf := lf1) (e_lf := show A478 3 (ln1).toNat = lf1 from (congrFun (hF482.2 3 rfl) _).trans (ex_lf1))    (p_0 := by omega)) (fun o V' hq => ?_)
          obtain ⟨G501, A502, at2_503, tk2_504, op2_505, rfl, rfl, hW506, hF507, e508, e509, e510, p511, p512, p513, p514, -⟩ := hq
          have hF516 := Fr_tr hF486 hF507 (Fr_sub (by decide)) (Fr_sub (by decide))
          have sf517 : PZ A502 := (show A502 = A478 from funext (fun k => hF507.2 k rfl)) ▸ sf487
          have sf518 : SW (Vs) (sb) (vi1) A502 := (show A502 = A478 from funext (fun k => hF507.2 k rfl)) ▸ sf488
          have sf519 : PQ (Vs) (sb) (pb) (fun _ => 0) A502 := (show A502 = A478 from funext (fun k => hF507.2 k rfl)) ▸ sf489
          have sf520 : VT (Vs) A502 (sb) := (show A502 = A478 from funext (fun k => hF507.2 k rfl)) ▸ sf490
          have sf521 : wQ A502 (pc1).toNat (nd1) (sb) := (show A502 = A478 from funext (fun k => hF507.2 k rfl)) ▸ sf491
          have ec522 : ecn A502 (G501 31) = ec1 := (ecn_f (hF507.2 15 rfl) (hF507.1 31 rfl)).trans ec492
          have bat2_503 : (0 : Int) ≤ at2_503 ∧ at2_503 ≤ 3002 := e508 ▸ hW506.1 10
          have ztk2_504 := tz_b tk2_504
          have btk2_504 : (0 : Int) ≤ tk2_504 ∧ tk2_504 ≤ 5 := e509 ▸ hW506.1 11
          have bop2_505 : (-2147483648 : Int) ≤ op2_505 ∧ op2_505 ≤ 2147483647 := e510 ▸ hW506.1 15
          refine .inl ⟨rfl, ?_⟩
          have pz523 : lf1 + tz tk2_504 ≤ at2_503 := by omega
          refine jx_ld (pc' := 57) (l' := L) (st' := [.ref 66]) rfl (jl_aloadn gL_0) ?_
          refine jx_ar (pc' := 59) (st' := [.int (i32 (12)), .ref 66]) rfl rfl rfl rfl ?_
          have b524 : (-2147483648 : Int) ≤ G501 13 ∧ G501 13 ≤ 2147483647 := hW506.1 13
          refine jx_vr (pc' := 62) (as := [.int (i32 (12))]) (st := []) rfl rfl rfl rfl ⟨rfl, rfl, Nat.le_of_ble_eq_true rfl⟩ rfl rfl (c_isKey (dd := d) (hd := by omega) (hW := hW506) (k := 12) (tk := tk2_504) (e_tk := show G501 11 = tk2_504 from (e509)) (tn := G501 13) (e_tn := show G501 13 = G501 13 from rfl)  (h_k := ⟨(by decide), (by decide)⟩)  ) (fun o V' hq => ?_)
          obtain ⟨r525, rfl, rfl, b526, q527⟩ := hq
          refine .inr ⟨_, rfl, ?_⟩
          rcases q527 with ⟨rfl, a528, a529, a530⟩ | rfl
          · have _q : True := trivial
            refine jx_ld (pc' := 63) (l' := jSto1 L 1 (.int (i32 (1)))) (st' := []) rfl rfl ?_
            obtain ⟨L531, eL531⟩ : ∃ q, q = jSto1 L 1 (.int (i32 (1))) := ⟨_, rfl⟩
            rw [← eL531]
            have gL531_0 : jGet L531 0 = some (.ref 66) := eL531 ▸ jg_ne (by decide) gL_0 rfl
            have gL531_1 : jGet L531 1 = some (.int (i32 (1))) := eL531 ▸ jg_eq
            refine jx_ld (pc' := 64) (l' := L531) (st' := [.int (i32 (1))]) rfl (jl_iloadn gL531_1) ?_
            refine jx_if_eq (pc' := 67) (tg := 40) rfl rfl rfl (by decide) (by decide) (fun h532 => ?_) (fun h532 => ?_)
            · have _q := h532
              exact absurd h532 (by omega)
            · have _q := h532
              refine jx_ld (pc' := 68) (l' := L531) (st' := [.ref 66]) rfl (jl_aloadn gL531_0) ?_
              refine jx_vr (pc' := 71) (as := []) (st := []) rfl rfl rfl rfl ⟨rfl, rfl, Nat.le_of_ble_eq_true rfl⟩ rfl rfl (c_readProc_w (dd := d) (hd := by omega) (hW := hW506)  (ln := ln1) (e_ln := show G501 9 = ln1 from ((hF507.1 9 rfl).trans ((hF482.1 9 rfl).trans (ex_ln1)))) (li := li) (e_li := show G501 3 = li from ((hF507.1 3 rfl).trans ((hF482.1 3 rfl).trans ((hFx.1 3 rfl).trans (e_li))))) (at0 := at2_503) (e_at0 := show G501 10 = at2_503 from (e508)) (fk := fk2_480) (e_fk := show G501 16 = fk2_480 from ((hF507.1 16 rfl).trans (e484))) (nd := nd1) (e_nd := show G501 31 = nd1 from ((hF507.1 31 rfl).trans ((hF482.1 31 rfl).trans (ex_nd1)))) (sy := sy1) (e_sy := show G501 19 = sy1 from ((hF507.1 19 rfl).trans ((hF482.1 19 rfl).trans (ex_sy1)))) (na := na1) (e_na := show G501 28 = na1 from ((hF507.1 28 rfl).trans ((hF482.1 28 rfl).trans (ex_na1)))) (vi := vi1) (e_vi := show G501 29 = vi1 from ((hF507.1 29 rfl).trans ((hF482.1 29 rfl).trans (ex_vi1)))) (le := A 4 (ln1).toNat) (e_le := show A502 4 (ln1).toNat = A 4 (ln1).toNat from (congrFun ((hF507.2 4 rfl).trans ((hF482.2 4 rfl).trans (hFx.2 4 rfl))) _)) (op0 := op2_505) (e_op0 := show G501 15 = op2_505 from (e510)) (tk0 := tk2_504) (e_tk0 := show G501 11 = tk2_504 from (e509)) (pc0 := pc1) (e_pc0 := show G501 46 = pc1 from ((hF507.1 46 rfl).trans ((hF482.1 46 rfl).trans (ex_pc1)))) (ec := ec1) (e_ec := show ecn A502 (G501 31) = ec1 from ec522) (i_LT := (LT_ext (((hF507.1 3 rfl).trans ((hF482.1 3 rfl).trans (hFx.1 3 rfl)))) (((hF507.2 3 rfl).trans ((hF482.2 3 rfl).trans (hFx.2 3 rfl)))) (((hF507.2 4 rfl).trans ((hF482.2 4 rfl).trans (hFx.2 4 rfl)))) i_LT)) (i_SV := (SW_sv sf518 ((show G501 29 = vi1 from ((hF507.1 29 rfl).trans ((hF482.1 29 rfl).trans (ex_vi1)))).trans (by omega)))) (i_PQ := sf519) (hvb := hvb)   (p_0 := by omega) (p_1 := by omega) (p_2 := by omega) (p_3 := by omega) (p_4 := by omega) (p_5 := by omega) (p_6 := by omega) (p_7 := by omega) (p_8 := (wQ_eq sf521 (by omega) (by omega) (by omega))) (p_9 := (VT_eq sf520 (by omega)))) (fun o V' hq => ?_)
              obtain ⟨G533, A534, ln2_535, at2_536, fk2_537, nd2_538, sy2_539, na2_540, vi2_541, lf2_542, pc2_543, ec2_544, rfl, rfl, hW545, hF546, hQ547, hQ548, hQ549, hQ550, e551, e552, e553, e554, e555, e556, e557, e558, e559, e560, p561, p562, p563, p564, q565⟩ := hq
              have hF566 := Fr_tr hF516 hF546 (Fr_sub (by decide)) (Fr_sub (by decide))
              have sf567 : PZ A534 := PZ_ext (hF546.2 36 rfl) sf517
              have sf568 : SW (Vs) (sb) (vi1) A534 := SW_fx hQ549 (by omega) sf518
              have sf569 : PQ (Vs) (sb) (pb) (fun _ => 0) A534 := PQ_fxq sf519 hQ548 (by omega) hQ550 (by omega)
              have sf570 : VT (Vs) A534 (sb) := VT_fx hQ548 (by omega) sf520
              have sf571 : wQ A534 (pc1).toNat (nd1) (sb) := wQ_fx (fun k j hk hj => hQ547 k j hk (by omega)) (Fx_su hQ548 (by omega)) (Fx_su hQ550 (by omega)) sf521
              have bln2_535 : (0 : Int) ≤ ln2_535 ∧ ln2_535 ≤ 3000 := e551 ▸ hW545.1 9
              have bat2_536 : (0 : Int) ≤ at2_536 ∧ at2_536 ≤ 3002 := e552 ▸ hW545.1 10
              have bfk2_537 : (0 : Int) ≤ fk2_537 ∧ fk2_537 ≤ 6 := e553 ▸ hW545.1 16
              have bnd2_538 : (0 : Int) ≤ nd2_538 ∧ nd2_538 ≤ 6999 := e554 ▸ hW545.1 31
              have bsy2_539 : (0 : Int) ≤ sy2_539 ∧ sy2_539 ≤ 202 := e555 ▸ hW545.1 19
              have bna2_540 : (0 : Int) ≤ na2_540 ∧ na2_540 ≤ 200 := e556 ▸ hW545.1 28
              have bvi2_541 : (0 : Int) ≤ vi2_541 ∧ vi2_541 ≤ 202 := e557 ▸ hW545.1 29
              have blf2_542 : (0 : Int) ≤ lf2_542 ∧ lf2_542 ≤ 3000 := e558 ▸ hW545.2 3 _
              have bpc2_543 : (0 : Int) ≤ pc2_543 ∧ pc2_543 ≤ 24 := e559 ▸ hW545.1 46
              refine .inl ⟨rfl, ?_⟩
              rcases q565 with a572 | ⟨a573, a574, a575, a576, a577, a578, a579, a580, a581, a582, a583, a584, a585⟩
              · have _q : True := trivial
                refine jx_go (tg := 40) rfl rfl ?_
                refine jx_ld (pc' := 41) (l' := L531) (st' := [.int (i32 (1))]) rfl (jl_iloadn gL531_1) ?_
                refine jx_if_eq (pc' := 44) (tg := 74) rfl rfl rfl (by decide) (by decide) (fun h586 => ?_) (fun h586 => ?_)
                · have _q := h586
                  exact absurd h586 (by omega)
                · have _q := h586
                  refine jx_ld (pc' := 45) (l' := L531) (st' := [.ref 66]) rfl (jl_aloadn gL531_0) ?_
                  refine jx_ar (pc' := 46) (st' := [.int (i32 (0)), .ref 66]) rfl rfl rfl rfl ?_
                  have b587 : (-1 : Int) ≤ A 5 (ln2_535).toNat ∧ A 5 (ln2_535).toNat ≤ 15 := hW.2 5 _
                  refine jx_vr (pc' := 49) (as := [.int (i32 (0))]) (st := []) rfl rfl rfl rfl ⟨rfl, rfl, Nat.le_of_ble_eq_true rfl⟩ rfl rfl (c_needLevel (dd := d) (hd := by omega) (hW := hW545) (lv := 0) (ln := ln2_535) (e_ln := show G533 9 = ln2_535 from (e551)) (li := li) (e_li := show G533 3 = li from ((hF546.1 3 rfl).trans ((hF507.1 3 rfl).trans ((hF482.1 3 rfl).trans ((hFx.1 3 rfl).trans (e_li)))))) (fk := fk2_537) (e_fk := show G533 16 = fk2_537 from (e553)) (ll := A 5 (ln2_535).toNat) (e_ll := show A534 5 (ln2_535).toNat = A 5 (ln2_535).toNat from (congrFun ((hF546.2 5 rfl).trans ((hF507.2 5 rfl).trans ((hF482.2 5 rfl).trans (hFx.2 5 rfl)))) _))  (h_lv := ⟨(by decide), (by decide)⟩)  ) (fun o V' hq => ?_)
                  obtain ⟨G588, A589, r590, fk2_591, rfl, rfl, hW592, hF593, b594, e595, q596⟩ := hq
                  have hF597 := Fr_tr hF566 hF593 (Fr_sub (by decide)) (Fr_sub (by decide))
                  have sf598 : PZ A589 := (show A589 = A534 from funext (fun k => hF593.2 k rfl)) ▸ sf567
                  have sf599 : SW (Vs) (sb) (vi1) A589 := (show A589 = A534 from funext (fun k => hF593.2 k rfl)) ▸ sf568
                  have sf600 : PQ (Vs) (sb) (pb) (fun _ => 0) A589 := (show A589 = A534 from funext (fun k => hF593.2 k rfl)) ▸ sf569
                  have sf601 : VT (Vs) A589 (sb) := (show A589 = A534 from funext (fun k => hF593.2 k rfl)) ▸ sf570
                  have sf602 : wQ A589 (pc1).toNat (nd1) (sb) := (show A589 = A534 from funext (fun k => hF593.2 k rfl)) ▸ sf571
                  have ec603 : ecn A589 (G588 31) = ec2_544 := (ecn_f (hF593.2 15 rfl) (hF593.1 31 rfl)).trans e560
                  have bfk2_591 : (0 : Int) ≤ fk2_591 ∧ fk2_591 ≤ 6 := e595 ▸ hW592.1 16
                  refine .inr ⟨_, rfl, ?_⟩
                  rcases q596 with ⟨rfl, a604, a605, a606, a607⟩ | ⟨rfl, a608⟩
                  · have _q : True := trivial
                    exfalso
                    omega
                  · have _q : True := trivial
                    refine jx_if_eq (pc' := 52) (tg := 74) rfl rfl rfl (by decide) (by decide) (fun h609 => ?_) (fun h609 => ?_)
                    · have _q := h609
                      refine jx_ld (pc' := 75) (l' := L531) (st' := [.ref 66]) rfl (jl_aloadn gL531_0) ?_
                      refine jx_vr (pc' := 78) (as := []) (st := []) rfl rfl rfl rfl ⟨rfl, rfl, Nat.le_of_ble_eq_true rfl⟩ rfl rfl (c_bad (dd := d) (hd := by omega) (hW := hW592)  (fk := fk2_591) (e_fk := show G588 16 = fk2_591 from (e595))    ) (fun o V' hq => ?_)
                      obtain ⟨r610, rfl, rfl, b611, q612⟩ := hq
                      refine .inr ⟨_, rfl, ?_⟩
                      rcases q612 with ⟨rfl, a613⟩ | ⟨rfl, a614⟩
                      · have _q : True := trivial
                        refine jx_if_eq (pc' := 81) (tg := 82) rfl rfl rfl (by decide) (by decide) (fun h615 => ?_) (fun h615 => ?_)
                        · have _q := h615
                          exact absurd h615 (by omega)
                        · have _q := h615
                          refine jx_rt (v := none) rfl rfl rfl rfl rfl rfl ?_
                          exact ⟨_, _, ln2_535, fk2_591, nd2_538, sy2_539, na2_540, vi2_541, pc2_543, lk, ec2_544, rfl, rfl, hW592, hF597, ((hF593.1 9 rfl).trans (e551)), (e595), ((hF593.1 31 rfl).trans (e554)), ((hF593.1 19 rfl).trans (e555)), ((hF593.1 28 rfl).trans (e556)), ((hF593.1 29 rfl).trans (e557)), ((hF593.1 46 rfl).trans (e559)), ((hF593.1 52 rfl).trans ((hF546.1 52 rfl).trans ((hF507.1 52 rfl).trans ((hF482.1 52 rfl).trans (fx_52))))), ec603, by first | exact Or.inl (by omega)⟩
                      · have _q : True := trivial
                        exfalso
                        omega
                    · have _q := h609
                      exact absurd h609 (by omega)
              · have _q : True := trivial
                refine jx_go (tg := 40) rfl rfl ?_
                exact ih40 _ (by omega) L531 G533 A534 (1) (ln2_535) (fk2_537) (nd2_538) (sy2_539) (na2_540) (vi2_541) (lf2_542) (pc2_543) (ec2_544) rfl gL531_0 gL531_1 hW545 hF566 ((e551)) ((e553)) ((e554)) ((e555)) ((e556)) ((e557)) ((e558)) ((e559)) (e560) (((hF546.1 52 rfl).trans ((hF507.1 52 rfl).trans ((hF482.1 52 rfl).trans (fx_52))))) (by omega) (by omega) (by omega) (by omega) (by omega) (by omega) (by omega) ((TP_mk (VB_u hvb (by omega) (by omega)) a582 a583 a584 a581 (by omega) (by omega) (by omega) (by omega) (by omega) (by omega) (by omega) (by omega))) (sf567) (by omega) (by omega)
          · have _q : True := trivial
            refine jx_ld (pc' := 63) (l' := jSto1 L 1 (.int (i32 (0)))) (st' := []) rfl rfl ?_
            obtain ⟨L616, eL616⟩ : ∃ q, q = jSto1 L 1 (.int (i32 (0))) := ⟨_, rfl⟩
            rw [← eL616]
            have gL616_0 : jGet L616 0 = some (.ref 66) := eL616 ▸ jg_ne (by decide) gL_0 rfl
            have gL616_1 : jGet L616 1 = some (.int (i32 (0))) := eL616 ▸ jg_eq
            refine jx_ld (pc' := 64) (l' := L616) (st' := [.int (i32 (0))]) rfl (jl_iloadn gL616_1) ?_
            refine jx_if_eq (pc' := 67) (tg := 40) rfl rfl rfl (by decide) (by decide) (fun h617 => ?_) (fun h617 => ?_)
            · have _q := h617
              refine jx_ld (pc' := 41) (l' := L616) (st' := [.int (i32 (0))]) rfl (jl_iloadn gL616_1) ?_
              refine jx_if_eq (pc' := 44) (tg := 74) rfl rfl rfl (by decide) (by decide) (fun h618 => ?_) (fun h618 => ?_)
              · have _q := h618
                have z619 := tz_f (tk2_504)
                exact c_readProgram_w_at_74 (X := X) (d := d) (c0 := c0) (c1 := c1) (G := G) (A := A) (T := T) (ln := ln) (li := li) (fk := fk) (nd := nd) (sy := sy) (na := na) (vi := vi) (lf := lf) (pc := pc) (lk := lk) (ec := ec) (hd := hd) (hW := hW) (e_ln := e_ln) (e_li := e_li) (e_fk := e_fk) (e_nd := e_nd) (e_sy := e_sy) (e_na := e_na) (e_vi := e_vi) (e_lf := e_lf) (e_pc := e_pc) (e_lk := e_lk) (e_ec := e_ec) (i_LT := i_LT) (p_0 := p_0) (p_1 := p_1) (p_2 := p_2) (p_3 := p_3) (p_4 := p_4) (p_5 := p_5) (p_6 := p_6) (p_7 := p_7) (p_8 := p_8) (p_9 := p_9) L616 G501 A502 (ln1) (at2_503) (tk2_504) (fk2_480) (op2_505) (nd1) (sy1) (na1) (vi1) (lf1) (A 4 (ln1).toNat) (pc1) (ec1) gL616_0 hW506 hF516 (((hF507.1 9 rfl).trans ((hF482.1 9 rfl).trans (ex_ln1)))) ((e508)) ((e509)) (((hF507.1 16 rfl).trans (e484))) ((e510)) (((hF507.1 31 rfl).trans ((hF482.1 31 rfl).trans (ex_nd1)))) (((hF507.1 19 rfl).trans ((hF482.1 19 rfl).trans (ex_sy1)))) (((hF507.1 28 rfl).trans ((hF482.1 28 rfl).trans (ex_na1)))) (((hF507.1 29 rfl).trans ((hF482.1 29 rfl).trans (ex_vi1)))) ((congrFun ((hF507.2 3 rfl).trans (hF482.2 3 rfl)) _).trans (ex_lf1)) ((congrFun ((hF507.2 4 rfl).trans ((hF482.2 4 rfl).trans (hFx.2 4 rfl))) _)) (((hF507.1 46 rfl).trans ((hF482.1 46 rfl).trans (ex_pc1)))) (ec522) (((hF507.1 52 rfl).trans ((hF482.1 52 rfl).trans (fx_52)))) (by omega) (by omega) (by omega) (by omega) (by omega) (by omega) (by omega) (by omega) (by omega) (by omega) (by omega) (sf517) ((TP_mk (VB_eq hvb (by omega)) sf518 sf519 sf520 sf521 (by omega) (by omega) (by omega) (by omega) (by omega) (by omega) (by omega) (by omega))) (by omega)
              · have _q := h618
                exact absurd h618 (by omega)
            · have _q := h617
              exact absurd h617 (by omega)
      · have _q : True := trivial
        refine jx_if_eq (pc' := 52) (tg := 74) rfl rfl rfl (by decide) (by decide) (fun h620 => ?_) (fun h620 => ?_)
        · have _q := h620
          refine jx_ld (pc' := 75) (l' := L) (st' := [.ref 66]) rfl (jl_aloadn gL_0) ?_
          refine jx_vr (pc' := 78) (as := []) (st := []) rfl rfl rfl rfl ⟨rfl, rfl, Nat.le_of_ble_eq_true rfl⟩ rfl rfl (c_bad (dd := d) (hd := by omega) (hW := hW481)  (fk := fk2_480) (e_fk := show G477 16 = fk2_480 from (e484))    ) (fun o V' hq => ?_)
          obtain ⟨r621, rfl, rfl, b622, q623⟩ := hq
          refine .inr ⟨_, rfl, ?_⟩
          rcases q623 with ⟨rfl, a624⟩ | ⟨rfl, a625⟩
          · have _q : True := trivial
            refine jx_if_eq (pc' := 81) (tg := 82) rfl rfl rfl (by decide) (by decide) (fun h626 => ?_) (fun h626 => ?_)
            · have _q := h626
              exact absurd h626 (by omega)
            · have _q := h626
              refine jx_rt (v := none) rfl rfl rfl rfl rfl rfl ?_
              exact ⟨_, _, ln1, fk2_480, nd1, sy1, na1, vi1, pc1, lk, ec1, rfl, rfl, hW481, hF486, ((hF482.1 9 rfl).trans (ex_ln1)), (e484), ((hF482.1 31 rfl).trans (ex_nd1)), ((hF482.1 19 rfl).trans (ex_sy1)), ((hF482.1 28 rfl).trans (ex_na1)), ((hF482.1 29 rfl).trans (ex_vi1)), ((hF482.1 46 rfl).trans (ex_pc1)), ((hF482.1 52 rfl).trans (fx_52)), ec492, by first | exact Or.inl (by omega)⟩
          · have _q : True := trivial
            exfalso
            omega
        · have _q := h620
          exact absurd h620 (by omega)
set_option maxRecDepth 20000 in
set_option maxHeartbeats 4000000 in
theorem c_readProgram_w {X : jX} {dd : Nat} {c0 c1 : jC} {G : Nat → Int} {A : Nat → Nat → Int} {T : jH} {ln li fk nd sy na vi lf pc lk ec : Int} (hd : 8 * 18 + 82 ≤ dd) (hW : Wk G A) (e_ln : G 9 = ln) (e_li : G 3 = li) (e_fk : G 16 = fk) (e_nd : G 31 = nd) (e_sy : G 19 = sy) (e_na : G 28 = na) (e_vi : G 29 = vi) (e_lf : A 3 (ln).toNat = lf) (e_pc : G 46 = pc) (e_lk : G 52 = lk) (e_ec : ecn A (G 31) = ec) (i_LT : LT G A) (p_0 : fk = 0) (p_1 : ln = 0) (p_2 : nd = 1) (p_3 : sy = 0) (p_4 : na = 0) (p_5 : vi = 0) (p_6 : pc = 0) (p_7 : lk = 0) (p_8 : PZ A) (p_9 : ec = 0) : wk X dd 312 [.ref 66] (rV c0 c1 G A T) (fun o V' => ∃ (G' : Nat → Int) (A' : Nat → Nat → Int) (ln2 : Int) (fk2 : Int) (nd2 : Int) (sy2 : Int) (na2 : Int) (vi2 : Int) (pc2 : Int) (lk2 : Int) (ec2 : Int), V' = rV c0 c1 G' A' T ∧ o = .inl none ∧ Wk G' A' ∧ Fr [9, 10, 11, 12, 13, 14, 15, 16, 17, 18, 19, 28, 29, 31, 46, 52] [6, 7, 8, 9, 10, 11, 12, 14, 15, 16, 17, 18, 19, 20, 21, 22, 23, 24, 28, 29, 30, 31, 34, 35, 36] G A G' A' ∧ G' 9 = ln2 ∧ G' 16 = fk2 ∧ G' 31 = nd2 ∧ G' 19 = sy2 ∧ G' 28 = na2 ∧ G' 29 = vi2 ∧ G' 46 = pc2 ∧ G' 52 = lk2 ∧ ecn A' (G' 31) = ec2 ∧ (((1 ≤ fk2)) ∨ ((fk2 = 0) ∧ (TT A' (pc2) (nd2) (sy2) (lk2)) ∧ (nd2 + 5 * ec2 ≤ 6050)))) := by
  obtain ⟨d, rfl⟩ : ∃ d, dd = d + 1 := ⟨dd - 1, by omega⟩
  refine wk_of (e := jm312) rfl (Nat.le_of_ble_eq_true rfl) ?_
  show wj X d jm312 (0, [(0, .ref 66)], [], rV c0 c1 G A T) _
  have hF0 : Fr [9, 10, 11, 12, 13, 14, 15, 16, 17, 18, 19, 28, 29, 31, 46, 52] [6, 7, 8, 9, 10, 11, 12, 14, 15, 16, 17, 18, 19, 20, 21, 22, 23, 24, 28, 29, 30, 31, 34, 35, 36] G A G A := Fr_rf
  have b_ln : (0 : Int) ≤ ln ∧ ln ≤ 3000 := e_ln ▸ hW.1 9
  have b_li : (0 : Int) ≤ li ∧ li ≤ 3000 := e_li ▸ hW.1 3
  have b_fk : (0 : Int) ≤ fk ∧ fk ≤ 6 := e_fk ▸ hW.1 16
  have b_nd : (0 : Int) ≤ nd ∧ nd ≤ 6999 := e_nd ▸ hW.1 31
  have b_sy : (0 : Int) ≤ sy ∧ sy ≤ 202 := e_sy ▸ hW.1 19
  have b_na : (0 : Int) ≤ na ∧ na ≤ 200 := e_na ▸ hW.1 28
  have b_vi : (0 : Int) ≤ vi ∧ vi ≤ 202 := e_vi ▸ hW.1 29
  have b_lf : (0 : Int) ≤ lf ∧ lf ≤ 3000 := e_lf ▸ hW.2 3 _
  have b_pc : (0 : Int) ≤ pc ∧ pc ≤ 24 := e_pc ▸ hW.1 46
  have b_lk : (0 : Int) ≤ lk ∧ lk ≤ 12 := e_lk ▸ hW.1 52
  refine jx_ld (pc' := 1) (l' := [(0, .ref 66)]) (st' := [.ref 66]) rfl (jl_aloadn rfl) ?_
  refine jx_hp (pc' := 4) (st' := [.ref 27, .ref 66]) rfl rfl rfl rfl rfl rfl ?_
  refine jx_st (pc' := 7) (as := [.ref 27]) (st := [.ref 66]) rfl rfl ⟨rfl, Nat.le_of_ble_eq_true rfl⟩ rfl rfl rfl (c_nameOf (dd := d) (hd := by omega) (s := 27)    (q_s := rfl) (l_s := by decide) (n_s := by decide) ) (fun o V' hq => ?_)
  obtain ⟨r627, rfl, rfl, -⟩ := hq
  refine .inr ⟨_, rfl, ?_⟩
  refine jx_ar (pc' := 9) (st' := [.int (i32 (12)), .long (r627), .ref 66]) rfl rfl rfl rfl ?_
  refine jx_ar (pc' := 10) (st' := [.int (i32 (0)), .int (i32 (12)), .long (r627), .ref 66]) rfl rfl rfl rfl ?_
  refine jx_vr (pc' := 13) (as := [.long (r627), .int (i32 (12)), .int (i32 (0))]) (st := []) rfl rfl rfl rfl ⟨rfl, rfl, Nat.le_of_ble_eq_true rfl⟩ rfl rfl (c_symbol (dd := d) (hd := by omega) (hW := hW) (nm := r627) (kind := 12) (many := 0) (sy := sy) (e_sy := show G 19 = sy from (e_sy))  (h_kind := ⟨(by decide), (by decide)⟩) (h_many := ⟨(by decide), (by decide)⟩)  (p_0 := by omega) (p_1 := by omega)) (fun o V' hq => ?_)
  obtain ⟨G629, A630, r631, sy2_632, yk2_633, rfl, rfl, hW634, hF635, hQ636, b637, e638, e639, p640, p641, p642, p643, -⟩ := hq
  have hF645 := Fr_tr hF0 hF635 (Fr_sub (by decide)) (Fr_sub (by decide))
  have sf646 : PZ A630 := PZ_ext (hF635.2 36 rfl) p_8
  have ec647 : ecn A630 (G629 31) = ec := (ecn_f (hF635.2 15 rfl) (hF635.1 31 rfl)).trans e_ec
  have bsy2_632 : (0 : Int) ≤ sy2_632 ∧ sy2_632 ≤ 202 := e638 ▸ hW634.1 19
  have byk2_633 : (0 : Int) ≤ yk2_633 ∧ yk2_633 ≤ 14 := e639 ▸ hW634.2 7 _
  refine .inr ⟨_, rfl, ?_⟩
  refine jx_ar (pc' := 14) (st' := []) rfl rfl rfl rfl ?_
  refine jx_ld (pc' := 15) (l' := [(0, .ref 66)]) (st' := [.ref 66]) rfl (jl_aloadn rfl) ?_
  refine jx_hp (pc' := 18) (st' := [.ref 28, .ref 66]) rfl rfl rfl rfl rfl rfl ?_
  refine jx_st (pc' := 21) (as := [.ref 28]) (st := [.ref 66]) rfl rfl ⟨rfl, Nat.le_of_ble_eq_true rfl⟩ rfl rfl rfl (c_nameOf (dd := d) (hd := by omega) (s := 28)    (q_s := rfl) (l_s := by decide) (n_s := by decide) ) (fun o V' hq => ?_)
  obtain ⟨r648, rfl, rfl, -⟩ := hq
  refine .inr ⟨_, rfl, ?_⟩
  refine jx_ar (pc' := 23) (st' := [.int (i32 (13)), .long (r648), .ref 66]) rfl rfl rfl rfl ?_
  refine jx_ar (pc' := 24) (st' := [.int (i32 (0)), .int (i32 (13)), .long (r648), .ref 66]) rfl rfl rfl rfl ?_
  refine jx_vr (pc' := 27) (as := [.long (r648), .int (i32 (13)), .int (i32 (0))]) (st := []) rfl rfl rfl rfl ⟨rfl, rfl, Nat.le_of_ble_eq_true rfl⟩ rfl rfl (c_symbol (dd := d) (hd := by omega) (hW := hW634) (nm := r648) (kind := 13) (many := 0) (sy := sy2_632) (e_sy := show G629 19 = sy2_632 from (e638))  (h_kind := ⟨(by decide), (by decide)⟩) (h_many := ⟨(by decide), (by decide)⟩)  (p_0 := by omega) (p_1 := by omega)) (fun o V' hq => ?_)
  obtain ⟨G650, A651, r652, sy2_653, yk2_654, rfl, rfl, hW655, hF656, hQ657, b658, e659, e660, p661, p662, p663, p664, -⟩ := hq
  have hF666 := Fr_tr hF645 hF656 (Fr_sub (by decide)) (Fr_sub (by decide))
  have sf667 : PZ A651 := PZ_ext (hF656.2 36 rfl) sf646
  have sf668 : YD A651 (sy) (12) (0) := YD_fx (by omega) (by omega) hQ657 p643
  have ec669 : ecn A651 (G650 31) = ec := (ecn_f (hF656.2 15 rfl) (hF656.1 31 rfl)).trans ec647
  have bsy2_653 : (0 : Int) ≤ sy2_653 ∧ sy2_653 ≤ 202 := e659 ▸ hW655.1 19
  have byk2_654 : (0 : Int) ≤ yk2_654 ∧ yk2_654 ≤ 14 := e660 ▸ hW655.2 7 _
  refine .inr ⟨_, rfl, ?_⟩
  refine jx_ar (pc' := 28) (st' := []) rfl rfl rfl rfl ?_
  refine jx_ld (pc' := 29) (l' := [(0, .ref 66)]) (st' := [.ref 66]) rfl (jl_aloadn rfl) ?_
  refine jx_ar (pc' := 30) (st' := [.int (i32 (0)), .ref 66]) rfl rfl rfl rfl ?_
  refine jx_vr (pc' := 33) (as := [.int (i32 (0))]) (st := []) rfl rfl rfl rfl ⟨rfl, rfl, Nat.le_of_ble_eq_true rfl⟩ rfl rfl (c_show (dd := d) (hd := by omega) (hW := hW655) (s := 0) (vi := vi) (e_vi := show G650 29 = vi from ((hF656.1 29 rfl).trans ((hF635.1 29 rfl).trans (e_vi))))  (h_s := ⟨(by decide), (by decide)⟩)  (p_0 := by omega) (p_1 := by omega)) (fun o V' hq => ?_)
  obtain ⟨G670, A671, vi2_672, sv2_673, rfl, rfl, hW674, hF675, hQ676, e677, e678, p679, p680, -⟩ := hq
  have hF682 := Fr_tr hF666 hF675 (Fr_sub (by decide)) (Fr_sub (by decide))
  have sf683 : PZ A671 := PZ_ext (hF675.2 36 rfl) sf667
  have sf684 : YD A671 (sy) (12) (0) := YD_fx (by omega) (by omega) (Sg_fr (sb := sy + 1) hF675 (by decide)) sf668
  have sf685 : YD A671 (sy2_632) (13) (0) := YD_fx (by omega) (by omega) (Sg_fr (sb := sy2_632 + 1) hF675 (by decide)) p664
  have ec686 : ecn A671 (G670 31) = ec := (ecn_f (hF675.2 15 rfl) (hF675.1 31 rfl)).trans ec669
  have bvi2_672 : (0 : Int) ≤ vi2_672 ∧ vi2_672 ≤ 202 := e677 ▸ hW674.1 29
  have bsv2_673 : (0 : Int) ≤ sv2_673 ∧ sv2_673 ≤ 201 := e678 ▸ hW674.2 14 _
  refine .inl ⟨rfl, ?_⟩
  refine jx_ld (pc' := 34) (l' := [(0, .ref 66)]) (st' := [.ref 66]) rfl (jl_aloadn rfl) ?_
  have _q : True := trivial
  refine jx_ar (pc' := 35) (st' := [.int (i32 (1)), .ref 66]) rfl rfl rfl rfl ?_
  refine jx_vr (pc' := 38) (as := [.int (i32 (1))]) (st := []) rfl rfl rfl rfl ⟨rfl, rfl, Nat.le_of_ble_eq_true rfl⟩ rfl rfl (c_show (dd := d) (hd := by omega) (hW := hW674) (s := 1) (vi := vi2_672) (e_vi := show G670 29 = vi2_672 from (e677))  (h_s := ⟨(by decide), (by decide)⟩)  (p_0 := by omega) (p_1 := by omega)) (fun o V' hq => ?_)
  obtain ⟨G687, A688, vi2_689, sv2_690, rfl, rfl, hW691, hF692, hQ693, e694, e695, p696, p697, -⟩ := hq
  have hF699 := Fr_tr hF682 hF692 (Fr_sub (by decide)) (Fr_sub (by decide))
  have k700 : A688 14 (vi).toNat = sv2_673 := (hQ693 14 _ rfl (by omega)).trans (show A671 14 (vi).toNat = sv2_673 from (e678))
  have sf701 : PZ A688 := PZ_ext (hF692.2 36 rfl) sf683
  have sf702 : YD A688 (sy) (12) (0) := YD_fx (by omega) (by omega) (Sg_fr (sb := sy + 1) hF692 (by decide)) sf684
  have sf703 : YD A688 (sy2_632) (13) (0) := YD_fx (by omega) (by omega) (Sg_fr (sb := sy2_632 + 1) hF692 (by decide)) sf685
  have ec704 : ecn A688 (G687 31) = ec := (ecn_f (hF692.2 15 rfl) (hF692.1 31 rfl)).trans ec686
  have bvi2_689 : (0 : Int) ≤ vi2_689 ∧ vi2_689 ≤ 202 := e694 ▸ hW691.1 29
  have bsv2_690 : (0 : Int) ≤ sv2_690 ∧ sv2_690 ≤ 201 := e695 ▸ hW691.2 14 _
  refine .inl ⟨rfl, ?_⟩
  refine jx_ar (pc' := 39) (st' := [.int (i32 (1))]) rfl rfl rfl rfl ?_
  refine jx_ld (pc' := 40) (l' := jSto1 [(0, .ref 66)] 1 (.int (i32 (1)))) (st' := []) rfl rfl ?_
  obtain ⟨L705, eL705⟩ : ∃ q, q = jSto1 [(0, .ref 66)] 1 (.int (i32 (1))) := ⟨_, rfl⟩
  rw [← eL705]
  have gL705_0 : jGet L705 0 = some (.ref 66) := eL705 ▸ jg_ne (by decide) (rfl : jGet [(0, .ref 66)] 0 = some (.ref 66)) rfl
  have gL705_1 : jGet L705 1 = some (.int (i32 (1))) := eL705 ▸ jg_eq
  exact c_readProgram_w_at_40 (X := X) (d := d) (c0 := c0) (c1 := c1) (G := G) (A := A) (T := T) (ln := ln) (li := li) (fk := fk) (nd := nd) (sy := sy) (na := na) (vi := vi) (lf := lf) (pc := pc) (lk := lk) (ec := ec) (hd := hd) (hW := hW) (e_ln := e_ln) (e_li := e_li) (e_fk := e_fk) (e_nd := e_nd) (e_sy := e_sy) (e_na := e_na) (e_vi := e_vi) (e_lf := e_lf) (e_pc := e_pc) (e_lk := e_lk) (e_ec := e_ec) (i_LT := i_LT) (p_0 := p_0) (p_1 := p_1) (p_2 := p_2) (p_3 := p_3) (p_4 := p_4) (p_5 := p_5) (p_6 := p_6) (p_7 := p_7) (p_8 := p_8) (p_9 := p_9) _ L705 G687 A688 (1) (ln) (fk) (nd) (sy2_653) (na) (vi2_689) (lf) (pc) (ec) rfl gL705_0 gL705_1 hW691 hF699 (((hF692.1 9 rfl).trans ((hF675.1 9 rfl).trans ((hF656.1 9 rfl).trans ((hF635.1 9 rfl).trans (e_ln)))))) (((hF692.1 16 rfl).trans ((hF675.1 16 rfl).trans ((hF656.1 16 rfl).trans ((hF635.1 16 rfl).trans (e_fk)))))) (((hF692.1 31 rfl).trans ((hF675.1 31 rfl).trans ((hF656.1 31 rfl).trans ((hF635.1 31 rfl).trans (e_nd)))))) (((hF692.1 19 rfl).trans ((hF675.1 19 rfl).trans (e659)))) (((hF692.1 28 rfl).trans ((hF675.1 28 rfl).trans ((hF656.1 28 rfl).trans ((hF635.1 28 rfl).trans (e_na)))))) ((e694)) ((congrFun ((hF692.2 3 rfl).trans ((hF675.2 3 rfl).trans ((hF656.2 3 rfl).trans (hF635.2 3 rfl)))) _).trans (e_lf)) (((hF692.1 46 rfl).trans ((hF675.1 46 rfl).trans ((hF656.1 46 rfl).trans ((hF635.1 46 rfl).trans (e_pc)))))) (ec704) (((hF692.1 52 rfl).trans ((hF675.1 52 rfl).trans ((hF656.1 52 rfl).trans ((hF635.1 52 rfl).trans (e_lk)))))) (by omega) (by omega) (by omega) (by omega) (by omega) (by omega) (by omega) ((TP_init sf702 (by omega) sf703 (by omega) (show A688 14 (vi).toNat = sv2_673 from (k700)) (by omega) (by omega) (show A688 14 (vi2_672).toNat = sv2_690 from (e695)) (by omega) (by omega) (by omega) (by omega) (by omega) (by omega))) (sf701) (by omega) (by omega)
