set_option maxRecDepth 20000 in
set_option maxHeartbeats 4000000 in
theorem c_readPlaced_w_at_19 {X : jX} {d : Nat} {Vs : Nat → Prop} {sb pb : Int} (hvb : VB Vs sb) {c0 c1 : jC} {G : Nat → Int} {A : Nat → Nat → Int} {T : jH} {ln li at0 fk nd sy na vi le op0 tk0 ec : Int} (hd : 8 * 18 + 81 ≤ d + 1) (hW : Wk G A) (e_ln : G 9 = ln) (e_li : G 3 = li) (e_at0 : G 10 = at0) (e_fk : G 16 = fk) (e_nd : G 31 = nd) (e_sy : G 19 = sy) (e_na : G 28 = na) (e_vi : G 29 = vi) (e_le : A 4 (ln).toNat = le) (e_op0 : G 15 = op0) (e_tk0 : G 11 = tk0) (e_ec : ecn A (G 31) = ec) (i_LT : LT G A) (i_SV : SV Vs sb G A) (i_PQ : PQ Vs sb pb G A) (p_0 : fk = 0) (p_1 : 1 ≤ nd) (p_2 : ln < li) (p_3 : at0 ≤ le) (p_4 : nd ≤ 2 * at0 - tz tk0 + 30) (p_5 : sy ≤ na + 2) (p_6 : vi ≤ sy) (p_7 : sb ≤ sy) (p_8 : PZ A) (p_9 : nd + 5 * ec ≤ 2 * at0 - tz tk0 + 30) : ∀ (m : Nat) (L : jL) (Gx : Nat → Int) (Ax : Nat → Nat → Int) (many ln1 at1 fk1 nd1 sy1 na1 lf1 ec1 : Int), (li - ln1).toNat = m → jGet L 0 = some (.ref 66) → jGet L 1 = some (.int (i32 many)) → Wk Gx Ax → Fr [9, 10, 11, 12, 13, 14, 15, 16, 17, 18, 19, 28, 29, 31] [6, 7, 8, 9, 10, 11, 12, 14, 15, 16, 17, 18, 19, 20, 21, 22, 23, 24, 28, 36] G A Gx Ax → Pf nd A Ax → Fx sr (sy) A Ax → Fx [14] (vi) A Ax → Gx 9 = ln1 → Gx 10 = at1 → Gx 16 = fk1 → Gx 31 = nd1 → Gx 19 = sy1 → Gx 28 = na1 → Ax 3 (ln1).toNat = lf1 → ecn Ax (Gx 31) = ec1 → Gx 29 = vi → ((-2147483648 : Int) ≤ many ∧ many ≤ 2147483647) → (fk1 = 0) → (at0 ≤ at1) → (nd ≤ nd1) → (sy ≤ sy1) → (sy1 ≤ na1 + 2) → (vi ≤ sy1) → (ln ≤ ln1) → (ln1 ≤ li) → (nd1 ≤ 2 * at1 + 31) → (at1 < lf1 ∨ li ≤ ln1) → (0 ≤ many ∧ many ≤ ln1) → (wB Ax Vs pb (nd) (nd1) (sy) (sy1)) → (nd1 + 5 * ec1 ≤ 2 * at1 + 31) → wj X d jm311 (19, L, [], rV c0 c1 Gx Ax T) (fun o V' => ∃ (G' : Nat → Int) (A' : Nat → Nat → Int) (ln2 : Int) (at2 : Int) (fk2 : Int) (nd2 : Int) (sy2 : Int) (na2 : Int) (vi2 : Int) (lf2 : Int) (ec2 : Int), V' = rV c0 c1 G' A' T ∧ o = .inl none ∧ Wk G' A' ∧ Fr [9, 10, 11, 12, 13, 14, 15, 16, 17, 18, 19, 28, 29, 31] [6, 7, 8, 9, 10, 11, 12, 14, 15, 16, 17, 18, 19, 20, 21, 22, 23, 24, 28, 36] G A G' A' ∧ Pf nd A A' ∧ Fx sr (sy) A A' ∧ Fx [14] (vi) A A' ∧ G' 9 = ln2 ∧ G' 10 = at2 ∧ G' 16 = fk2 ∧ G' 31 = nd2 ∧ G' 19 = sy2 ∧ G' 28 = na2 ∧ G' 29 = vi2 ∧ A' 3 (ln2).toNat = lf2 ∧ ecn A' (G' 31) = ec2 ∧ (nd ≤ nd2) ∧ (sy ≤ sy2) ∧ (sy2 ≤ na2 + 2) ∧ (vi2 = vi) ∧ (ln ≤ ln2) ∧ (ln2 ≤ li) ∧ (((1 ≤ fk2)) ∨ ((fk2 = 0) ∧ (wB A' Vs pb (nd) (nd2) (sy) (sy2)) ∧ (nd2 + 5 * ec2 ≤ 6050)))) := by
  have hF0 : Fr [9, 10, 11, 12, 13, 14, 15, 16, 17, 18, 19, 28, 29, 31] [6, 7, 8, 9, 10, 11, 12, 14, 15, 16, 17, 18, 19, 20, 21, 22, 23, 24, 28, 36] G A G A := Fr_rf
  have hP0 : Pf nd A A := Pf_rf
  have hS0 : Fx sr (sy) A A := Fx_rf
  have hV0 : Fx [14] (vi) A A := Fx_rf
  have b_ln : (0 : Int) ≤ ln ∧ ln ≤ 3000 := e_ln ▸ hW.1 9
  have b_li : (0 : Int) ≤ li ∧ li ≤ 3000 := e_li ▸ hW.1 3
  have b_at0 : (0 : Int) ≤ at0 ∧ at0 ≤ 3002 := e_at0 ▸ hW.1 10
  have b_fk : (0 : Int) ≤ fk ∧ fk ≤ 6 := e_fk ▸ hW.1 16
  have b_nd : (0 : Int) ≤ nd ∧ nd ≤ 6999 := e_nd ▸ hW.1 31
  have b_sy : (0 : Int) ≤ sy ∧ sy ≤ 202 := e_sy ▸ hW.1 19
  have b_na : (0 : Int) ≤ na ∧ na ≤ 200 := e_na ▸ hW.1 28
  have b_vi : (0 : Int) ≤ vi ∧ vi ≤ 202 := e_vi ▸ hW.1 29
  have b_le : (0 : Int) ≤ le ∧ le ≤ 3000 := e_le ▸ hW.2 4 _
  have b_op0 : (-2147483648 : Int) ≤ op0 ∧ op0 ≤ 2147483647 := e_op0 ▸ hW.1 15
  have z_tk0 := tz_f tk0
  have b_tk0 : (0 : Int) ≤ tk0 ∧ tk0 ≤ 5 := e_tk0 ▸ hW.1 11
  intro m
  induction m using Nat.strongRecOn with
  | ind m ih19 =>
    intro L Gx Ax many ln1 at1 fk1 nd1 sy1 na1 lf1 ec1 hm gL_0 gL_1 hWx hFx hPx hSx hVx ex_ln1 ex_at1 ex_fk1 ex_nd1 ex_sy1 ex_na1 ex_lf1 ex_ec1 fx_29 rx_many iv_0 iv_1 iv_2 iv_3 iv_4 iv_5 iv_6 iv_7 iv_8 iv_9 iv_10 iv_11 iv_12
    have b_ln1 : (0 : Int) ≤ ln1 ∧ ln1 ≤ 3000 := ex_ln1 ▸ hWx.1 9
    have b_at1 : (0 : Int) ≤ at1 ∧ at1 ≤ 3002 := ex_at1 ▸ hWx.1 10
    have b_fk1 : (0 : Int) ≤ fk1 ∧ fk1 ≤ 6 := ex_fk1 ▸ hWx.1 16
    have b_nd1 : (0 : Int) ≤ nd1 ∧ nd1 ≤ 6999 := ex_nd1 ▸ hWx.1 31
    have b_sy1 : (0 : Int) ≤ sy1 ∧ sy1 ≤ 202 := ex_sy1 ▸ hWx.1 19
    have b_na1 : (0 : Int) ≤ na1 ∧ na1 ≤ 200 := ex_na1 ▸ hWx.1 28
    refine jx_ld (pc' := 20) (l' := L) (st' := [.ref 66]) rfl (jl_aloadn gL_0) ?_
    refine jx_ar (pc' := 21) (st' := [.int (i32 (0)), .ref 66]) rfl rfl rfl rfl ?_
    have b1 : (-1 : Int) ≤ A 5 (ln1).toNat ∧ A 5 (ln1).toNat ≤ 15 := hW.2 5 _
    refine jx_vr (pc' := 24) (as := [.int (i32 (0))]) (st := []) rfl rfl rfl rfl ⟨rfl, rfl, Nat.le_of_ble_eq_true rfl⟩ rfl rfl (c_isBelow (dd := d) (hd := by omega) (hW := hWx) (lv := 0) (ln := ln1) (e_ln := show Gx 9 = ln1 from (ex_ln1)) (li := li) (e_li := show Gx 3 = li from ((hFx.1 3 rfl).trans (e_li))) (fk := fk1) (e_fk := show Gx 16 = fk1 from (ex_fk1)) (ll := A 5 (ln1).toNat) (e_ll := show Ax 5 (ln1).toNat = A 5 (ln1).toNat from (congrFun (hFx.2 5 rfl) _))  (h_lv := ⟨(by decide), (by decide)⟩)  (p_0 := by omega)) (fun o V' hq => ?_)
    obtain ⟨G2, A3, r4, fk2_5, rfl, rfl, hW6, hF7, b8, e9, q10⟩ := hq
    have hF11 := Fr_tr hFx hF7 (Fr_sub (by decide)) (Fr_sub (by decide))
    have hP12 := Pf_f hPx hF7 (by decide)
    have hS13 := Fx_f hSx hF7 (by decide)
    have hV14 := Fx_f hVx hF7 (by decide)
    have sf15 : wB A3 Vs pb (nd) (nd1) (sy) (sy1) := (show A3 = Ax from funext (fun k => hF7.2 k rfl)) ▸ iv_11
    have ec16 : ecn A3 (G2 31) = ec1 := (ecn_f (hF7.2 15 rfl) (hF7.1 31 rfl)).trans ex_ec1
    have bfk2_5 : (0 : Int) ≤ fk2_5 ∧ fk2_5 ≤ 6 := e9 ▸ hW6.1 16
    refine .inr ⟨_, rfl, ?_⟩
    rcases q10 with ⟨rfl, a17, a18, a19, a20⟩ | ⟨rfl, a21⟩ | ⟨rfl, a22, a23, a24⟩
    · have _q : True := trivial
      have b25 : (0 : Int) ≤ A 4 (ln1).toNat ∧ A 4 (ln1).toNat ≤ 3000 := hW.2 4 _
      have lt26 : lf1 < A 4 (ln1).toNat := LT_at (LT_ext (((hF7.1 3 rfl).trans (hFx.1 3 rfl))) (((hF7.2 3 rfl).trans (hFx.2 3 rfl))) (((hF7.2 4 rfl).trans (hFx.2 4 rfl))) i_LT) (show G2 3 = li from ((hF7.1 3 rfl).trans ((hFx.1 3 rfl).trans (e_li)))) (show A3 3 (ln1).toNat = lf1 from (congrFun (hF7.2 3 rfl) _).trans (ex_lf1)) (show A3 4 (ln1).toNat = A 4 (ln1).toNat from (congrFun ((hF7.2 4 rfl).trans (hFx.2 4 rfl)) _)) (by omega) (by omega)
      refine jx_if_eq (pc' := 27) (tg := 125) rfl rfl rfl (by decide) (by decide) (fun h27 => ?_) (fun h27 => ?_)
      · have _q := h27
        exact absurd h27 (by omega)
      · have _q := h27
        refine jx_ld (pc' := 28) (l' := L) (st' := [.ref 66]) rfl (jl_aloadn gL_0) ?_
        refine jx_vr (pc' := 31) (as := []) (st := []) rfl rfl rfl rfl ⟨rfl, rfl, Nat.le_of_ble_eq_true rfl⟩ rfl rfl (c_openLine (dd := d) (hd := by omega) (hW := hW6)  (ln := ln1) (e_ln := show G2 9 = ln1 from ((hF7.1 9 rfl).trans (ex_ln1))) (le := A 4 (ln1).toNat) (e_le := show A3 4 (ln1).toNat = A 4 (ln1).toNat from (congrFun ((hF7.2 4 rfl).trans (hFx.2 4 rfl)) _)) (lf := lf1) (e_lf := show A3 3 (ln1).toNat = lf1 from (congrFun (hF7.2 3 rfl) _).trans (ex_lf1))    (p_0 := by omega)) (fun o V' hq => ?_)
        obtain ⟨G28, A29, at2_30, tk2_31, op2_32, rfl, rfl, hW33, hF34, e35, e36, e37, p38, p39, p40, p41, -⟩ := hq
        have hF43 := Fr_tr hF11 hF34 (Fr_sub (by decide)) (Fr_sub (by decide))
        have hP44 := Pf_f hP12 hF34 (by decide)
        have hS45 := Fx_f hS13 hF34 (by decide)
        have hV46 := Fx_f hV14 hF34 (by decide)
        have sf47 : wB A29 Vs pb (nd) (nd1) (sy) (sy1) := (show A29 = A3 from funext (fun k => hF34.2 k rfl)) ▸ sf15
        have ec48 : ecn A29 (G28 31) = ec1 := (ecn_f (hF34.2 15 rfl) (hF34.1 31 rfl)).trans ec16
        have bat2_30 : (0 : Int) ≤ at2_30 ∧ at2_30 ≤ 3002 := e35 ▸ hW33.1 10
        have ztk2_31 := tz_b tk2_31
        have btk2_31 : (0 : Int) ≤ tk2_31 ∧ tk2_31 ≤ 5 := e36 ▸ hW33.1 11
        have bop2_32 : (-2147483648 : Int) ≤ op2_32 ∧ op2_32 ≤ 2147483647 := e37 ▸ hW33.1 15
        refine .inl ⟨rfl, ?_⟩
        have pz49 : lf1 + tz tk2_31 ≤ at2_30 := by omega
        refine jx_ld (pc' := 32) (l' := L) (st' := [.ref 66]) rfl (jl_aloadn gL_0) ?_
        refine jx_ld (pc' := 33) (l' := L) (st' := [.ref 66, .ref 66]) rfl (jl_aloadn gL_0) ?_
        refine jx_ar (pc' := 35) (st' := [.int (i32 (20)), .ref 66, .ref 66]) rfl rfl rfl rfl ?_
        have b50 : (-2147483648 : Int) ≤ G28 13 ∧ G28 13 ≤ 2147483647 := hW33.1 13
        refine jx_vr (pc' := 38) (as := [.int (i32 (20))]) (st := [.ref 66]) rfl rfl rfl rfl ⟨rfl, rfl, Nat.le_of_ble_eq_true rfl⟩ rfl rfl (c_isKey (dd := d) (hd := by omega) (hW := hW33) (k := 20) (tk := tk2_31) (e_tk := show G28 11 = tk2_31 from (e36)) (tn := G28 13) (e_tn := show G28 13 = G28 13 from rfl)  (h_k := ⟨(by decide), (by decide)⟩)  ) (fun o V' hq => ?_)
        obtain ⟨r51, rfl, rfl, b52, q53⟩ := hq
        refine .inr ⟨_, rfl, ?_⟩
        rcases q53 with ⟨rfl, a54, a55, a56⟩ | rfl
        · have _q : True := trivial
          refine jx_vr (pc' := 41) (as := [.int (i32 (1))]) (st := []) rfl rfl rfl rfl ⟨rfl, rfl, Nat.le_of_ble_eq_true rfl⟩ rfl rfl (c_need (dd := d) (hd := by omega) (hW := hW33) (g := 1) (ln := ln1) (e_ln := show G28 9 = ln1 from ((hF34.1 9 rfl).trans ((hF7.1 9 rfl).trans (ex_ln1)))) (le := A 4 (ln1).toNat) (e_le := show A29 4 (ln1).toNat = A 4 (ln1).toNat from (congrFun ((hF34.2 4 rfl).trans ((hF7.2 4 rfl).trans (hFx.2 4 rfl))) _)) (at0 := at2_30) (e_at0 := show G28 10 = at2_30 from (e35)) (fk := fk2_5) (e_fk := show G28 16 = fk2_5 from ((hF34.1 16 rfl).trans (e9))) (tk0 := tk2_31) (e_tk0 := show G28 11 = tk2_31 from (e36))  (h_g := ⟨(by decide), (by decide)⟩)  (p_0 := by omega)) (fun o V' hq => ?_)
          obtain ⟨G57, A58, at2_59, tk2_60, fk2_61, rfl, rfl, hW62, hF63, e64, e65, e66, p67, p68, q69⟩ := hq
          have hF70 := Fr_tr hF43 hF63 (Fr_sub (by decide)) (Fr_sub (by decide))
          have hP71 := Pf_f hP44 hF63 (by decide)
          have hS72 := Fx_f hS45 hF63 (by decide)
          have hV73 := Fx_f hV46 hF63 (by decide)
          have sf74 : wB A58 Vs pb (nd) (nd1) (sy) (sy1) := (show A58 = A29 from funext (fun k => hF63.2 k rfl)) ▸ sf47
          have ec75 : ecn A58 (G57 31) = ec1 := (ecn_f (hF63.2 15 rfl) (hF63.1 31 rfl)).trans ec48
          have bat2_59 : (0 : Int) ≤ at2_59 ∧ at2_59 ≤ 3002 := e64 ▸ hW62.1 10
          have ztk2_60 := tz_b tk2_60
          have btk2_60 : (0 : Int) ≤ tk2_60 ∧ tk2_60 ≤ 5 := e65 ▸ hW62.1 11
          have bfk2_61 : (0 : Int) ≤ fk2_61 ∧ fk2_61 ≤ 6 := e66 ▸ hW62.1 16
          refine .inl ⟨rfl, ?_⟩
          rcases q69 with ⟨a76, a77, a78, a79⟩ | ⟨a80, a81, a82, a83⟩
          · have _q : True := trivial
            refine jx_ld (pc' := 42) (l' := L) (st' := [.ref 66]) rfl (jl_aloadn gL_0) ?_
            refine jx_vr (pc' := 45) (as := []) (st := []) rfl rfl rfl rfl ⟨rfl, rfl, Nat.le_of_ble_eq_true rfl⟩ rfl rfl (c_bad (dd := d) (hd := by omega) (hW := hW62)  (fk := fk2_61) (e_fk := show G57 16 = fk2_61 from (e66))    ) (fun o V' hq => ?_)
            obtain ⟨r84, rfl, rfl, b85, q86⟩ := hq
            refine .inr ⟨_, rfl, ?_⟩
            rcases q86 with ⟨rfl, a87⟩ | ⟨rfl, a88⟩
            · have _q : True := trivial
              refine jx_if_ne (pc' := 48) (tg := 89) rfl rfl rfl (by decide) (by decide) (fun h89 => ?_) (fun h89 => ?_)
              · have _q := h89
                refine jx_ld (pc' := 90) (l' := L) (st' := [.ref 66]) rfl (jl_aloadn gL_0) ?_
                refine jx_ar (pc' := 91) (st' := [.int (i32 (0)), .ref 66]) rfl rfl rfl rfl ?_
                refine jx_ar (pc' := 92) (st' := [.int (i32 (5)), .int (i32 (0)), .ref 66]) rfl rfl rfl rfl ?_
                have b90 : (-2147483648 : Int) ≤ G57 13 ∧ G57 13 ≤ 2147483647 := hW62.1 13
                refine jx_vr (pc' := 95) (as := [.int (i32 (0)), .int (i32 (5))]) (st := []) rfl rfl rfl rfl ⟨rfl, rfl, Nat.le_of_ble_eq_true rfl⟩ rfl rfl (c_needNumber2 (dd := d) (hd := by omega) (hW := hW62) (lo := 0) (hi := 5) (ln := ln1) (e_ln := show G57 9 = ln1 from ((hF63.1 9 rfl).trans ((hF34.1 9 rfl).trans ((hF7.1 9 rfl).trans (ex_ln1))))) (le := A 4 (ln1).toNat) (e_le := show A58 4 (ln1).toNat = A 4 (ln1).toNat from (congrFun ((hF63.2 4 rfl).trans ((hF34.2 4 rfl).trans ((hF7.2 4 rfl).trans (hFx.2 4 rfl)))) _)) (at0 := at2_59) (e_at0 := show G57 10 = at2_59 from (e64)) (fk := fk2_61) (e_fk := show G57 16 = fk2_61 from (e66)) (tk0 := tk2_60) (e_tk0 := show G57 11 = tk2_60 from (e65)) (tn := G57 13) (e_tn := show G57 13 = G57 13 from rfl)  (h_lo := ⟨(by decide), (by decide)⟩) (h_hi := ⟨(by decide), (by decide)⟩)  (p_0 := by omega)) (fun o V' hq => ?_)
                obtain ⟨G91, A92, r93, at2_94, tk2_95, fk2_96, rfl, rfl, hW97, hF98, b99, e100, e101, e102, p103, p104, q105⟩ := hq
                have hF106 := Fr_tr hF70 hF98 (Fr_sub (by decide)) (Fr_sub (by decide))
                have hP107 := Pf_f hP71 hF98 (by decide)
                have hS108 := Fx_f hS72 hF98 (by decide)
                have hV109 := Fx_f hV73 hF98 (by decide)
                have sf110 : wB A92 Vs pb (nd) (nd1) (sy) (sy1) := (show A92 = A58 from funext (fun k => hF98.2 k rfl)) ▸ sf74
                have ec111 : ecn A92 (G91 31) = ec1 := (ecn_f (hF98.2 15 rfl) (hF98.1 31 rfl)).trans ec75
                have bat2_94 : (0 : Int) ≤ at2_94 ∧ at2_94 ≤ 3002 := e100 ▸ hW97.1 10
                have ztk2_95 := tz_b tk2_95
                have btk2_95 : (0 : Int) ≤ tk2_95 ∧ tk2_95 ≤ 5 := e101 ▸ hW97.1 11
                have bfk2_96 : (0 : Int) ≤ fk2_96 ∧ fk2_96 ≤ 6 := e102 ▸ hW97.1 16
                refine .inr ⟨_, rfl, ?_⟩
                rcases q105 with ⟨a112, a113, a114, a115⟩ | ⟨a116, a117, a118, a119, a120, a121, a122⟩
                · have _q : True := trivial
                  refine jx_ld (pc' := 96) (l' := jSto1 L 2 (.int (i32 (r93)))) (st' := []) rfl rfl ?_
                  obtain ⟨L123, eL123⟩ : ∃ q, q = jSto1 L 2 (.int (i32 (r93))) := ⟨_, rfl⟩
                  rw [← eL123]
                  have gL123_0 : jGet L123 0 = some (.ref 66) := eL123 ▸ jg_ne (by decide) gL_0 rfl
                  have gL123_1 : jGet L123 1 = some (.int (i32 (many))) := eL123 ▸ jg_ne (by decide) gL_1 rfl
                  have gL123_2 : jGet L123 2 = some (.int (i32 (r93))) := eL123 ▸ jg_eq
                  refine jx_ld (pc' := 97) (l' := L123) (st' := [.ref 66]) rfl (jl_aloadn gL123_0) ?_
                  refine jx_vr (pc' := 100) (as := []) (st := []) rfl rfl rfl rfl ⟨rfl, rfl, Nat.le_of_ble_eq_true rfl⟩ rfl rfl (c_endLine (dd := d) (hd := by omega) (hW := hW97)  (ln := ln1) (e_ln := show G91 9 = ln1 from ((hF98.1 9 rfl).trans ((hF63.1 9 rfl).trans ((hF34.1 9 rfl).trans ((hF7.1 9 rfl).trans (ex_ln1)))))) (li := li) (e_li := show G91 3 = li from ((hF98.1 3 rfl).trans ((hF63.1 3 rfl).trans ((hF34.1 3 rfl).trans ((hF7.1 3 rfl).trans ((hFx.1 3 rfl).trans (e_li))))))) (fk := fk2_96) (e_fk := show G91 16 = fk2_96 from (e102)) (tk0 := tk2_95) (e_tk0 := show G91 11 = tk2_95 from (e101))    (p_0 := by omega)) (fun o V' hq => ?_)
                  obtain ⟨G124, A125, ln2_126, fk2_127, rfl, rfl, hW128, hF129, e130, e131, q132⟩ := hq
                  have hF133 := Fr_tr hF106 hF129 (Fr_sub (by decide)) (Fr_sub (by decide))
                  have hP134 := Pf_f hP107 hF129 (by decide)
                  have hS135 := Fx_f hS108 hF129 (by decide)
                  have hV136 := Fx_f hV109 hF129 (by decide)
                  have sf137 : wB A125 Vs pb (nd) (nd1) (sy) (sy1) := (show A125 = A92 from funext (fun k => hF129.2 k rfl)) ▸ sf110
                  have ec138 : ecn A125 (G124 31) = ec1 := (ecn_f (hF129.2 15 rfl) (hF129.1 31 rfl)).trans ec111
                  have bln2_126 : (0 : Int) ≤ ln2_126 ∧ ln2_126 ≤ 3000 := e130 ▸ hW128.1 9
                  have bfk2_127 : (0 : Int) ≤ fk2_127 ∧ fk2_127 ≤ 6 := e131 ▸ hW128.1 16
                  refine .inl ⟨rfl, ?_⟩
                  rcases q132 with ⟨a139, a140, a141, a142, a143⟩ | ⟨a144, a145⟩
                  · have _q : True := trivial
                    exfalso
                    omega
                  · have _q : True := trivial
                    refine jx_ld (pc' := 101) (l' := L123) (st' := [.ref 66]) rfl (jl_aloadn gL123_0) ?_
                    refine jx_vr (pc' := 104) (as := []) (st := []) rfl rfl rfl rfl ⟨rfl, rfl, Nat.le_of_ble_eq_true rfl⟩ rfl rfl (c_bad (dd := d) (hd := by omega) (hW := hW128)  (fk := fk2_127) (e_fk := show G124 16 = fk2_127 from (e131))    ) (fun o V' hq => ?_)
                    obtain ⟨r146, rfl, rfl, b147, q148⟩ := hq
                    refine .inr ⟨_, rfl, ?_⟩
                    rcases q148 with ⟨rfl, a149⟩ | ⟨rfl, a150⟩
                    · have _q : True := trivial
                      refine jx_if_eq (pc' := 107) (tg := 108) rfl rfl rfl (by decide) (by decide) (fun h151 => ?_) (fun h151 => ?_)
                      · have _q := h151
                        exact absurd h151 (by omega)
                      · have _q := h151
                        refine jx_rt (v := none) rfl rfl rfl rfl rfl rfl ?_
                        exact ⟨_, _, ln2_126, at2_94, fk2_127, nd1, sy1, na1, vi, A 3 (ln2_126).toNat, ec1, rfl, rfl, hW128, hF133, hP134, hS135, hV136, (e130), ((hF129.1 10 rfl).trans (e100)), (e131), ((hF129.1 31 rfl).trans ((hF98.1 31 rfl).trans ((hF63.1 31 rfl).trans ((hF34.1 31 rfl).trans ((hF7.1 31 rfl).trans (ex_nd1)))))), ((hF129.1 19 rfl).trans ((hF98.1 19 rfl).trans ((hF63.1 19 rfl).trans ((hF34.1 19 rfl).trans ((hF7.1 19 rfl).trans (ex_sy1)))))), ((hF129.1 28 rfl).trans ((hF98.1 28 rfl).trans ((hF63.1 28 rfl).trans ((hF34.1 28 rfl).trans ((hF7.1 28 rfl).trans (ex_na1)))))), ((hF129.1 29 rfl).trans ((hF98.1 29 rfl).trans ((hF63.1 29 rfl).trans ((hF34.1 29 rfl).trans ((hF7.1 29 rfl).trans (fx_29)))))), (congrFun ((hF129.2 3 rfl).trans ((hF98.2 3 rfl).trans ((hF63.2 3 rfl).trans ((hF34.2 3 rfl).trans ((hF7.2 3 rfl).trans (hFx.2 3 rfl)))))) _), ec138, by omega, by omega, by omega, by omega, by omega, by omega, by first | exact Or.inl (by omega)⟩
                    · have _q : True := trivial
                      exfalso
                      omega
                · have _q : True := trivial
                  exfalso
                  omega
              · have _q := h89
                exact absurd h89 (by omega)
            · have _q : True := trivial
              exfalso
              omega
          · have _q : True := trivial
            have pz152 : at2_30 + tz tk2_60 ≤ at2_59 := by omega
            refine jx_ld (pc' := 42) (l' := L) (st' := [.ref 66]) rfl (jl_aloadn gL_0) ?_
            refine jx_vr (pc' := 45) (as := []) (st := []) rfl rfl rfl rfl ⟨rfl, rfl, Nat.le_of_ble_eq_true rfl⟩ rfl rfl (c_bad (dd := d) (hd := by omega) (hW := hW62)  (fk := fk2_61) (e_fk := show G57 16 = fk2_61 from (e66))    ) (fun o V' hq => ?_)
            obtain ⟨r153, rfl, rfl, b154, q155⟩ := hq
            refine .inr ⟨_, rfl, ?_⟩
            rcases q155 with ⟨rfl, a156⟩ | ⟨rfl, a157⟩
            · have _q : True := trivial
              exfalso
              omega
            · have _q : True := trivial
              refine jx_if_ne (pc' := 48) (tg := 89) rfl rfl rfl (by decide) (by decide) (fun h158 => ?_) (fun h158 => ?_)
              · have _q := h158
                exact absurd h158 (by omega)
              · have _q := h158
                refine jx_ld (pc' := 49) (l' := L) (st' := [.ref 66]) rfl (jl_aloadn gL_0) ?_
                have z159 := tz_f (tk2_60)
                refine jr_get (pc' := 52) (i := 11) (v := .int (i32 (tk2_60))) rfl rfl (by decide) (rFv_eq (by decide) (show G57 11 = tk2_60 from (e65))) rfl ?_
                refine jx_ar (pc' := 53) (st' := [.int (i32 (3)), .int (i32 (tk2_60))]) rfl rfl rfl rfl ?_
                refine jx_icmp_ne (pc' := 56) (tg := 89) rfl rfl rfl (Int.le_trans (by decide : (-2147483648 : Int) ≤ 0) btk2_60.1) (Int.le_trans btk2_60.2 (by decide : (5 : Int) ≤ 2147483647)) (by decide) (by decide) (fun h160 => ?_) (fun h160 => ?_)
                · have _q := h160
                  refine jx_ld (pc' := 90) (l' := L) (st' := [.ref 66]) rfl (jl_aloadn gL_0) ?_
                  refine jx_ar (pc' := 91) (st' := [.int (i32 (0)), .ref 66]) rfl rfl rfl rfl ?_
                  refine jx_ar (pc' := 92) (st' := [.int (i32 (5)), .int (i32 (0)), .ref 66]) rfl rfl rfl rfl ?_
                  have b161 : (-2147483648 : Int) ≤ G57 13 ∧ G57 13 ≤ 2147483647 := hW62.1 13
                  refine jx_vr (pc' := 95) (as := [.int (i32 (0)), .int (i32 (5))]) (st := []) rfl rfl rfl rfl ⟨rfl, rfl, Nat.le_of_ble_eq_true rfl⟩ rfl rfl (c_needNumber2 (dd := d) (hd := by omega) (hW := hW62) (lo := 0) (hi := 5) (ln := ln1) (e_ln := show G57 9 = ln1 from ((hF63.1 9 rfl).trans ((hF34.1 9 rfl).trans ((hF7.1 9 rfl).trans (ex_ln1))))) (le := A 4 (ln1).toNat) (e_le := show A58 4 (ln1).toNat = A 4 (ln1).toNat from (congrFun ((hF63.2 4 rfl).trans ((hF34.2 4 rfl).trans ((hF7.2 4 rfl).trans (hFx.2 4 rfl)))) _)) (at0 := at2_59) (e_at0 := show G57 10 = at2_59 from (e64)) (fk := fk2_61) (e_fk := show G57 16 = fk2_61 from (e66)) (tk0 := tk2_60) (e_tk0 := show G57 11 = tk2_60 from (e65)) (tn := G57 13) (e_tn := show G57 13 = G57 13 from rfl)  (h_lo := ⟨(by decide), (by decide)⟩) (h_hi := ⟨(by decide), (by decide)⟩)  (p_0 := by omega)) (fun o V' hq => ?_)
                  obtain ⟨G162, A163, r164, at2_165, tk2_166, fk2_167, rfl, rfl, hW168, hF169, b170, e171, e172, e173, p174, p175, q176⟩ := hq
                  have hF177 := Fr_tr hF70 hF169 (Fr_sub (by decide)) (Fr_sub (by decide))
                  have hP178 := Pf_f hP71 hF169 (by decide)
                  have hS179 := Fx_f hS72 hF169 (by decide)
                  have hV180 := Fx_f hV73 hF169 (by decide)
                  have sf181 : wB A163 Vs pb (nd) (nd1) (sy) (sy1) := (show A163 = A58 from funext (fun k => hF169.2 k rfl)) ▸ sf74
                  have ec182 : ecn A163 (G162 31) = ec1 := (ecn_f (hF169.2 15 rfl) (hF169.1 31 rfl)).trans ec75
                  have bat2_165 : (0 : Int) ≤ at2_165 ∧ at2_165 ≤ 3002 := e171 ▸ hW168.1 10
                  have ztk2_166 := tz_b tk2_166
                  have btk2_166 : (0 : Int) ≤ tk2_166 ∧ tk2_166 ≤ 5 := e172 ▸ hW168.1 11
                  have bfk2_167 : (0 : Int) ≤ fk2_167 ∧ fk2_167 ≤ 6 := e173 ▸ hW168.1 16
                  refine .inr ⟨_, rfl, ?_⟩
                  rcases q176 with ⟨a183, a184, a185, a186⟩ | ⟨a187, a188, a189, a190, a191, a192, a193⟩
                  · have _q : True := trivial
                    refine jx_ld (pc' := 96) (l' := jSto1 L 2 (.int (i32 (r164)))) (st' := []) rfl rfl ?_
                    obtain ⟨L194, eL194⟩ : ∃ q, q = jSto1 L 2 (.int (i32 (r164))) := ⟨_, rfl⟩
                    rw [← eL194]
                    have gL194_0 : jGet L194 0 = some (.ref 66) := eL194 ▸ jg_ne (by decide) gL_0 rfl
                    have gL194_1 : jGet L194 1 = some (.int (i32 (many))) := eL194 ▸ jg_ne (by decide) gL_1 rfl
                    have gL194_2 : jGet L194 2 = some (.int (i32 (r164))) := eL194 ▸ jg_eq
                    refine jx_ld (pc' := 97) (l' := L194) (st' := [.ref 66]) rfl (jl_aloadn gL194_0) ?_
                    refine jx_vr (pc' := 100) (as := []) (st := []) rfl rfl rfl rfl ⟨rfl, rfl, Nat.le_of_ble_eq_true rfl⟩ rfl rfl (c_endLine (dd := d) (hd := by omega) (hW := hW168)  (ln := ln1) (e_ln := show G162 9 = ln1 from ((hF169.1 9 rfl).trans ((hF63.1 9 rfl).trans ((hF34.1 9 rfl).trans ((hF7.1 9 rfl).trans (ex_ln1)))))) (li := li) (e_li := show G162 3 = li from ((hF169.1 3 rfl).trans ((hF63.1 3 rfl).trans ((hF34.1 3 rfl).trans ((hF7.1 3 rfl).trans ((hFx.1 3 rfl).trans (e_li))))))) (fk := fk2_167) (e_fk := show G162 16 = fk2_167 from (e173)) (tk0 := tk2_166) (e_tk0 := show G162 11 = tk2_166 from (e172))    (p_0 := by omega)) (fun o V' hq => ?_)
                    obtain ⟨G195, A196, ln2_197, fk2_198, rfl, rfl, hW199, hF200, e201, e202, q203⟩ := hq
                    have hF204 := Fr_tr hF177 hF200 (Fr_sub (by decide)) (Fr_sub (by decide))
                    have hP205 := Pf_f hP178 hF200 (by decide)
                    have hS206 := Fx_f hS179 hF200 (by decide)
                    have hV207 := Fx_f hV180 hF200 (by decide)
                    have sf208 : wB A196 Vs pb (nd) (nd1) (sy) (sy1) := (show A196 = A163 from funext (fun k => hF200.2 k rfl)) ▸ sf181
                    have ec209 : ecn A196 (G195 31) = ec1 := (ecn_f (hF200.2 15 rfl) (hF200.1 31 rfl)).trans ec182
                    have bln2_197 : (0 : Int) ≤ ln2_197 ∧ ln2_197 ≤ 3000 := e201 ▸ hW199.1 9
                    have bfk2_198 : (0 : Int) ≤ fk2_198 ∧ fk2_198 ≤ 6 := e202 ▸ hW199.1 16
                    refine .inl ⟨rfl, ?_⟩
                    rcases q203 with ⟨a210, a211, a212, a213, a214⟩ | ⟨a215, a216⟩
                    · have _q : True := trivial
                      exfalso
                      omega
                    · have _q : True := trivial
                      refine jx_ld (pc' := 101) (l' := L194) (st' := [.ref 66]) rfl (jl_aloadn gL194_0) ?_
                      refine jx_vr (pc' := 104) (as := []) (st := []) rfl rfl rfl rfl ⟨rfl, rfl, Nat.le_of_ble_eq_true rfl⟩ rfl rfl (c_bad (dd := d) (hd := by omega) (hW := hW199)  (fk := fk2_198) (e_fk := show G195 16 = fk2_198 from (e202))    ) (fun o V' hq => ?_)
                      obtain ⟨r217, rfl, rfl, b218, q219⟩ := hq
                      refine .inr ⟨_, rfl, ?_⟩
                      rcases q219 with ⟨rfl, a220⟩ | ⟨rfl, a221⟩
                      · have _q : True := trivial
                        refine jx_if_eq (pc' := 107) (tg := 108) rfl rfl rfl (by decide) (by decide) (fun h222 => ?_) (fun h222 => ?_)
                        · have _q := h222
                          exact absurd h222 (by omega)
                        · have _q := h222
                          refine jx_rt (v := none) rfl rfl rfl rfl rfl rfl ?_
                          exact ⟨_, _, ln2_197, at2_165, fk2_198, nd1, sy1, na1, vi, A 3 (ln2_197).toNat, ec1, rfl, rfl, hW199, hF204, hP205, hS206, hV207, (e201), ((hF200.1 10 rfl).trans (e171)), (e202), ((hF200.1 31 rfl).trans ((hF169.1 31 rfl).trans ((hF63.1 31 rfl).trans ((hF34.1 31 rfl).trans ((hF7.1 31 rfl).trans (ex_nd1)))))), ((hF200.1 19 rfl).trans ((hF169.1 19 rfl).trans ((hF63.1 19 rfl).trans ((hF34.1 19 rfl).trans ((hF7.1 19 rfl).trans (ex_sy1)))))), ((hF200.1 28 rfl).trans ((hF169.1 28 rfl).trans ((hF63.1 28 rfl).trans ((hF34.1 28 rfl).trans ((hF7.1 28 rfl).trans (ex_na1)))))), ((hF200.1 29 rfl).trans ((hF169.1 29 rfl).trans ((hF63.1 29 rfl).trans ((hF34.1 29 rfl).trans ((hF7.1 29 rfl).trans (fx_29)))))), (congrFun ((hF200.2 3 rfl).trans ((hF169.2 3 rfl).trans ((hF63.2 3 rfl).trans ((hF34.2 3 rfl).trans ((hF7.2 3 rfl).trans (hFx.2 3 rfl)))))) _), ec209, by omega, by omega, by omega, by omega, by omega, by omega, by first | exact Or.inl (by omega)⟩
                      · have _q : True := trivial
                        exfalso
                        omega
                  · have _q : True := trivial
                    have pz223 : at2_59 + tz tk2_166 ≤ at2_165 := by omega
                    refine jx_ld (pc' := 96) (l' := jSto1 L 2 (.int (i32 (r164)))) (st' := []) rfl rfl ?_
                    obtain ⟨L224, eL224⟩ : ∃ q, q = jSto1 L 2 (.int (i32 (r164))) := ⟨_, rfl⟩
                    rw [← eL224]
                    have gL224_0 : jGet L224 0 = some (.ref 66) := eL224 ▸ jg_ne (by decide) gL_0 rfl
                    have gL224_1 : jGet L224 1 = some (.int (i32 (many))) := eL224 ▸ jg_ne (by decide) gL_1 rfl
                    have gL224_2 : jGet L224 2 = some (.int (i32 (r164))) := eL224 ▸ jg_eq
                    refine jx_ld (pc' := 97) (l' := L224) (st' := [.ref 66]) rfl (jl_aloadn gL224_0) ?_
                    refine jx_vr (pc' := 100) (as := []) (st := []) rfl rfl rfl rfl ⟨rfl, rfl, Nat.le_of_ble_eq_true rfl⟩ rfl rfl (c_endLine (dd := d) (hd := by omega) (hW := hW168)  (ln := ln1) (e_ln := show G162 9 = ln1 from ((hF169.1 9 rfl).trans ((hF63.1 9 rfl).trans ((hF34.1 9 rfl).trans ((hF7.1 9 rfl).trans (ex_ln1)))))) (li := li) (e_li := show G162 3 = li from ((hF169.1 3 rfl).trans ((hF63.1 3 rfl).trans ((hF34.1 3 rfl).trans ((hF7.1 3 rfl).trans ((hFx.1 3 rfl).trans (e_li))))))) (fk := fk2_167) (e_fk := show G162 16 = fk2_167 from (e173)) (tk0 := tk2_166) (e_tk0 := show G162 11 = tk2_166 from (e172))    (p_0 := by omega)) (fun o V' hq => ?_)
                    obtain ⟨G225, A226, ln2_227, fk2_228, rfl, rfl, hW229, hF230, e231, e232, q233⟩ := hq
                    have hF234 := Fr_tr hF177 hF230 (Fr_sub (by decide)) (Fr_sub (by decide))
                    have hP235 := Pf_f hP178 hF230 (by decide)
                    have hS236 := Fx_f hS179 hF230 (by decide)
                    have hV237 := Fx_f hV180 hF230 (by decide)
                    have sf238 : wB A226 Vs pb (nd) (nd1) (sy) (sy1) := (show A226 = A163 from funext (fun k => hF230.2 k rfl)) ▸ sf181
                    have ec239 : ecn A226 (G225 31) = ec1 := (ecn_f (hF230.2 15 rfl) (hF230.1 31 rfl)).trans ec182
                    have bln2_227 : (0 : Int) ≤ ln2_227 ∧ ln2_227 ≤ 3000 := e231 ▸ hW229.1 9
                    have bfk2_228 : (0 : Int) ≤ fk2_228 ∧ fk2_228 ≤ 6 := e232 ▸ hW229.1 16
                    refine .inl ⟨rfl, ?_⟩
                    rcases q233 with ⟨a240, a241, a242, a243, a244⟩ | ⟨a245, a246⟩
                    · have _q : True := trivial
                      have b247 : (0 : Int) ≤ A 3 (ln2_227).toNat ∧ A 3 (ln2_227).toNat ≤ 3000 := hW.2 3 _
                      have lt248 : ln2_227 < li → A 4 (ln1).toNat < A 3 (ln2_227).toNat := fun hh => LT_nx (LT_ext (((hF230.1 3 rfl).trans ((hF169.1 3 rfl).trans ((hF63.1 3 rfl).trans ((hF34.1 3 rfl).trans ((hF7.1 3 rfl).trans (hFx.1 3 rfl))))))) (((hF230.2 3 rfl).trans ((hF169.2 3 rfl).trans ((hF63.2 3 rfl).trans ((hF34.2 3 rfl).trans ((hF7.2 3 rfl).trans (hFx.2 3 rfl))))))) (((hF230.2 4 rfl).trans ((hF169.2 4 rfl).trans ((hF63.2 4 rfl).trans ((hF34.2 4 rfl).trans ((hF7.2 4 rfl).trans (hFx.2 4 rfl))))))) i_LT) (show G225 3 = li from ((hF230.1 3 rfl).trans ((hF169.1 3 rfl).trans ((hF63.1 3 rfl).trans ((hF34.1 3 rfl).trans ((hF7.1 3 rfl).trans ((hFx.1 3 rfl).trans (e_li)))))))) (show A226 4 (ln1).toNat = A 4 (ln1).toNat from (congrFun ((hF230.2 4 rfl).trans ((hF169.2 4 rfl).trans ((hF63.2 4 rfl).trans ((hF34.2 4 rfl).trans ((hF7.2 4 rfl).trans (hFx.2 4 rfl)))))) _)) (show A226 3 (ln2_227).toNat = A 3 (ln2_227).toNat from (congrFun ((hF230.2 3 rfl).trans ((hF169.2 3 rfl).trans ((hF63.2 3 rfl).trans ((hF34.2 3 rfl).trans ((hF7.2 3 rfl).trans (hFx.2 3 rfl)))))) _)) (show ln2_227 = ln1 + 1 by omega) (by omega) hh
                      refine jx_ld (pc' := 101) (l' := L224) (st' := [.ref 66]) rfl (jl_aloadn gL224_0) ?_
                      refine jx_vr (pc' := 104) (as := []) (st := []) rfl rfl rfl rfl ⟨rfl, rfl, Nat.le_of_ble_eq_true rfl⟩ rfl rfl (c_bad (dd := d) (hd := by omega) (hW := hW229)  (fk := fk2_228) (e_fk := show G225 16 = fk2_228 from (e232))    ) (fun o V' hq => ?_)
                      obtain ⟨r249, rfl, rfl, b250, q251⟩ := hq
                      refine .inr ⟨_, rfl, ?_⟩
                      rcases q251 with ⟨rfl, a252⟩ | ⟨rfl, a253⟩
                      · have _q : True := trivial
                        exfalso
                        omega
                      · have _q : True := trivial
                        refine jx_if_eq (pc' := 107) (tg := 108) rfl rfl rfl (by decide) (by decide) (fun h254 => ?_) (fun h254 => ?_)
                        · have _q := h254
                          refine jx_ld (pc' := 109) (l' := L224) (st' := [.ref 66]) rfl (jl_aloadn gL224_0) ?_
                          refine jr_get (pc' := 112) (i := 55) (v := .ref 103) rfl rfl (by decide) rfl rfl ?_
                          refine jx_ld (pc' := 113) (l' := L224) (st' := [.int (i32 (r164)), .ref 103]) rfl (jl_iloadn gL224_2) ?_
                          refine jx_ld (pc' := 114) (l' := L224) (st' := [.ref 66, .int (i32 (r164)), .ref 103]) rfl (jl_aloadn gL224_0) ?_
                          refine jx_ar (pc' := 115) (st' := [.int (i32 (2)), .ref 66, .int (i32 (r164)), .ref 103]) rfl rfl rfl rfl ?_
                          refine jx_vr (pc' := 118) (as := [.int (i32 (2))]) (st := [.int (i32 (r164)), .ref 103]) rfl rfl rfl rfl ⟨rfl, rfl, Nat.le_of_ble_eq_true rfl⟩ rfl rfl (RPw_all X 18 (dd := d) (hd := by omega) (hW := hW229) (lv := 2) (at0 := at2_165) (ln := ln2_227) (e_ln := show G225 9 = ln2_227 from (e231)) (li := li) (e_li := show G225 3 = li from ((hF230.1 3 rfl).trans ((hF169.1 3 rfl).trans ((hF63.1 3 rfl).trans ((hF34.1 3 rfl).trans ((hF7.1 3 rfl).trans ((hFx.1 3 rfl).trans (e_li)))))))) (fk := fk2_228) (e_fk := show G225 16 = fk2_228 from (e232)) (nd := nd1) (e_nd := show G225 31 = nd1 from ((hF230.1 31 rfl).trans ((hF169.1 31 rfl).trans ((hF63.1 31 rfl).trans ((hF34.1 31 rfl).trans ((hF7.1 31 rfl).trans (ex_nd1))))))) (sy := sy1) (e_sy := show G225 19 = sy1 from ((hF230.1 19 rfl).trans ((hF169.1 19 rfl).trans ((hF63.1 19 rfl).trans ((hF34.1 19 rfl).trans ((hF7.1 19 rfl).trans (ex_sy1))))))) (na := na1) (e_na := show G225 28 = na1 from ((hF230.1 28 rfl).trans ((hF169.1 28 rfl).trans ((hF63.1 28 rfl).trans ((hF34.1 28 rfl).trans ((hF7.1 28 rfl).trans (ex_na1))))))) (vi := vi) (e_vi := show G225 29 = vi from ((hF230.1 29 rfl).trans ((hF169.1 29 rfl).trans ((hF63.1 29 rfl).trans ((hF34.1 29 rfl).trans ((hF7.1 29 rfl).trans (fx_29))))))) (lf := A 3 (ln2_227).toNat) (e_lf := show A226 3 (ln2_227).toNat = A 3 (ln2_227).toNat from (congrFun ((hF230.2 3 rfl).trans ((hF169.2 3 rfl).trans ((hF63.2 3 rfl).trans ((hF34.2 3 rfl).trans ((hF7.2 3 rfl).trans (hFx.2 3 rfl)))))) _)) (ac := at2_165) (e_ac := show G225 10 = at2_165 from ((hF230.1 10 rfl).trans (e171))) (ec := ec1) (e_ec := show ecn A226 (G225 31) = ec1 from ec239) (i_LT := (LT_ext (((hF230.1 3 rfl).trans ((hF169.1 3 rfl).trans ((hF63.1 3 rfl).trans ((hF34.1 3 rfl).trans ((hF7.1 3 rfl).trans (hFx.1 3 rfl))))))) (((hF230.2 3 rfl).trans ((hF169.2 3 rfl).trans ((hF63.2 3 rfl).trans ((hF34.2 3 rfl).trans ((hF7.2 3 rfl).trans (hFx.2 3 rfl))))))) (((hF230.2 4 rfl).trans ((hF169.2 4 rfl).trans ((hF63.2 4 rfl).trans ((hF34.2 4 rfl).trans ((hF7.2 4 rfl).trans (hFx.2 4 rfl))))))) i_LT)) (i_SV := (SV_fx i_SV e_vi (show G225 29 = vi from ((hF230.1 29 rfl).trans ((hF169.1 29 rfl).trans ((hF63.1 29 rfl).trans ((hF34.1 29 rfl).trans ((hF7.1 29 rfl).trans (fx_29))))))) (by omega) hV237)) (i_PQ := (PQ_fx i_PQ hS236 (by omega) (hF234.2 29 rfl) (hF234.2 30 rfl))) (hvb := hvb) (h_lv := ⟨(by decide), (by decide)⟩)  (p_0 := by omega) (p_1 := by omega) (p_2 := by omega) (p_3 := by omega) (p_4 := by omega) (p_5 := by omega) (p_6 := by omega) (p_7 := by omega) (p_8 := by omega) (p_9 := by omega) (p_10 := by omega)) (fun o V' hq => ?_)
                          obtain ⟨G255, A256, r257, ln2_258, at2_259, fk2_260, nd2_261, sy2_262, na2_263, vi2_264, lf2_265, ec2_266, rfl, rfl, hW267, hF268, hQ269, hQ270, hQ271, b272, e273, e274, e275, e276, e277, e278, e279, e280, e281, p282, p283, p284, p285, p286, p287, p288, p289, p290, q291⟩ := hq
                          have hF292 := Fr_tr hF234 hF268 (Fr_sub (by decide)) (Fr_sub (by decide))
                          have hP293 := Pf_tr hP235 hQ269 (by omega)
                          have hS294 := Fx_tr hS236 hQ270 (by omega)
                          have hV295 := Fx_tr hV237 hQ271 (by omega)
                          have sf296 : wB A256 Vs pb (nd) (nd1) (sy) (sy1) := wB_fx (fun k j hk hj => hQ269 k j hk (by omega)) (Fx_su hQ270 (by omega)) (Qg_fx (Fx_f (w := pb) Fx_rf hF268 (by decide)) (by omega)) (hF268.2 36 rfl) (by omega) sf238
                          have bln2_258 : (0 : Int) ≤ ln2_258 ∧ ln2_258 ≤ 3000 := e273 ▸ hW267.1 9
                          have bat2_259 : (0 : Int) ≤ at2_259 ∧ at2_259 ≤ 3002 := e274 ▸ hW267.1 10
                          have bfk2_260 : (0 : Int) ≤ fk2_260 ∧ fk2_260 ≤ 6 := e275 ▸ hW267.1 16
                          have bnd2_261 : (0 : Int) ≤ nd2_261 ∧ nd2_261 ≤ 6999 := e276 ▸ hW267.1 31
                          have bsy2_262 : (0 : Int) ≤ sy2_262 ∧ sy2_262 ≤ 202 := e277 ▸ hW267.1 19
                          have bna2_263 : (0 : Int) ≤ na2_263 ∧ na2_263 ≤ 200 := e278 ▸ hW267.1 28
                          have bvi2_264 : (0 : Int) ≤ vi2_264 ∧ vi2_264 ≤ 202 := e279 ▸ hW267.1 29
                          have blf2_265 : (0 : Int) ≤ lf2_265 ∧ lf2_265 ≤ 3000 := e280 ▸ hW267.2 3 _
                          refine .inr ⟨_, rfl, ?_⟩
                          rcases q291 with ⟨a297, a298⟩ | ⟨a299, a300, a301, a302, a303, a304, a305, a306, a307⟩
                          · have _q : True := trivial
                            refine jr_st (pc' := 119) (i := 36) (m := 6) (z := r164) (y := r257) rfl (by decide) rfl (by decide) (by omega) (by omega) rfl ?_
                            have hW309 : Wk G255 (uA A256 36 (r164).toNat (r257)) := Wk_a hW267 (show (-2147483648 : Int) ≤ r257 by omega) (show r257 ≤ (2147483647 : Int) by omega)
                            have hF310 := Fr_a (z := r257) (k := 36) (n := (r164).toNat) hF292 (by decide)
                            obtain ⟨A308, eA308⟩ : ∃ q, q = uA A256 36 (r164).toNat (r257) := ⟨_, rfl⟩
                            rw [← eA308]
                            rw [← eA308] at hW309 hF310
                            have q311 : A308 36 (r164).toNat = r257 := by rw [eA308]; exact uA_eq
                            have hP312 : Pf nd A A308 := eA308 ▸ Pf_n hP293 rfl
                            have hS313 : Fx sr (sy) A A308 := eA308 ▸ Fx_n hS294 rfl
                            have hV314 : Fx [14] (vi) A A308 := eA308 ▸ Fx_n hV295 rfl
                            have ec315 : ecn A308 (G255 31) = ec2_266 := (ecn_e ((congrFun eA308 15).trans (uA_ne (by decide)))).trans e281
                            refine jx_inc (pc' := 122) (l' := jSto1 L224 1 (.int (i32 ((many + (1)))))) (x := many) rfl gL224_1 (by decide) rfl rfl ?_
                            obtain ⟨L316, eL316⟩ : ∃ q, q = jSto1 L224 1 (.int (i32 ((many + (1))))) := ⟨_, rfl⟩
                            rw [← eL316]
                            have gL316_0 : jGet L316 0 = some (.ref 66) := eL316 ▸ jg_ne (by decide) gL224_0 rfl
                            have gL316_2 : jGet L316 2 = some (.int (i32 (r164))) := eL316 ▸ jg_ne (by decide) gL224_2 rfl
                            have gL316_1 : jGet L316 1 = some (.int (i32 ((many + (1))))) := eL316 ▸ jg_eq
                            refine jx_go (tg := 19) rfl rfl ?_
                            refine jx_ld (pc' := 20) (l' := L316) (st' := [.ref 66]) rfl (jl_aloadn gL316_0) ?_
                            refine jx_ar (pc' := 21) (st' := [.int (i32 (0)), .ref 66]) rfl rfl rfl rfl ?_
                            have b317 : (-1 : Int) ≤ A 5 (ln2_258).toNat ∧ A 5 (ln2_258).toNat ≤ 15 := hW.2 5 _
                            refine jx_vr (pc' := 24) (as := [.int (i32 (0))]) (st := []) rfl rfl rfl rfl ⟨rfl, rfl, Nat.le_of_ble_eq_true rfl⟩ rfl rfl (c_isBelow (dd := d) (hd := by omega) (hW := hW309) (lv := 0) (ln := ln2_258) (e_ln := show G255 9 = ln2_258 from (e273)) (li := li) (e_li := show G255 3 = li from ((hF268.1 3 rfl).trans ((hF230.1 3 rfl).trans ((hF169.1 3 rfl).trans ((hF63.1 3 rfl).trans ((hF34.1 3 rfl).trans ((hF7.1 3 rfl).trans ((hFx.1 3 rfl).trans (e_li))))))))) (fk := fk2_260) (e_fk := show G255 16 = fk2_260 from (e275)) (ll := A 5 (ln2_258).toNat) (e_ll := show A308 5 (ln2_258).toNat = A 5 (ln2_258).toNat from (congrFun (((congrFun eA308 5).trans (uA_ne (by decide))).trans ((hF268.2 5 rfl).trans ((hF230.2 5 rfl).trans ((hF169.2 5 rfl).trans ((hF63.2 5 rfl).trans ((hF34.2 5 rfl).trans ((hF7.2 5 rfl).trans (hFx.2 5 rfl)))))))) _))  (h_lv := ⟨(by decide), (by decide)⟩)  (p_0 := by omega)) (fun o V' hq => ?_)
                            obtain ⟨G318, A319, r320, fk2_321, rfl, rfl, hW322, hF323, b324, e325, q326⟩ := hq
                            have hF327 := Fr_tr hF310 hF323 (Fr_sub (by decide)) (Fr_sub (by decide))
                            have hP328 := Pf_f hP312 hF323 (by decide)
                            have hS329 := Fx_f hS313 hF323 (by decide)
                            have hV330 := Fx_f hV314 hF323 (by decide)
                            have ec331 : ecn A319 (G318 31) = ec2_266 := (ecn_f (hF323.2 15 rfl) (hF323.1 31 rfl)).trans ec315
                            have bfk2_321 : (0 : Int) ≤ fk2_321 ∧ fk2_321 ≤ 6 := e325 ▸ hW322.1 16
                            refine .inr ⟨_, rfl, ?_⟩
                            rcases q326 with ⟨rfl, a332, a333, a334, a335⟩ | ⟨rfl, a336⟩ | ⟨rfl, a337, a338, a339⟩
                            · have _q : True := trivial
                              exfalso
                              omega
                            · have _q : True := trivial
                              refine jx_if_eq (pc' := 27) (tg := 125) rfl rfl rfl (by decide) (by decide) (fun h340 => ?_) (fun h340 => ?_)
                              · have _q := h340
                                refine jx_ld (pc' := 126) (l' := L316) (st' := [.ref 66]) rfl (jl_aloadn gL316_0) ?_
                                refine jx_vr (pc' := 129) (as := []) (st := []) rfl rfl rfl rfl ⟨rfl, rfl, Nat.le_of_ble_eq_true rfl⟩ rfl rfl (c_bad (dd := d) (hd := by omega) (hW := hW322)  (fk := fk2_321) (e_fk := show G318 16 = fk2_321 from (e325))    ) (fun o V' hq => ?_)
                                obtain ⟨r341, rfl, rfl, b342, q343⟩ := hq
                                refine .inr ⟨_, rfl, ?_⟩
                                rcases q343 with ⟨rfl, a344⟩ | ⟨rfl, a345⟩
                                · have _q : True := trivial
                                  refine jx_if_ne (pc' := 132) (tg := 142) rfl rfl rfl (by decide) (by decide) (fun h346 => ?_) (fun h346 => ?_)
                                  · have _q := h346
                                    refine jx_rt (v := none) rfl rfl rfl rfl rfl rfl ?_
                                    exact ⟨_, _, ln2_258, at2_259, fk2_321, nd2_261, sy2_262, na2_263, vi2_264, lf2_265, ec2_266, rfl, rfl, hW322, hF327, hP328, hS329, hV330, ((hF323.1 9 rfl).trans (e273)), ((hF323.1 10 rfl).trans (e274)), (e325), ((hF323.1 31 rfl).trans (e276)), ((hF323.1 19 rfl).trans (e277)), ((hF323.1 28 rfl).trans (e278)), ((hF323.1 29 rfl).trans (e279)), (congrFun ((hF323.2 3 rfl).trans ((congrFun eA308 3).trans (uA_ne (by decide)))) _).trans (e280), ec331, by omega, by omega, by omega, by omega, by omega, by omega, by first | exact Or.inl (by omega)⟩
                                  · have _q := h346
                                    exact absurd h346 (by omega)
                                · have _q : True := trivial
                                  exfalso
                                  omega
                              · have _q := h340
                                exact absurd h340 (by omega)
                            · have _q : True := trivial
                              exfalso
                              omega
                          · have _q : True := trivial
                            refine jr_st (pc' := 119) (i := 36) (m := 6) (z := r164) (y := r257) rfl (by decide) rfl (by decide) (by omega) (by omega) rfl ?_
                            have hW348 : Wk G255 (uA A256 36 (r164).toNat (r257)) := Wk_a hW267 (show (-2147483648 : Int) ≤ r257 by omega) (show r257 ≤ (2147483647 : Int) by omega)
                            have hF349 := Fr_a (z := r257) (k := 36) (n := (r164).toNat) hF292 (by decide)
                            obtain ⟨A347, eA347⟩ : ∃ q, q = uA A256 36 (r164).toNat (r257) := ⟨_, rfl⟩
                            rw [← eA347]
                            rw [← eA347] at hW348 hF349
                            have q350 : A347 36 (r164).toNat = r257 := by rw [eA347]; exact uA_eq
                            have hP351 : Pf nd A A347 := eA347 ▸ Pf_n hP293 rfl
                            have hS352 : Fx sr (sy) A A347 := eA347 ▸ Fx_n hS294 rfl
                            have hV353 : Fx [14] (vi) A A347 := eA347 ▸ Fx_n hV295 rfl
                            have sf354 : wB A347 Vs pb (nd) (nd2_261) (sy) (sy2_262) := wB_add eA347 sf296 (by omega) (by omega) (by omega) a305 (by omega) (by omega) rfl (by omega) (by omega) (by omega) (by omega) rfl
                            have sf355 : wP A347 (sy2_262) pb (18) (Vs) (r257) (nd1) (nd2_261) (sy1) (sy2_262) := wP_ag (Sg_ne eA347 rfl) (Qg_ne eA347 rfl) (by omega) (by omega) (Ax_ag (Ag_ne eA347 rfl)) a305
                            have sf356 : NX A347 (r257) := NX_r eA347 (by decide) a306
                            have ec357 : ecn A347 (G255 31) = ec2_266 := (ecn_e ((congrFun eA347 15).trans (uA_ne (by decide)))).trans e281
                            refine jx_inc (pc' := 122) (l' := jSto1 L224 1 (.int (i32 ((many + (1)))))) (x := many) rfl gL224_1 (by decide) rfl rfl ?_
                            obtain ⟨L358, eL358⟩ : ∃ q, q = jSto1 L224 1 (.int (i32 ((many + (1))))) := ⟨_, rfl⟩
                            rw [← eL358]
                            have gL358_0 : jGet L358 0 = some (.ref 66) := eL358 ▸ jg_ne (by decide) gL224_0 rfl
                            have gL358_2 : jGet L358 2 = some (.int (i32 (r164))) := eL358 ▸ jg_ne (by decide) gL224_2 rfl
                            have gL358_1 : jGet L358 1 = some (.int (i32 ((many + (1))))) := eL358 ▸ jg_eq
                            refine jx_go (tg := 19) rfl rfl ?_
                            exact ih19 _ (by omega) L358 G255 A347 ((many + (1))) (ln2_258) (at2_259) (fk2_260) (nd2_261) (sy2_262) (na2_263) (lf2_265) (ec2_266) rfl gL358_0 gL358_1 hW348 hF349 hP351 hS352 hV353 ((e273)) ((e274)) ((e275)) ((e276)) ((e277)) ((e278)) ((congrFun ((congrFun eA347 3).trans (uA_ne (by decide))) _).trans (e280)) (ec357) (Eq.trans (show G255 29 = vi2_264 from (e279)) (by omega)) (by omega) (by omega) (by omega) (by omega) (by omega) (by omega) (by omega) (by omega) (by omega) (by omega) (by omega) (by omega) (sf354) (by omega)
                        · have _q := h254
                          exact absurd h254 (by omega)
                    · have _q : True := trivial
                      refine jx_ld (pc' := 101) (l' := L224) (st' := [.ref 66]) rfl (jl_aloadn gL224_0) ?_
                      refine jx_vr (pc' := 104) (as := []) (st := []) rfl rfl rfl rfl ⟨rfl, rfl, Nat.le_of_ble_eq_true rfl⟩ rfl rfl (c_bad (dd := d) (hd := by omega) (hW := hW229)  (fk := fk2_228) (e_fk := show G225 16 = fk2_228 from (e232))    ) (fun o V' hq => ?_)
                      obtain ⟨r359, rfl, rfl, b360, q361⟩ := hq
                      refine .inr ⟨_, rfl, ?_⟩
                      rcases q361 with ⟨rfl, a362⟩ | ⟨rfl, a363⟩
                      · have _q : True := trivial
                        refine jx_if_eq (pc' := 107) (tg := 108) rfl rfl rfl (by decide) (by decide) (fun h364 => ?_) (fun h364 => ?_)
                        · have _q := h364
                          exact absurd h364 (by omega)
                        · have _q := h364
                          refine jx_rt (v := none) rfl rfl rfl rfl rfl rfl ?_
                          exact ⟨_, _, ln2_227, at2_165, fk2_228, nd1, sy1, na1, vi, A 3 (ln2_227).toNat, ec1, rfl, rfl, hW229, hF234, hP235, hS236, hV237, (e231), ((hF230.1 10 rfl).trans (e171)), (e232), ((hF230.1 31 rfl).trans ((hF169.1 31 rfl).trans ((hF63.1 31 rfl).trans ((hF34.1 31 rfl).trans ((hF7.1 31 rfl).trans (ex_nd1)))))), ((hF230.1 19 rfl).trans ((hF169.1 19 rfl).trans ((hF63.1 19 rfl).trans ((hF34.1 19 rfl).trans ((hF7.1 19 rfl).trans (ex_sy1)))))), ((hF230.1 28 rfl).trans ((hF169.1 28 rfl).trans ((hF63.1 28 rfl).trans ((hF34.1 28 rfl).trans ((hF7.1 28 rfl).trans (ex_na1)))))), ((hF230.1 29 rfl).trans ((hF169.1 29 rfl).trans ((hF63.1 29 rfl).trans ((hF34.1 29 rfl).trans ((hF7.1 29 rfl).trans (fx_29)))))), (congrFun ((hF230.2 3 rfl).trans ((hF169.2 3 rfl).trans ((hF63.2 3 rfl).trans ((hF34.2 3 rfl).trans ((hF7.2 3 rfl).trans (hFx.2 3 rfl)))))) _), ec239, by omega, by omega, by omega, by omega, by omega, by omega, by first | exact Or.inl (by omega)⟩
                      · have _q : True := trivial
                        exfalso
                        omega
                · have _q := h160
                  refine jx_ld (pc' := 57) (l' := L) (st' := [.ref 66]) rfl (jl_aloadn gL_0) ?_
                  have b365 : (-2147483648 : Int) ≤ G57 13 ∧ G57 13 ≤ 2147483647 := hW62.1 13
                  refine jr_get (pc' := 60) (i := 13) (v := .int (i32 (G57 13))) rfl rfl (by decide) rfl rfl ?_
                  refine jx_ar (pc' := 61) (st' := [.int (i32 (0)), .int (i32 (G57 13))]) rfl rfl rfl rfl ?_
                  refine jx_ar (pc' := 62) (st' := [.int (i32 (5)), .int (i32 (0)), .int (i32 (G57 13))]) rfl rfl rfl rfl ?_
                  refine jx_st (pc' := 65) (as := [.int (i32 (G57 13)), .int (i32 (0)), .int (i32 (5))]) (st := []) rfl rfl ⟨rfl, Nat.le_of_ble_eq_true rfl⟩ rfl rfl rfl (c_in (dd := d) (hd := by omega) (v := G57 13) (a := 0) (b := 5)   (h_v := ⟨(Int.le_trans (by decide : (-2147483648 : Int) ≤ -2147483648) b365.1), (Int.le_trans b365.2 (by decide : (2147483647 : Int) ≤ 2147483647))⟩) (h_a := ⟨(by decide), (by decide)⟩) (h_b := ⟨(by decide), (by decide)⟩)  ) (fun o V' hq => ?_)
                  obtain ⟨r366, rfl, rfl, b367, q368⟩ := hq
                  refine .inr ⟨_, rfl, ?_⟩
                  rcases q368 with ⟨rfl, a369, a370⟩ | ⟨rfl, a371⟩
                  · have _q : True := trivial
                    refine jx_if_eq (pc' := 68) (tg := 89) rfl rfl rfl (by decide) (by decide) (fun h372 => ?_) (fun h372 => ?_)
                    · have _q := h372
                      exact absurd h372 (by omega)
                    · have _q := h372
                      refine jx_ld (pc' := 69) (l' := L) (st' := [.ref 66]) rfl (jl_aloadn gL_0) ?_
                      refine jr_get (pc' := 72) (i := 55) (v := .ref 103) rfl rfl (by decide) rfl rfl ?_
                      refine jx_ld (pc' := 73) (l' := L) (st' := [.ref 66, .ref 103]) rfl (jl_aloadn gL_0) ?_
                      refine jr_get (pc' := 76) (i := 13) (v := .int (i32 (G57 13))) rfl rfl (by decide) rfl rfl ?_
                      have _q : True := trivial
                      have b373 : (-2147483648 : Int) ≤ Ax 36 (G57 13).toNat ∧ Ax 36 (G57 13).toNat ≤ 2147483647 := hWx.2 36 _
                      refine jr_ldv (pc' := 77) (i := 36) (m := 6) (z := G57 13) (y := Ax 36 (G57 13).toNat) rfl (by decide) rfl (by decide) (by omega) (by omega) rfl (show A58 36 (G57 13).toNat = Ax 36 (G57 13).toNat from (congrFun ((hF63.2 36 rfl).trans ((hF34.2 36 rfl).trans (hF7.2 36 rfl))) _)) ?_
                      refine jx_if_le (pc' := 80) (tg := 89) rfl rfl rfl (Int.le_trans (by decide : (-2147483648 : Int) ≤ -2147483648) b373.1) (Int.le_trans b373.2 (by decide : (2147483647 : Int) ≤ 2147483647)) (fun h374 => ?_) (fun h374 => ?_)
                      · have _q := h374
                        refine jx_ld (pc' := 90) (l' := L) (st' := [.ref 66]) rfl (jl_aloadn gL_0) ?_
                        refine jx_ar (pc' := 91) (st' := [.int (i32 (0)), .ref 66]) rfl rfl rfl rfl ?_
                        refine jx_ar (pc' := 92) (st' := [.int (i32 (5)), .int (i32 (0)), .ref 66]) rfl rfl rfl rfl ?_
                        refine jx_vr (pc' := 95) (as := [.int (i32 (0)), .int (i32 (5))]) (st := []) rfl rfl rfl rfl ⟨rfl, rfl, Nat.le_of_ble_eq_true rfl⟩ rfl rfl (c_needNumber2 (dd := d) (hd := by omega) (hW := hW62) (lo := 0) (hi := 5) (ln := ln1) (e_ln := show G57 9 = ln1 from ((hF63.1 9 rfl).trans ((hF34.1 9 rfl).trans ((hF7.1 9 rfl).trans (ex_ln1))))) (le := A 4 (ln1).toNat) (e_le := show A58 4 (ln1).toNat = A 4 (ln1).toNat from (congrFun ((hF63.2 4 rfl).trans ((hF34.2 4 rfl).trans ((hF7.2 4 rfl).trans (hFx.2 4 rfl)))) _)) (at0 := at2_59) (e_at0 := show G57 10 = at2_59 from (e64)) (fk := fk2_61) (e_fk := show G57 16 = fk2_61 from (e66)) (tk0 := tk2_60) (e_tk0 := show G57 11 = tk2_60 from (e65)) (tn := G57 13) (e_tn := show G57 13 = G57 13 from rfl)  (h_lo := ⟨(by decide), (by decide)⟩) (h_hi := ⟨(by decide), (by decide)⟩)  (p_0 := by omega)) (fun o V' hq => ?_)
                        obtain ⟨G375, A376, r377, at2_378, tk2_379, fk2_380, rfl, rfl, hW381, hF382, b383, e384, e385, e386, p387, p388, q389⟩ := hq
                        have hF390 := Fr_tr hF70 hF382 (Fr_sub (by decide)) (Fr_sub (by decide))
                        have hP391 := Pf_f hP71 hF382 (by decide)
                        have hS392 := Fx_f hS72 hF382 (by decide)
                        have hV393 := Fx_f hV73 hF382 (by decide)
                        have sf394 : wB A376 Vs pb (nd) (nd1) (sy) (sy1) := (show A376 = A58 from funext (fun k => hF382.2 k rfl)) ▸ sf74
                        have ec395 : ecn A376 (G375 31) = ec1 := (ecn_f (hF382.2 15 rfl) (hF382.1 31 rfl)).trans ec75
                        have bat2_378 : (0 : Int) ≤ at2_378 ∧ at2_378 ≤ 3002 := e384 ▸ hW381.1 10
                        have ztk2_379 := tz_b tk2_379
                        have btk2_379 : (0 : Int) ≤ tk2_379 ∧ tk2_379 ≤ 5 := e385 ▸ hW381.1 11
                        have bfk2_380 : (0 : Int) ≤ fk2_380 ∧ fk2_380 ≤ 6 := e386 ▸ hW381.1 16
                        refine .inr ⟨_, rfl, ?_⟩
                        rcases q389 with ⟨a396, a397, a398, a399⟩ | ⟨a400, a401, a402, a403, a404, a405, a406⟩
                        · have _q : True := trivial
                          refine jx_ld (pc' := 96) (l' := jSto1 L 2 (.int (i32 (r377)))) (st' := []) rfl rfl ?_
                          obtain ⟨L407, eL407⟩ : ∃ q, q = jSto1 L 2 (.int (i32 (r377))) := ⟨_, rfl⟩
                          rw [← eL407]
                          have gL407_0 : jGet L407 0 = some (.ref 66) := eL407 ▸ jg_ne (by decide) gL_0 rfl
                          have gL407_1 : jGet L407 1 = some (.int (i32 (many))) := eL407 ▸ jg_ne (by decide) gL_1 rfl
                          have gL407_2 : jGet L407 2 = some (.int (i32 (r377))) := eL407 ▸ jg_eq
                          refine jx_ld (pc' := 97) (l' := L407) (st' := [.ref 66]) rfl (jl_aloadn gL407_0) ?_
                          refine jx_vr (pc' := 100) (as := []) (st := []) rfl rfl rfl rfl ⟨rfl, rfl, Nat.le_of_ble_eq_true rfl⟩ rfl rfl (c_endLine (dd := d) (hd := by omega) (hW := hW381)  (ln := ln1) (e_ln := show G375 9 = ln1 from ((hF382.1 9 rfl).trans ((hF63.1 9 rfl).trans ((hF34.1 9 rfl).trans ((hF7.1 9 rfl).trans (ex_ln1)))))) (li := li) (e_li := show G375 3 = li from ((hF382.1 3 rfl).trans ((hF63.1 3 rfl).trans ((hF34.1 3 rfl).trans ((hF7.1 3 rfl).trans ((hFx.1 3 rfl).trans (e_li))))))) (fk := fk2_380) (e_fk := show G375 16 = fk2_380 from (e386)) (tk0 := tk2_379) (e_tk0 := show G375 11 = tk2_379 from (e385))    (p_0 := by omega)) (fun o V' hq => ?_)
                          obtain ⟨G408, A409, ln2_410, fk2_411, rfl, rfl, hW412, hF413, e414, e415, q416⟩ := hq
                          have hF417 := Fr_tr hF390 hF413 (Fr_sub (by decide)) (Fr_sub (by decide))
                          have hP418 := Pf_f hP391 hF413 (by decide)
                          have hS419 := Fx_f hS392 hF413 (by decide)
                          have hV420 := Fx_f hV393 hF413 (by decide)
                          have sf421 : wB A409 Vs pb (nd) (nd1) (sy) (sy1) := (show A409 = A376 from funext (fun k => hF413.2 k rfl)) ▸ sf394
                          have ec422 : ecn A409 (G408 31) = ec1 := (ecn_f (hF413.2 15 rfl) (hF413.1 31 rfl)).trans ec395
                          have bln2_410 : (0 : Int) ≤ ln2_410 ∧ ln2_410 ≤ 3000 := e414 ▸ hW412.1 9
                          have bfk2_411 : (0 : Int) ≤ fk2_411 ∧ fk2_411 ≤ 6 := e415 ▸ hW412.1 16
                          refine .inl ⟨rfl, ?_⟩
                          rcases q416 with ⟨a423, a424, a425, a426, a427⟩ | ⟨a428, a429⟩
                          · have _q : True := trivial
                            exfalso
                            omega
                          · have _q : True := trivial
                            refine jx_ld (pc' := 101) (l' := L407) (st' := [.ref 66]) rfl (jl_aloadn gL407_0) ?_
                            refine jx_vr (pc' := 104) (as := []) (st := []) rfl rfl rfl rfl ⟨rfl, rfl, Nat.le_of_ble_eq_true rfl⟩ rfl rfl (c_bad (dd := d) (hd := by omega) (hW := hW412)  (fk := fk2_411) (e_fk := show G408 16 = fk2_411 from (e415))    ) (fun o V' hq => ?_)
                            obtain ⟨r430, rfl, rfl, b431, q432⟩ := hq
                            refine .inr ⟨_, rfl, ?_⟩
                            rcases q432 with ⟨rfl, a433⟩ | ⟨rfl, a434⟩
                            · have _q : True := trivial
                              refine jx_if_eq (pc' := 107) (tg := 108) rfl rfl rfl (by decide) (by decide) (fun h435 => ?_) (fun h435 => ?_)
                              · have _q := h435
                                exact absurd h435 (by omega)
                              · have _q := h435
                                refine jx_rt (v := none) rfl rfl rfl rfl rfl rfl ?_
                                exact ⟨_, _, ln2_410, at2_378, fk2_411, nd1, sy1, na1, vi, A 3 (ln2_410).toNat, ec1, rfl, rfl, hW412, hF417, hP418, hS419, hV420, (e414), ((hF413.1 10 rfl).trans (e384)), (e415), ((hF413.1 31 rfl).trans ((hF382.1 31 rfl).trans ((hF63.1 31 rfl).trans ((hF34.1 31 rfl).trans ((hF7.1 31 rfl).trans (ex_nd1)))))), ((hF413.1 19 rfl).trans ((hF382.1 19 rfl).trans ((hF63.1 19 rfl).trans ((hF34.1 19 rfl).trans ((hF7.1 19 rfl).trans (ex_sy1)))))), ((hF413.1 28 rfl).trans ((hF382.1 28 rfl).trans ((hF63.1 28 rfl).trans ((hF34.1 28 rfl).trans ((hF7.1 28 rfl).trans (ex_na1)))))), ((hF413.1 29 rfl).trans ((hF382.1 29 rfl).trans ((hF63.1 29 rfl).trans ((hF34.1 29 rfl).trans ((hF7.1 29 rfl).trans (fx_29)))))), (congrFun ((hF413.2 3 rfl).trans ((hF382.2 3 rfl).trans ((hF63.2 3 rfl).trans ((hF34.2 3 rfl).trans ((hF7.2 3 rfl).trans (hFx.2 3 rfl)))))) _), ec422, by omega, by omega, by omega, by omega, by omega, by omega, by first | exact Or.inl (by omega)⟩
                            · have _q : True := trivial
                              exfalso
                              omega
                        · have _q : True := trivial
                          have pz436 : at2_59 + tz tk2_379 ≤ at2_378 := by omega
                          refine jx_ld (pc' := 96) (l' := jSto1 L 2 (.int (i32 (r377)))) (st' := []) rfl rfl ?_
                          obtain ⟨L437, eL437⟩ : ∃ q, q = jSto1 L 2 (.int (i32 (r377))) := ⟨_, rfl⟩
                          rw [← eL437]
                          have gL437_0 : jGet L437 0 = some (.ref 66) := eL437 ▸ jg_ne (by decide) gL_0 rfl
                          have gL437_1 : jGet L437 1 = some (.int (i32 (many))) := eL437 ▸ jg_ne (by decide) gL_1 rfl
                          have gL437_2 : jGet L437 2 = some (.int (i32 (r377))) := eL437 ▸ jg_eq
                          refine jx_ld (pc' := 97) (l' := L437) (st' := [.ref 66]) rfl (jl_aloadn gL437_0) ?_
                          refine jx_vr (pc' := 100) (as := []) (st := []) rfl rfl rfl rfl ⟨rfl, rfl, Nat.le_of_ble_eq_true rfl⟩ rfl rfl (c_endLine (dd := d) (hd := by omega) (hW := hW381)  (ln := ln1) (e_ln := show G375 9 = ln1 from ((hF382.1 9 rfl).trans ((hF63.1 9 rfl).trans ((hF34.1 9 rfl).trans ((hF7.1 9 rfl).trans (ex_ln1)))))) (li := li) (e_li := show G375 3 = li from ((hF382.1 3 rfl).trans ((hF63.1 3 rfl).trans ((hF34.1 3 rfl).trans ((hF7.1 3 rfl).trans ((hFx.1 3 rfl).trans (e_li))))))) (fk := fk2_380) (e_fk := show G375 16 = fk2_380 from (e386)) (tk0 := tk2_379) (e_tk0 := show G375 11 = tk2_379 from (e385))    (p_0 := by omega)) (fun o V' hq => ?_)
                          obtain ⟨G438, A439, ln2_440, fk2_441, rfl, rfl, hW442, hF443, e444, e445, q446⟩ := hq
                          have hF447 := Fr_tr hF390 hF443 (Fr_sub (by decide)) (Fr_sub (by decide))
                          have hP448 := Pf_f hP391 hF443 (by decide)
                          have hS449 := Fx_f hS392 hF443 (by decide)
                          have hV450 := Fx_f hV393 hF443 (by decide)
                          have sf451 : wB A439 Vs pb (nd) (nd1) (sy) (sy1) := (show A439 = A376 from funext (fun k => hF443.2 k rfl)) ▸ sf394
                          have ec452 : ecn A439 (G438 31) = ec1 := (ecn_f (hF443.2 15 rfl) (hF443.1 31 rfl)).trans ec395
                          have bln2_440 : (0 : Int) ≤ ln2_440 ∧ ln2_440 ≤ 3000 := e444 ▸ hW442.1 9
                          have bfk2_441 : (0 : Int) ≤ fk2_441 ∧ fk2_441 ≤ 6 := e445 ▸ hW442.1 16
                          refine .inl ⟨rfl, ?_⟩
                          rcases q446 with ⟨a453, a454, a455, a456, a457⟩ | ⟨a458, a459⟩
                          · have _q : True := trivial
                            have b460 : (0 : Int) ≤ A 3 (ln2_440).toNat ∧ A 3 (ln2_440).toNat ≤ 3000 := hW.2 3 _
                            have lt461 : ln2_440 < li → A 4 (ln1).toNat < A 3 (ln2_440).toNat := fun hh => LT_nx (LT_ext (((hF443.1 3 rfl).trans ((hF382.1 3 rfl).trans ((hF63.1 3 rfl).trans ((hF34.1 3 rfl).trans ((hF7.1 3 rfl).trans (hFx.1 3 rfl))))))) (((hF443.2 3 rfl).trans ((hF382.2 3 rfl).trans ((hF63.2 3 rfl).trans ((hF34.2 3 rfl).trans ((hF7.2 3 rfl).trans (hFx.2 3 rfl))))))) (((hF443.2 4 rfl).trans ((hF382.2 4 rfl).trans ((hF63.2 4 rfl).trans ((hF34.2 4 rfl).trans ((hF7.2 4 rfl).trans (hFx.2 4 rfl))))))) i_LT) (show G438 3 = li from ((hF443.1 3 rfl).trans ((hF382.1 3 rfl).trans ((hF63.1 3 rfl).trans ((hF34.1 3 rfl).trans ((hF7.1 3 rfl).trans ((hFx.1 3 rfl).trans (e_li)))))))) (show A439 4 (ln1).toNat = A 4 (ln1).toNat from (congrFun ((hF443.2 4 rfl).trans ((hF382.2 4 rfl).trans ((hF63.2 4 rfl).trans ((hF34.2 4 rfl).trans ((hF7.2 4 rfl).trans (hFx.2 4 rfl)))))) _)) (show A439 3 (ln2_440).toNat = A 3 (ln2_440).toNat from (congrFun ((hF443.2 3 rfl).trans ((hF382.2 3 rfl).trans ((hF63.2 3 rfl).trans ((hF34.2 3 rfl).trans ((hF7.2 3 rfl).trans (hFx.2 3 rfl)))))) _)) (show ln2_440 = ln1 + 1 by omega) (by omega) hh
                            refine jx_ld (pc' := 101) (l' := L437) (st' := [.ref 66]) rfl (jl_aloadn gL437_0) ?_
                            refine jx_vr (pc' := 104) (as := []) (st := []) rfl rfl rfl rfl ⟨rfl, rfl, Nat.le_of_ble_eq_true rfl⟩ rfl rfl (c_bad (dd := d) (hd := by omega) (hW := hW442)  (fk := fk2_441) (e_fk := show G438 16 = fk2_441 from (e445))    ) (fun o V' hq => ?_)
                            obtain ⟨r462, rfl, rfl, b463, q464⟩ := hq
                            refine .inr ⟨_, rfl, ?_⟩
                            rcases q464 with ⟨rfl, a465⟩ | ⟨rfl, a466⟩
                            · have _q : True := trivial
                              exfalso
                              omega
                            · have _q : True := trivial
                              refine jx_if_eq (pc' := 107) (tg := 108) rfl rfl rfl (by decide) (by decide) (fun h467 => ?_) (fun h467 => ?_)
                              · have _q := h467
                                refine jx_ld (pc' := 109) (l' := L437) (st' := [.ref 66]) rfl (jl_aloadn gL437_0) ?_
                                refine jr_get (pc' := 112) (i := 55) (v := .ref 103) rfl rfl (by decide) rfl rfl ?_
                                refine jx_ld (pc' := 113) (l' := L437) (st' := [.int (i32 (r377)), .ref 103]) rfl (jl_iloadn gL437_2) ?_
                                refine jx_ld (pc' := 114) (l' := L437) (st' := [.ref 66, .int (i32 (r377)), .ref 103]) rfl (jl_aloadn gL437_0) ?_
                                refine jx_ar (pc' := 115) (st' := [.int (i32 (2)), .ref 66, .int (i32 (r377)), .ref 103]) rfl rfl rfl rfl ?_
                                refine jx_vr (pc' := 118) (as := [.int (i32 (2))]) (st := [.int (i32 (r377)), .ref 103]) rfl rfl rfl rfl ⟨rfl, rfl, Nat.le_of_ble_eq_true rfl⟩ rfl rfl (RPw_all X 18 (dd := d) (hd := by omega) (hW := hW442) (lv := 2) (at0 := at2_378) (ln := ln2_440) (e_ln := show G438 9 = ln2_440 from (e444)) (li := li) (e_li := show G438 3 = li from ((hF443.1 3 rfl).trans ((hF382.1 3 rfl).trans ((hF63.1 3 rfl).trans ((hF34.1 3 rfl).trans ((hF7.1 3 rfl).trans ((hFx.1 3 rfl).trans (e_li)))))))) (fk := fk2_441) (e_fk := show G438 16 = fk2_441 from (e445)) (nd := nd1) (e_nd := show G438 31 = nd1 from ((hF443.1 31 rfl).trans ((hF382.1 31 rfl).trans ((hF63.1 31 rfl).trans ((hF34.1 31 rfl).trans ((hF7.1 31 rfl).trans (ex_nd1))))))) (sy := sy1) (e_sy := show G438 19 = sy1 from ((hF443.1 19 rfl).trans ((hF382.1 19 rfl).trans ((hF63.1 19 rfl).trans ((hF34.1 19 rfl).trans ((hF7.1 19 rfl).trans (ex_sy1))))))) (na := na1) (e_na := show G438 28 = na1 from ((hF443.1 28 rfl).trans ((hF382.1 28 rfl).trans ((hF63.1 28 rfl).trans ((hF34.1 28 rfl).trans ((hF7.1 28 rfl).trans (ex_na1))))))) (vi := vi) (e_vi := show G438 29 = vi from ((hF443.1 29 rfl).trans ((hF382.1 29 rfl).trans ((hF63.1 29 rfl).trans ((hF34.1 29 rfl).trans ((hF7.1 29 rfl).trans (fx_29))))))) (lf := A 3 (ln2_440).toNat) (e_lf := show A439 3 (ln2_440).toNat = A 3 (ln2_440).toNat from (congrFun ((hF443.2 3 rfl).trans ((hF382.2 3 rfl).trans ((hF63.2 3 rfl).trans ((hF34.2 3 rfl).trans ((hF7.2 3 rfl).trans (hFx.2 3 rfl)))))) _)) (ac := at2_378) (e_ac := show G438 10 = at2_378 from ((hF443.1 10 rfl).trans (e384))) (ec := ec1) (e_ec := show ecn A439 (G438 31) = ec1 from ec452) (i_LT := (LT_ext (((hF443.1 3 rfl).trans ((hF382.1 3 rfl).trans ((hF63.1 3 rfl).trans ((hF34.1 3 rfl).trans ((hF7.1 3 rfl).trans (hFx.1 3 rfl))))))) (((hF443.2 3 rfl).trans ((hF382.2 3 rfl).trans ((hF63.2 3 rfl).trans ((hF34.2 3 rfl).trans ((hF7.2 3 rfl).trans (hFx.2 3 rfl))))))) (((hF443.2 4 rfl).trans ((hF382.2 4 rfl).trans ((hF63.2 4 rfl).trans ((hF34.2 4 rfl).trans ((hF7.2 4 rfl).trans (hFx.2 4 rfl))))))) i_LT)) (i_SV := (SV_fx i_SV e_vi (show G438 29 = vi from ((hF443.1 29 rfl).trans ((hF382.1 29 rfl).trans ((hF63.1 29 rfl).trans ((hF34.1 29 rfl).trans ((hF7.1 29 rfl).trans (fx_29))))))) (by omega) hV450)) (i_PQ := (PQ_fx i_PQ hS449 (by omega) (hF447.2 29 rfl) (hF447.2 30 rfl))) (hvb := hvb) (h_lv := ⟨(by decide), (by decide)⟩)  (p_0 := by omega) (p_1 := by omega) (p_2 := by omega) (p_3 := by omega) (p_4 := by omega) (p_5 := by omega) (p_6 := by omega) (p_7 := by omega) (p_8 := by omega) (p_9 := by omega) (p_10 := by omega)) (fun o V' hq => ?_)
                                obtain ⟨G468, A469, r470, ln2_471, at2_472, fk2_473, nd2_474, sy2_475, na2_476, vi2_477, lf2_478, ec2_479, rfl, rfl, hW480, hF481, hQ482, hQ483, hQ484, b485, e486, e487, e488, e489, e490, e491, e492, e493, e494, p495, p496, p497, p498, p499, p500, p501, p502, p503, q504⟩ := hq
                                have hF505 := Fr_tr hF447 hF481 (Fr_sub (by decide)) (Fr_sub (by decide))
                                have hP506 := Pf_tr hP448 hQ482 (by omega)
                                have hS507 := Fx_tr hS449 hQ483 (by omega)
                                have hV508 := Fx_tr hV450 hQ484 (by omega)
                                have sf509 : wB A469 Vs pb (nd) (nd1) (sy) (sy1) := wB_fx (fun k j hk hj => hQ482 k j hk (by omega)) (Fx_su hQ483 (by omega)) (Qg_fx (Fx_f (w := pb) Fx_rf hF481 (by decide)) (by omega)) (hF481.2 36 rfl) (by omega) sf451
                                have bln2_471 : (0 : Int) ≤ ln2_471 ∧ ln2_471 ≤ 3000 := e486 ▸ hW480.1 9
                                have bat2_472 : (0 : Int) ≤ at2_472 ∧ at2_472 ≤ 3002 := e487 ▸ hW480.1 10
                                have bfk2_473 : (0 : Int) ≤ fk2_473 ∧ fk2_473 ≤ 6 := e488 ▸ hW480.1 16
                                have bnd2_474 : (0 : Int) ≤ nd2_474 ∧ nd2_474 ≤ 6999 := e489 ▸ hW480.1 31
                                have bsy2_475 : (0 : Int) ≤ sy2_475 ∧ sy2_475 ≤ 202 := e490 ▸ hW480.1 19
                                have bna2_476 : (0 : Int) ≤ na2_476 ∧ na2_476 ≤ 200 := e491 ▸ hW480.1 28
                                have bvi2_477 : (0 : Int) ≤ vi2_477 ∧ vi2_477 ≤ 202 := e492 ▸ hW480.1 29
                                have blf2_478 : (0 : Int) ≤ lf2_478 ∧ lf2_478 ≤ 3000 := e493 ▸ hW480.2 3 _
                                refine .inr ⟨_, rfl, ?_⟩
                                rcases q504 with ⟨a510, a511⟩ | ⟨a512, a513, a514, a515, a516, a517, a518, a519, a520⟩
                                · have _q : True := trivial
                                  refine jr_st (pc' := 119) (i := 36) (m := 6) (z := r377) (y := r470) rfl (by decide) rfl (by decide) (by omega) (by omega) rfl ?_
                                  have hW522 : Wk G468 (uA A469 36 (r377).toNat (r470)) := Wk_a hW480 (show (-2147483648 : Int) ≤ r470 by omega) (show r470 ≤ (2147483647 : Int) by omega)
                                  have hF523 := Fr_a (z := r470) (k := 36) (n := (r377).toNat) hF505 (by decide)
                                  obtain ⟨A521, eA521⟩ : ∃ q, q = uA A469 36 (r377).toNat (r470) := ⟨_, rfl⟩
                                  rw [← eA521]
                                  rw [← eA521] at hW522 hF523
                                  have q524 : A521 36 (r377).toNat = r470 := by rw [eA521]; exact uA_eq
                                  have hP525 : Pf nd A A521 := eA521 ▸ Pf_n hP506 rfl
                                  have hS526 : Fx sr (sy) A A521 := eA521 ▸ Fx_n hS507 rfl
                                  have hV527 : Fx [14] (vi) A A521 := eA521 ▸ Fx_n hV508 rfl
                                  have ec528 : ecn A521 (G468 31) = ec2_479 := (ecn_e ((congrFun eA521 15).trans (uA_ne (by decide)))).trans e494
                                  refine jx_inc (pc' := 122) (l' := jSto1 L437 1 (.int (i32 ((many + (1)))))) (x := many) rfl gL437_1 (by decide) rfl rfl ?_
                                  obtain ⟨L529, eL529⟩ : ∃ q, q = jSto1 L437 1 (.int (i32 ((many + (1))))) := ⟨_, rfl⟩
                                  rw [← eL529]
                                  have gL529_0 : jGet L529 0 = some (.ref 66) := eL529 ▸ jg_ne (by decide) gL437_0 rfl
                                  have gL529_2 : jGet L529 2 = some (.int (i32 (r377))) := eL529 ▸ jg_ne (by decide) gL437_2 rfl
                                  have gL529_1 : jGet L529 1 = some (.int (i32 ((many + (1))))) := eL529 ▸ jg_eq
                                  refine jx_go (tg := 19) rfl rfl ?_
                                  refine jx_ld (pc' := 20) (l' := L529) (st' := [.ref 66]) rfl (jl_aloadn gL529_0) ?_
                                  refine jx_ar (pc' := 21) (st' := [.int (i32 (0)), .ref 66]) rfl rfl rfl rfl ?_
                                  have b530 : (-1 : Int) ≤ A 5 (ln2_471).toNat ∧ A 5 (ln2_471).toNat ≤ 15 := hW.2 5 _
                                  refine jx_vr (pc' := 24) (as := [.int (i32 (0))]) (st := []) rfl rfl rfl rfl ⟨rfl, rfl, Nat.le_of_ble_eq_true rfl⟩ rfl rfl (c_isBelow (dd := d) (hd := by omega) (hW := hW522) (lv := 0) (ln := ln2_471) (e_ln := show G468 9 = ln2_471 from (e486)) (li := li) (e_li := show G468 3 = li from ((hF481.1 3 rfl).trans ((hF443.1 3 rfl).trans ((hF382.1 3 rfl).trans ((hF63.1 3 rfl).trans ((hF34.1 3 rfl).trans ((hF7.1 3 rfl).trans ((hFx.1 3 rfl).trans (e_li))))))))) (fk := fk2_473) (e_fk := show G468 16 = fk2_473 from (e488)) (ll := A 5 (ln2_471).toNat) (e_ll := show A521 5 (ln2_471).toNat = A 5 (ln2_471).toNat from (congrFun (((congrFun eA521 5).trans (uA_ne (by decide))).trans ((hF481.2 5 rfl).trans ((hF443.2 5 rfl).trans ((hF382.2 5 rfl).trans ((hF63.2 5 rfl).trans ((hF34.2 5 rfl).trans ((hF7.2 5 rfl).trans (hFx.2 5 rfl)))))))) _))  (h_lv := ⟨(by decide), (by decide)⟩)  (p_0 := by omega)) (fun o V' hq => ?_)
                                  obtain ⟨G531, A532, r533, fk2_534, rfl, rfl, hW535, hF536, b537, e538, q539⟩ := hq
                                  have hF540 := Fr_tr hF523 hF536 (Fr_sub (by decide)) (Fr_sub (by decide))
                                  have hP541 := Pf_f hP525 hF536 (by decide)
                                  have hS542 := Fx_f hS526 hF536 (by decide)
                                  have hV543 := Fx_f hV527 hF536 (by decide)
                                  have ec544 : ecn A532 (G531 31) = ec2_479 := (ecn_f (hF536.2 15 rfl) (hF536.1 31 rfl)).trans ec528
                                  have bfk2_534 : (0 : Int) ≤ fk2_534 ∧ fk2_534 ≤ 6 := e538 ▸ hW535.1 16
                                  refine .inr ⟨_, rfl, ?_⟩
                                  rcases q539 with ⟨rfl, a545, a546, a547, a548⟩ | ⟨rfl, a549⟩ | ⟨rfl, a550, a551, a552⟩
                                  · have _q : True := trivial
                                    exfalso
                                    omega
                                  · have _q : True := trivial
                                    refine jx_if_eq (pc' := 27) (tg := 125) rfl rfl rfl (by decide) (by decide) (fun h553 => ?_) (fun h553 => ?_)
                                    · have _q := h553
                                      refine jx_ld (pc' := 126) (l' := L529) (st' := [.ref 66]) rfl (jl_aloadn gL529_0) ?_
                                      refine jx_vr (pc' := 129) (as := []) (st := []) rfl rfl rfl rfl ⟨rfl, rfl, Nat.le_of_ble_eq_true rfl⟩ rfl rfl (c_bad (dd := d) (hd := by omega) (hW := hW535)  (fk := fk2_534) (e_fk := show G531 16 = fk2_534 from (e538))    ) (fun o V' hq => ?_)
                                      obtain ⟨r554, rfl, rfl, b555, q556⟩ := hq
                                      refine .inr ⟨_, rfl, ?_⟩
                                      rcases q556 with ⟨rfl, a557⟩ | ⟨rfl, a558⟩
                                      · have _q : True := trivial
                                        refine jx_if_ne (pc' := 132) (tg := 142) rfl rfl rfl (by decide) (by decide) (fun h559 => ?_) (fun h559 => ?_)
                                        · have _q := h559
                                          refine jx_rt (v := none) rfl rfl rfl rfl rfl rfl ?_
                                          exact ⟨_, _, ln2_471, at2_472, fk2_534, nd2_474, sy2_475, na2_476, vi2_477, lf2_478, ec2_479, rfl, rfl, hW535, hF540, hP541, hS542, hV543, ((hF536.1 9 rfl).trans (e486)), ((hF536.1 10 rfl).trans (e487)), (e538), ((hF536.1 31 rfl).trans (e489)), ((hF536.1 19 rfl).trans (e490)), ((hF536.1 28 rfl).trans (e491)), ((hF536.1 29 rfl).trans (e492)), (congrFun ((hF536.2 3 rfl).trans ((congrFun eA521 3).trans (uA_ne (by decide)))) _).trans (e493), ec544, by omega, by omega, by omega, by omega, by omega, by omega, by first | exact Or.inl (by omega)⟩
                                        · have _q := h559
                                          exact absurd h559 (by omega)
                                      · have _q : True := trivial
                                        exfalso
                                        omega
                                    · have _q := h553
                                      exact absurd h553 (by omega)
                                  · have _q : True := trivial
                                    exfalso
                                    omega
                                · have _q : True := trivial
                                  refine jr_st (pc' := 119) (i := 36) (m := 6) (z := r377) (y := r470) rfl (by decide) rfl (by decide) (by omega) (by omega) rfl ?_
                                  have hW561 : Wk G468 (uA A469 36 (r377).toNat (r470)) := Wk_a hW480 (show (-2147483648 : Int) ≤ r470 by omega) (show r470 ≤ (2147483647 : Int) by omega)
                                  have hF562 := Fr_a (z := r470) (k := 36) (n := (r377).toNat) hF505 (by decide)
                                  obtain ⟨A560, eA560⟩ : ∃ q, q = uA A469 36 (r377).toNat (r470) := ⟨_, rfl⟩
                                  rw [← eA560]
                                  rw [← eA560] at hW561 hF562
                                  have q563 : A560 36 (r377).toNat = r470 := by rw [eA560]; exact uA_eq
                                  have hP564 : Pf nd A A560 := eA560 ▸ Pf_n hP506 rfl
                                  have hS565 : Fx sr (sy) A A560 := eA560 ▸ Fx_n hS507 rfl
                                  have hV566 : Fx [14] (vi) A A560 := eA560 ▸ Fx_n hV508 rfl
                                  have sf567 : wB A560 Vs pb (nd) (nd2_474) (sy) (sy2_475) := wB_add eA560 sf509 (by omega) (by omega) (by rw [show A469 36 (r377).toNat = Ax 36 (r377).toNat from (congrFun ((hF481.2 36 rfl).trans ((hF443.2 36 rfl).trans ((hF382.2 36 rfl).trans ((hF63.2 36 rfl).trans ((hF34.2 36 rfl).trans (hF7.2 36 rfl)))))) _)]; rw [show r377 = G57 13 by omega]; omega) a518 (by omega) (by omega) rfl (by omega) (by omega) (by omega) (by omega) rfl
                                  have sf568 : wP A560 (sy2_475) pb (18) (Vs) (r470) (nd1) (nd2_474) (sy1) (sy2_475) := wP_ag (Sg_ne eA560 rfl) (Qg_ne eA560 rfl) (by omega) (by omega) (Ax_ag (Ag_ne eA560 rfl)) a518
                                  have sf569 : NX A560 (r470) := NX_r eA560 (by decide) a519
                                  have ec570 : ecn A560 (G468 31) = ec2_479 := (ecn_e ((congrFun eA560 15).trans (uA_ne (by decide)))).trans e494
                                  refine jx_inc (pc' := 122) (l' := jSto1 L437 1 (.int (i32 ((many + (1)))))) (x := many) rfl gL437_1 (by decide) rfl rfl ?_
                                  obtain ⟨L571, eL571⟩ : ∃ q, q = jSto1 L437 1 (.int (i32 ((many + (1))))) := ⟨_, rfl⟩
                                  rw [← eL571]
                                  have gL571_0 : jGet L571 0 = some (.ref 66) := eL571 ▸ jg_ne (by decide) gL437_0 rfl
                                  have gL571_2 : jGet L571 2 = some (.int (i32 (r377))) := eL571 ▸ jg_ne (by decide) gL437_2 rfl
                                  have gL571_1 : jGet L571 1 = some (.int (i32 ((many + (1))))) := eL571 ▸ jg_eq
                                  refine jx_go (tg := 19) rfl rfl ?_
                                  exact ih19 _ (by omega) L571 G468 A560 ((many + (1))) (ln2_471) (at2_472) (fk2_473) (nd2_474) (sy2_475) (na2_476) (lf2_478) (ec2_479) rfl gL571_0 gL571_1 hW561 hF562 hP564 hS565 hV566 ((e486)) ((e487)) ((e488)) ((e489)) ((e490)) ((e491)) ((congrFun ((congrFun eA560 3).trans (uA_ne (by decide))) _).trans (e493)) (ec570) (Eq.trans (show G468 29 = vi2_477 from (e492)) (by omega)) (by omega) (by omega) (by omega) (by omega) (by omega) (by omega) (by omega) (by omega) (by omega) (by omega) (by omega) (by omega) (sf567) (by omega)
                              · have _q := h467
                                exact absurd h467 (by omega)
                          · have _q : True := trivial
                            refine jx_ld (pc' := 101) (l' := L437) (st' := [.ref 66]) rfl (jl_aloadn gL437_0) ?_
                            refine jx_vr (pc' := 104) (as := []) (st := []) rfl rfl rfl rfl ⟨rfl, rfl, Nat.le_of_ble_eq_true rfl⟩ rfl rfl (c_bad (dd := d) (hd := by omega) (hW := hW442)  (fk := fk2_441) (e_fk := show G438 16 = fk2_441 from (e445))    ) (fun o V' hq => ?_)
                            obtain ⟨r572, rfl, rfl, b573, q574⟩ := hq
                            refine .inr ⟨_, rfl, ?_⟩
                            rcases q574 with ⟨rfl, a575⟩ | ⟨rfl, a576⟩
                            · have _q : True := trivial
                              refine jx_if_eq (pc' := 107) (tg := 108) rfl rfl rfl (by decide) (by decide) (fun h577 => ?_) (fun h577 => ?_)
                              · have _q := h577
                                exact absurd h577 (by omega)
                              · have _q := h577
                                refine jx_rt (v := none) rfl rfl rfl rfl rfl rfl ?_
                                exact ⟨_, _, ln2_440, at2_378, fk2_441, nd1, sy1, na1, vi, A 3 (ln2_440).toNat, ec1, rfl, rfl, hW442, hF447, hP448, hS449, hV450, (e444), ((hF443.1 10 rfl).trans (e384)), (e445), ((hF443.1 31 rfl).trans ((hF382.1 31 rfl).trans ((hF63.1 31 rfl).trans ((hF34.1 31 rfl).trans ((hF7.1 31 rfl).trans (ex_nd1)))))), ((hF443.1 19 rfl).trans ((hF382.1 19 rfl).trans ((hF63.1 19 rfl).trans ((hF34.1 19 rfl).trans ((hF7.1 19 rfl).trans (ex_sy1)))))), ((hF443.1 28 rfl).trans ((hF382.1 28 rfl).trans ((hF63.1 28 rfl).trans ((hF34.1 28 rfl).trans ((hF7.1 28 rfl).trans (ex_na1)))))), ((hF443.1 29 rfl).trans ((hF382.1 29 rfl).trans ((hF63.1 29 rfl).trans ((hF34.1 29 rfl).trans ((hF7.1 29 rfl).trans (fx_29)))))), (congrFun ((hF443.2 3 rfl).trans ((hF382.2 3 rfl).trans ((hF63.2 3 rfl).trans ((hF34.2 3 rfl).trans ((hF7.2 3 rfl).trans (hFx.2 3 rfl)))))) _), ec452, by omega, by omega, by omega, by omega, by omega, by omega, by first | exact Or.inl (by omega)⟩
                            · have _q : True := trivial
                              exfalso
                              omega
                      · have _q := h374
                        refine jx_ld (pc' := 81) (l' := L) (st' := [.ref 66]) rfl (jl_aloadn gL_0) ?_
                        refine jx_ar (pc' := 82) (st' := [.int (i32 (1)), .ref 66]) rfl rfl rfl rfl ?_
                        refine jx_ld (pc' := 83) (l' := L) (st' := [.ref 66, .int (i32 (1)), .ref 66]) rfl (jl_aloadn gL_0) ?_
                        have b578 : (-3000 : Int) ≤ G57 12 ∧ G57 12 ≤ 3002 := hW62.1 12
                        refine jr_get (pc' := 86) (i := 12) (v := .int (i32 (G57 12))) rfl rfl (by decide) rfl rfl ?_
                        refine jx_vr (pc' := 89) (as := [.int (i32 (1)), .int (i32 (G57 12))]) (st := []) rfl rfl rfl rfl ⟨rfl, rfl, Nat.le_of_ble_eq_true rfl⟩ rfl rfl (c_fail (dd := d) (hd := by omega) (hW := hW62) (kind := 1) (place := G57 12) (fk := fk2_61) (e_fk := show G57 16 = fk2_61 from (e66))  (h_kind := ⟨(by decide), (by decide)⟩) (h_place := ⟨(Int.le_trans (by decide : (-2147483648 : Int) ≤ -3000) b578.1), (Int.le_trans b578.2 (by decide : (3002 : Int) ≤ 2147483647))⟩)  (p_0 := by omega) (p_1 := by omega)) (fun o V' hq => ?_)
                        obtain ⟨G579, A580, fk2_581, rfl, rfl, hW582, hF583, e584, p585, -⟩ := hq
                        have hF587 := Fr_tr hF70 hF583 (Fr_sub (by decide)) (Fr_sub (by decide))
                        have hP588 := Pf_f hP71 hF583 (by decide)
                        have hS589 := Fx_f hS72 hF583 (by decide)
                        have hV590 := Fx_f hV73 hF583 (by decide)
                        have sf591 : wB A580 Vs pb (nd) (nd1) (sy) (sy1) := (show A580 = A58 from funext (fun k => hF583.2 k rfl)) ▸ sf74
                        have ec592 : ecn A580 (G579 31) = ec1 := (ecn_f (hF583.2 15 rfl) (hF583.1 31 rfl)).trans ec75
                        have bfk2_581 : (0 : Int) ≤ fk2_581 ∧ fk2_581 ≤ 6 := e584 ▸ hW582.1 16
                        refine .inl ⟨rfl, ?_⟩
                        refine jx_ld (pc' := 90) (l' := L) (st' := [.ref 66]) rfl (jl_aloadn gL_0) ?_
                        refine jx_ar (pc' := 91) (st' := [.int (i32 (0)), .ref 66]) rfl rfl rfl rfl ?_
                        refine jx_ar (pc' := 92) (st' := [.int (i32 (5)), .int (i32 (0)), .ref 66]) rfl rfl rfl rfl ?_
                        refine jx_vr (pc' := 95) (as := [.int (i32 (0)), .int (i32 (5))]) (st := []) rfl rfl rfl rfl ⟨rfl, rfl, Nat.le_of_ble_eq_true rfl⟩ rfl rfl (c_needNumber2 (dd := d) (hd := by omega) (hW := hW582) (lo := 0) (hi := 5) (ln := ln1) (e_ln := show G579 9 = ln1 from ((hF583.1 9 rfl).trans ((hF63.1 9 rfl).trans ((hF34.1 9 rfl).trans ((hF7.1 9 rfl).trans (ex_ln1)))))) (le := A 4 (ln1).toNat) (e_le := show A580 4 (ln1).toNat = A 4 (ln1).toNat from (congrFun ((hF583.2 4 rfl).trans ((hF63.2 4 rfl).trans ((hF34.2 4 rfl).trans ((hF7.2 4 rfl).trans (hFx.2 4 rfl))))) _)) (at0 := at2_59) (e_at0 := show G579 10 = at2_59 from ((hF583.1 10 rfl).trans (e64))) (fk := fk2_581) (e_fk := show G579 16 = fk2_581 from (e584)) (tk0 := tk2_60) (e_tk0 := show G579 11 = tk2_60 from ((hF583.1 11 rfl).trans (e65))) (tn := G57 13) (e_tn := show G579 13 = G57 13 from (hF583.1 13 rfl))  (h_lo := ⟨(by decide), (by decide)⟩) (h_hi := ⟨(by decide), (by decide)⟩)  (p_0 := by omega)) (fun o V' hq => ?_)
                        obtain ⟨G593, A594, r595, at2_596, tk2_597, fk2_598, rfl, rfl, hW599, hF600, b601, e602, e603, e604, p605, p606, q607⟩ := hq
                        have hF608 := Fr_tr hF587 hF600 (Fr_sub (by decide)) (Fr_sub (by decide))
                        have hP609 := Pf_f hP588 hF600 (by decide)
                        have hS610 := Fx_f hS589 hF600 (by decide)
                        have hV611 := Fx_f hV590 hF600 (by decide)
                        have sf612 : wB A594 Vs pb (nd) (nd1) (sy) (sy1) := (show A594 = A580 from funext (fun k => hF600.2 k rfl)) ▸ sf591
                        have ec613 : ecn A594 (G593 31) = ec1 := (ecn_f (hF600.2 15 rfl) (hF600.1 31 rfl)).trans ec592
                        have bat2_596 : (0 : Int) ≤ at2_596 ∧ at2_596 ≤ 3002 := e602 ▸ hW599.1 10
                        have ztk2_597 := tz_b tk2_597
                        have btk2_597 : (0 : Int) ≤ tk2_597 ∧ tk2_597 ≤ 5 := e603 ▸ hW599.1 11
                        have bfk2_598 : (0 : Int) ≤ fk2_598 ∧ fk2_598 ≤ 6 := e604 ▸ hW599.1 16
                        refine .inr ⟨_, rfl, ?_⟩
                        rcases q607 with ⟨a614, a615, a616, a617⟩ | ⟨a618, a619, a620, a621, a622, a623, a624⟩
                        · have _q : True := trivial
                          refine jx_ld (pc' := 96) (l' := jSto1 L 2 (.int (i32 (r595)))) (st' := []) rfl rfl ?_
                          obtain ⟨L625, eL625⟩ : ∃ q, q = jSto1 L 2 (.int (i32 (r595))) := ⟨_, rfl⟩
                          rw [← eL625]
                          have gL625_0 : jGet L625 0 = some (.ref 66) := eL625 ▸ jg_ne (by decide) gL_0 rfl
                          have gL625_1 : jGet L625 1 = some (.int (i32 (many))) := eL625 ▸ jg_ne (by decide) gL_1 rfl
                          have gL625_2 : jGet L625 2 = some (.int (i32 (r595))) := eL625 ▸ jg_eq
                          refine jx_ld (pc' := 97) (l' := L625) (st' := [.ref 66]) rfl (jl_aloadn gL625_0) ?_
                          refine jx_vr (pc' := 100) (as := []) (st := []) rfl rfl rfl rfl ⟨rfl, rfl, Nat.le_of_ble_eq_true rfl⟩ rfl rfl (c_endLine (dd := d) (hd := by omega) (hW := hW599)  (ln := ln1) (e_ln := show G593 9 = ln1 from ((hF600.1 9 rfl).trans ((hF583.1 9 rfl).trans ((hF63.1 9 rfl).trans ((hF34.1 9 rfl).trans ((hF7.1 9 rfl).trans (ex_ln1))))))) (li := li) (e_li := show G593 3 = li from ((hF600.1 3 rfl).trans ((hF583.1 3 rfl).trans ((hF63.1 3 rfl).trans ((hF34.1 3 rfl).trans ((hF7.1 3 rfl).trans ((hFx.1 3 rfl).trans (e_li)))))))) (fk := fk2_598) (e_fk := show G593 16 = fk2_598 from (e604)) (tk0 := tk2_597) (e_tk0 := show G593 11 = tk2_597 from (e603))    (p_0 := by omega)) (fun o V' hq => ?_)
                          obtain ⟨G626, A627, ln2_628, fk2_629, rfl, rfl, hW630, hF631, e632, e633, q634⟩ := hq
                          have hF635 := Fr_tr hF608 hF631 (Fr_sub (by decide)) (Fr_sub (by decide))
                          have hP636 := Pf_f hP609 hF631 (by decide)
                          have hS637 := Fx_f hS610 hF631 (by decide)
                          have hV638 := Fx_f hV611 hF631 (by decide)
                          have sf639 : wB A627 Vs pb (nd) (nd1) (sy) (sy1) := (show A627 = A594 from funext (fun k => hF631.2 k rfl)) ▸ sf612
                          have ec640 : ecn A627 (G626 31) = ec1 := (ecn_f (hF631.2 15 rfl) (hF631.1 31 rfl)).trans ec613
                          have bln2_628 : (0 : Int) ≤ ln2_628 ∧ ln2_628 ≤ 3000 := e632 ▸ hW630.1 9
                          have bfk2_629 : (0 : Int) ≤ fk2_629 ∧ fk2_629 ≤ 6 := e633 ▸ hW630.1 16
                          refine .inl ⟨rfl, ?_⟩
                          rcases q634 with ⟨a641, a642, a643, a644, a645⟩ | ⟨a646, a647⟩
                          · have _q : True := trivial
                            exfalso
                            omega
                          · have _q : True := trivial
                            refine jx_ld (pc' := 101) (l' := L625) (st' := [.ref 66]) rfl (jl_aloadn gL625_0) ?_
                            refine jx_vr (pc' := 104) (as := []) (st := []) rfl rfl rfl rfl ⟨rfl, rfl, Nat.le_of_ble_eq_true rfl⟩ rfl rfl (c_bad (dd := d) (hd := by omega) (hW := hW630)  (fk := fk2_629) (e_fk := show G626 16 = fk2_629 from (e633))    ) (fun o V' hq => ?_)
                            obtain ⟨r648, rfl, rfl, b649, q650⟩ := hq
                            refine .inr ⟨_, rfl, ?_⟩
                            rcases q650 with ⟨rfl, a651⟩ | ⟨rfl, a652⟩
                            · have _q : True := trivial
                              refine jx_if_eq (pc' := 107) (tg := 108) rfl rfl rfl (by decide) (by decide) (fun h653 => ?_) (fun h653 => ?_)
                              · have _q := h653
                                exact absurd h653 (by omega)
                              · have _q := h653
                                refine jx_rt (v := none) rfl rfl rfl rfl rfl rfl ?_
                                exact ⟨_, _, ln2_628, at2_596, fk2_629, nd1, sy1, na1, vi, A 3 (ln2_628).toNat, ec1, rfl, rfl, hW630, hF635, hP636, hS637, hV638, (e632), ((hF631.1 10 rfl).trans (e602)), (e633), ((hF631.1 31 rfl).trans ((hF600.1 31 rfl).trans ((hF583.1 31 rfl).trans ((hF63.1 31 rfl).trans ((hF34.1 31 rfl).trans ((hF7.1 31 rfl).trans (ex_nd1))))))), ((hF631.1 19 rfl).trans ((hF600.1 19 rfl).trans ((hF583.1 19 rfl).trans ((hF63.1 19 rfl).trans ((hF34.1 19 rfl).trans ((hF7.1 19 rfl).trans (ex_sy1))))))), ((hF631.1 28 rfl).trans ((hF600.1 28 rfl).trans ((hF583.1 28 rfl).trans ((hF63.1 28 rfl).trans ((hF34.1 28 rfl).trans ((hF7.1 28 rfl).trans (ex_na1))))))), ((hF631.1 29 rfl).trans ((hF600.1 29 rfl).trans ((hF583.1 29 rfl).trans ((hF63.1 29 rfl).trans ((hF34.1 29 rfl).trans ((hF7.1 29 rfl).trans (fx_29))))))), (congrFun ((hF631.2 3 rfl).trans ((hF600.2 3 rfl).trans ((hF583.2 3 rfl).trans ((hF63.2 3 rfl).trans ((hF34.2 3 rfl).trans ((hF7.2 3 rfl).trans (hFx.2 3 rfl))))))) _), ec640, by omega, by omega, by omega, by omega, by omega, by omega, by first | exact Or.inl (by omega)⟩
                            · have _q : True := trivial
                              exfalso
                              omega
                        · have _q : True := trivial
                          exfalso
                          omega
                  · have _q : True := trivial
                    refine jx_if_eq (pc' := 68) (tg := 89) rfl rfl rfl (by decide) (by decide) (fun h654 => ?_) (fun h654 => ?_)
                    · have _q := h654
                      refine jx_ld (pc' := 90) (l' := L) (st' := [.ref 66]) rfl (jl_aloadn gL_0) ?_
                      refine jx_ar (pc' := 91) (st' := [.int (i32 (0)), .ref 66]) rfl rfl rfl rfl ?_
                      refine jx_ar (pc' := 92) (st' := [.int (i32 (5)), .int (i32 (0)), .ref 66]) rfl rfl rfl rfl ?_
                      refine jx_vr (pc' := 95) (as := [.int (i32 (0)), .int (i32 (5))]) (st := []) rfl rfl rfl rfl ⟨rfl, rfl, Nat.le_of_ble_eq_true rfl⟩ rfl rfl (c_needNumber2 (dd := d) (hd := by omega) (hW := hW62) (lo := 0) (hi := 5) (ln := ln1) (e_ln := show G57 9 = ln1 from ((hF63.1 9 rfl).trans ((hF34.1 9 rfl).trans ((hF7.1 9 rfl).trans (ex_ln1))))) (le := A 4 (ln1).toNat) (e_le := show A58 4 (ln1).toNat = A 4 (ln1).toNat from (congrFun ((hF63.2 4 rfl).trans ((hF34.2 4 rfl).trans ((hF7.2 4 rfl).trans (hFx.2 4 rfl)))) _)) (at0 := at2_59) (e_at0 := show G57 10 = at2_59 from (e64)) (fk := fk2_61) (e_fk := show G57 16 = fk2_61 from (e66)) (tk0 := tk2_60) (e_tk0 := show G57 11 = tk2_60 from (e65)) (tn := G57 13) (e_tn := show G57 13 = G57 13 from rfl)  (h_lo := ⟨(by decide), (by decide)⟩) (h_hi := ⟨(by decide), (by decide)⟩)  (p_0 := by omega)) (fun o V' hq => ?_)
                      obtain ⟨G655, A656, r657, at2_658, tk2_659, fk2_660, rfl, rfl, hW661, hF662, b663, e664, e665, e666, p667, p668, q669⟩ := hq
                      have hF670 := Fr_tr hF70 hF662 (Fr_sub (by decide)) (Fr_sub (by decide))
                      have hP671 := Pf_f hP71 hF662 (by decide)
                      have hS672 := Fx_f hS72 hF662 (by decide)
                      have hV673 := Fx_f hV73 hF662 (by decide)
                      have sf674 : wB A656 Vs pb (nd) (nd1) (sy) (sy1) := (show A656 = A58 from funext (fun k => hF662.2 k rfl)) ▸ sf74
                      have ec675 : ecn A656 (G655 31) = ec1 := (ecn_f (hF662.2 15 rfl) (hF662.1 31 rfl)).trans ec75
                      have bat2_658 : (0 : Int) ≤ at2_658 ∧ at2_658 ≤ 3002 := e664 ▸ hW661.1 10
                      have ztk2_659 := tz_b tk2_659
                      have btk2_659 : (0 : Int) ≤ tk2_659 ∧ tk2_659 ≤ 5 := e665 ▸ hW661.1 11
                      have bfk2_660 : (0 : Int) ≤ fk2_660 ∧ fk2_660 ≤ 6 := e666 ▸ hW661.1 16
                      refine .inr ⟨_, rfl, ?_⟩
                      rcases q669 with ⟨a676, a677, a678, a679⟩ | ⟨a680, a681, a682, a683, a684, a685, a686⟩
                      · have _q : True := trivial
                        refine jx_ld (pc' := 96) (l' := jSto1 L 2 (.int (i32 (r657)))) (st' := []) rfl rfl ?_
                        obtain ⟨L687, eL687⟩ : ∃ q, q = jSto1 L 2 (.int (i32 (r657))) := ⟨_, rfl⟩
                        rw [← eL687]
                        have gL687_0 : jGet L687 0 = some (.ref 66) := eL687 ▸ jg_ne (by decide) gL_0 rfl
                        have gL687_1 : jGet L687 1 = some (.int (i32 (many))) := eL687 ▸ jg_ne (by decide) gL_1 rfl
                        have gL687_2 : jGet L687 2 = some (.int (i32 (r657))) := eL687 ▸ jg_eq
                        refine jx_ld (pc' := 97) (l' := L687) (st' := [.ref 66]) rfl (jl_aloadn gL687_0) ?_
                        refine jx_vr (pc' := 100) (as := []) (st := []) rfl rfl rfl rfl ⟨rfl, rfl, Nat.le_of_ble_eq_true rfl⟩ rfl rfl (c_endLine (dd := d) (hd := by omega) (hW := hW661)  (ln := ln1) (e_ln := show G655 9 = ln1 from ((hF662.1 9 rfl).trans ((hF63.1 9 rfl).trans ((hF34.1 9 rfl).trans ((hF7.1 9 rfl).trans (ex_ln1)))))) (li := li) (e_li := show G655 3 = li from ((hF662.1 3 rfl).trans ((hF63.1 3 rfl).trans ((hF34.1 3 rfl).trans ((hF7.1 3 rfl).trans ((hFx.1 3 rfl).trans (e_li))))))) (fk := fk2_660) (e_fk := show G655 16 = fk2_660 from (e666)) (tk0 := tk2_659) (e_tk0 := show G655 11 = tk2_659 from (e665))    (p_0 := by omega)) (fun o V' hq => ?_)
                        obtain ⟨G688, A689, ln2_690, fk2_691, rfl, rfl, hW692, hF693, e694, e695, q696⟩ := hq
                        have hF697 := Fr_tr hF670 hF693 (Fr_sub (by decide)) (Fr_sub (by decide))
                        have hP698 := Pf_f hP671 hF693 (by decide)
                        have hS699 := Fx_f hS672 hF693 (by decide)
                        have hV700 := Fx_f hV673 hF693 (by decide)
                        have sf701 : wB A689 Vs pb (nd) (nd1) (sy) (sy1) := (show A689 = A656 from funext (fun k => hF693.2 k rfl)) ▸ sf674
                        have ec702 : ecn A689 (G688 31) = ec1 := (ecn_f (hF693.2 15 rfl) (hF693.1 31 rfl)).trans ec675
                        have bln2_690 : (0 : Int) ≤ ln2_690 ∧ ln2_690 ≤ 3000 := e694 ▸ hW692.1 9
                        have bfk2_691 : (0 : Int) ≤ fk2_691 ∧ fk2_691 ≤ 6 := e695 ▸ hW692.1 16
                        refine .inl ⟨rfl, ?_⟩
                        rcases q696 with ⟨a703, a704, a705, a706, a707⟩ | ⟨a708, a709⟩
                        · have _q : True := trivial
                          exfalso
                          omega
                        · have _q : True := trivial
                          refine jx_ld (pc' := 101) (l' := L687) (st' := [.ref 66]) rfl (jl_aloadn gL687_0) ?_
                          refine jx_vr (pc' := 104) (as := []) (st := []) rfl rfl rfl rfl ⟨rfl, rfl, Nat.le_of_ble_eq_true rfl⟩ rfl rfl (c_bad (dd := d) (hd := by omega) (hW := hW692)  (fk := fk2_691) (e_fk := show G688 16 = fk2_691 from (e695))    ) (fun o V' hq => ?_)
                          obtain ⟨r710, rfl, rfl, b711, q712⟩ := hq
                          refine .inr ⟨_, rfl, ?_⟩
                          rcases q712 with ⟨rfl, a713⟩ | ⟨rfl, a714⟩
                          · have _q : True := trivial
                            refine jx_if_eq (pc' := 107) (tg := 108) rfl rfl rfl (by decide) (by decide) (fun h715 => ?_) (fun h715 => ?_)
                            · have _q := h715
                              exact absurd h715 (by omega)
                            · have _q := h715
                              refine jx_rt (v := none) rfl rfl rfl rfl rfl rfl ?_
                              exact ⟨_, _, ln2_690, at2_658, fk2_691, nd1, sy1, na1, vi, A 3 (ln2_690).toNat, ec1, rfl, rfl, hW692, hF697, hP698, hS699, hV700, (e694), ((hF693.1 10 rfl).trans (e664)), (e695), ((hF693.1 31 rfl).trans ((hF662.1 31 rfl).trans ((hF63.1 31 rfl).trans ((hF34.1 31 rfl).trans ((hF7.1 31 rfl).trans (ex_nd1)))))), ((hF693.1 19 rfl).trans ((hF662.1 19 rfl).trans ((hF63.1 19 rfl).trans ((hF34.1 19 rfl).trans ((hF7.1 19 rfl).trans (ex_sy1)))))), ((hF693.1 28 rfl).trans ((hF662.1 28 rfl).trans ((hF63.1 28 rfl).trans ((hF34.1 28 rfl).trans ((hF7.1 28 rfl).trans (ex_na1)))))), ((hF693.1 29 rfl).trans ((hF662.1 29 rfl).trans ((hF63.1 29 rfl).trans ((hF34.1 29 rfl).trans ((hF7.1 29 rfl).trans (fx_29)))))), (congrFun ((hF693.2 3 rfl).trans ((hF662.2 3 rfl).trans ((hF63.2 3 rfl).trans ((hF34.2 3 rfl).trans ((hF7.2 3 rfl).trans (hFx.2 3 rfl)))))) _), ec702, by omega, by omega, by omega, by omega, by omega, by omega, by first | exact Or.inl (by omega)⟩
                          · have _q : True := trivial
                            exfalso
                            omega
                      · have _q : True := trivial
                        have pz716 : at2_59 + tz tk2_659 ≤ at2_658 := by omega
                        refine jx_ld (pc' := 96) (l' := jSto1 L 2 (.int (i32 (r657)))) (st' := []) rfl rfl ?_
                        obtain ⟨L717, eL717⟩ : ∃ q, q = jSto1 L 2 (.int (i32 (r657))) := ⟨_, rfl⟩
                        rw [← eL717]
                        have gL717_0 : jGet L717 0 = some (.ref 66) := eL717 ▸ jg_ne (by decide) gL_0 rfl
                        have gL717_1 : jGet L717 1 = some (.int (i32 (many))) := eL717 ▸ jg_ne (by decide) gL_1 rfl
                        have gL717_2 : jGet L717 2 = some (.int (i32 (r657))) := eL717 ▸ jg_eq
                        refine jx_ld (pc' := 97) (l' := L717) (st' := [.ref 66]) rfl (jl_aloadn gL717_0) ?_
                        refine jx_vr (pc' := 100) (as := []) (st := []) rfl rfl rfl rfl ⟨rfl, rfl, Nat.le_of_ble_eq_true rfl⟩ rfl rfl (c_endLine (dd := d) (hd := by omega) (hW := hW661)  (ln := ln1) (e_ln := show G655 9 = ln1 from ((hF662.1 9 rfl).trans ((hF63.1 9 rfl).trans ((hF34.1 9 rfl).trans ((hF7.1 9 rfl).trans (ex_ln1)))))) (li := li) (e_li := show G655 3 = li from ((hF662.1 3 rfl).trans ((hF63.1 3 rfl).trans ((hF34.1 3 rfl).trans ((hF7.1 3 rfl).trans ((hFx.1 3 rfl).trans (e_li))))))) (fk := fk2_660) (e_fk := show G655 16 = fk2_660 from (e666)) (tk0 := tk2_659) (e_tk0 := show G655 11 = tk2_659 from (e665))    (p_0 := by omega)) (fun o V' hq => ?_)
                        obtain ⟨G718, A719, ln2_720, fk2_721, rfl, rfl, hW722, hF723, e724, e725, q726⟩ := hq
                        have hF727 := Fr_tr hF670 hF723 (Fr_sub (by decide)) (Fr_sub (by decide))
                        have hP728 := Pf_f hP671 hF723 (by decide)
                        have hS729 := Fx_f hS672 hF723 (by decide)
                        have hV730 := Fx_f hV673 hF723 (by decide)
                        have sf731 : wB A719 Vs pb (nd) (nd1) (sy) (sy1) := (show A719 = A656 from funext (fun k => hF723.2 k rfl)) ▸ sf674
                        have ec732 : ecn A719 (G718 31) = ec1 := (ecn_f (hF723.2 15 rfl) (hF723.1 31 rfl)).trans ec675
                        have bln2_720 : (0 : Int) ≤ ln2_720 ∧ ln2_720 ≤ 3000 := e724 ▸ hW722.1 9
                        have bfk2_721 : (0 : Int) ≤ fk2_721 ∧ fk2_721 ≤ 6 := e725 ▸ hW722.1 16
                        refine .inl ⟨rfl, ?_⟩
                        rcases q726 with ⟨a733, a734, a735, a736, a737⟩ | ⟨a738, a739⟩
                        · have _q : True := trivial
                          have b740 : (0 : Int) ≤ A 3 (ln2_720).toNat ∧ A 3 (ln2_720).toNat ≤ 3000 := hW.2 3 _
                          have lt741 : ln2_720 < li → A 4 (ln1).toNat < A 3 (ln2_720).toNat := fun hh => LT_nx (LT_ext (((hF723.1 3 rfl).trans ((hF662.1 3 rfl).trans ((hF63.1 3 rfl).trans ((hF34.1 3 rfl).trans ((hF7.1 3 rfl).trans (hFx.1 3 rfl))))))) (((hF723.2 3 rfl).trans ((hF662.2 3 rfl).trans ((hF63.2 3 rfl).trans ((hF34.2 3 rfl).trans ((hF7.2 3 rfl).trans (hFx.2 3 rfl))))))) (((hF723.2 4 rfl).trans ((hF662.2 4 rfl).trans ((hF63.2 4 rfl).trans ((hF34.2 4 rfl).trans ((hF7.2 4 rfl).trans (hFx.2 4 rfl))))))) i_LT) (show G718 3 = li from ((hF723.1 3 rfl).trans ((hF662.1 3 rfl).trans ((hF63.1 3 rfl).trans ((hF34.1 3 rfl).trans ((hF7.1 3 rfl).trans ((hFx.1 3 rfl).trans (e_li)))))))) (show A719 4 (ln1).toNat = A 4 (ln1).toNat from (congrFun ((hF723.2 4 rfl).trans ((hF662.2 4 rfl).trans ((hF63.2 4 rfl).trans ((hF34.2 4 rfl).trans ((hF7.2 4 rfl).trans (hFx.2 4 rfl)))))) _)) (show A719 3 (ln2_720).toNat = A 3 (ln2_720).toNat from (congrFun ((hF723.2 3 rfl).trans ((hF662.2 3 rfl).trans ((hF63.2 3 rfl).trans ((hF34.2 3 rfl).trans ((hF7.2 3 rfl).trans (hFx.2 3 rfl)))))) _)) (show ln2_720 = ln1 + 1 by omega) (by omega) hh
                          refine jx_ld (pc' := 101) (l' := L717) (st' := [.ref 66]) rfl (jl_aloadn gL717_0) ?_
                          refine jx_vr (pc' := 104) (as := []) (st := []) rfl rfl rfl rfl ⟨rfl, rfl, Nat.le_of_ble_eq_true rfl⟩ rfl rfl (c_bad (dd := d) (hd := by omega) (hW := hW722)  (fk := fk2_721) (e_fk := show G718 16 = fk2_721 from (e725))    ) (fun o V' hq => ?_)
                          obtain ⟨r742, rfl, rfl, b743, q744⟩ := hq
                          refine .inr ⟨_, rfl, ?_⟩
                          rcases q744 with ⟨rfl, a745⟩ | ⟨rfl, a746⟩
                          · have _q : True := trivial
                            exfalso
                            omega
                          · have _q : True := trivial
                            refine jx_if_eq (pc' := 107) (tg := 108) rfl rfl rfl (by decide) (by decide) (fun h747 => ?_) (fun h747 => ?_)
                            · have _q := h747
                              refine jx_ld (pc' := 109) (l' := L717) (st' := [.ref 66]) rfl (jl_aloadn gL717_0) ?_
                              refine jr_get (pc' := 112) (i := 55) (v := .ref 103) rfl rfl (by decide) rfl rfl ?_
                              refine jx_ld (pc' := 113) (l' := L717) (st' := [.int (i32 (r657)), .ref 103]) rfl (jl_iloadn gL717_2) ?_
                              refine jx_ld (pc' := 114) (l' := L717) (st' := [.ref 66, .int (i32 (r657)), .ref 103]) rfl (jl_aloadn gL717_0) ?_
                              refine jx_ar (pc' := 115) (st' := [.int (i32 (2)), .ref 66, .int (i32 (r657)), .ref 103]) rfl rfl rfl rfl ?_
                              refine jx_vr (pc' := 118) (as := [.int (i32 (2))]) (st := [.int (i32 (r657)), .ref 103]) rfl rfl rfl rfl ⟨rfl, rfl, Nat.le_of_ble_eq_true rfl⟩ rfl rfl (RPw_all X 18 (dd := d) (hd := by omega) (hW := hW722) (lv := 2) (at0 := at2_658) (ln := ln2_720) (e_ln := show G718 9 = ln2_720 from (e724)) (li := li) (e_li := show G718 3 = li from ((hF723.1 3 rfl).trans ((hF662.1 3 rfl).trans ((hF63.1 3 rfl).trans ((hF34.1 3 rfl).trans ((hF7.1 3 rfl).trans ((hFx.1 3 rfl).trans (e_li)))))))) (fk := fk2_721) (e_fk := show G718 16 = fk2_721 from (e725)) (nd := nd1) (e_nd := show G718 31 = nd1 from ((hF723.1 31 rfl).trans ((hF662.1 31 rfl).trans ((hF63.1 31 rfl).trans ((hF34.1 31 rfl).trans ((hF7.1 31 rfl).trans (ex_nd1))))))) (sy := sy1) (e_sy := show G718 19 = sy1 from ((hF723.1 19 rfl).trans ((hF662.1 19 rfl).trans ((hF63.1 19 rfl).trans ((hF34.1 19 rfl).trans ((hF7.1 19 rfl).trans (ex_sy1))))))) (na := na1) (e_na := show G718 28 = na1 from ((hF723.1 28 rfl).trans ((hF662.1 28 rfl).trans ((hF63.1 28 rfl).trans ((hF34.1 28 rfl).trans ((hF7.1 28 rfl).trans (ex_na1))))))) (vi := vi) (e_vi := show G718 29 = vi from ((hF723.1 29 rfl).trans ((hF662.1 29 rfl).trans ((hF63.1 29 rfl).trans ((hF34.1 29 rfl).trans ((hF7.1 29 rfl).trans (fx_29))))))) (lf := A 3 (ln2_720).toNat) (e_lf := show A719 3 (ln2_720).toNat = A 3 (ln2_720).toNat from (congrFun ((hF723.2 3 rfl).trans ((hF662.2 3 rfl).trans ((hF63.2 3 rfl).trans ((hF34.2 3 rfl).trans ((hF7.2 3 rfl).trans (hFx.2 3 rfl)))))) _)) (ac := at2_658) (e_ac := show G718 10 = at2_658 from ((hF723.1 10 rfl).trans (e664))) (ec := ec1) (e_ec := show ecn A719 (G718 31) = ec1 from ec732) (i_LT := (LT_ext (((hF723.1 3 rfl).trans ((hF662.1 3 rfl).trans ((hF63.1 3 rfl).trans ((hF34.1 3 rfl).trans ((hF7.1 3 rfl).trans (hFx.1 3 rfl))))))) (((hF723.2 3 rfl).trans ((hF662.2 3 rfl).trans ((hF63.2 3 rfl).trans ((hF34.2 3 rfl).trans ((hF7.2 3 rfl).trans (hFx.2 3 rfl))))))) (((hF723.2 4 rfl).trans ((hF662.2 4 rfl).trans ((hF63.2 4 rfl).trans ((hF34.2 4 rfl).trans ((hF7.2 4 rfl).trans (hFx.2 4 rfl))))))) i_LT)) (i_SV := (SV_fx i_SV e_vi (show G718 29 = vi from ((hF723.1 29 rfl).trans ((hF662.1 29 rfl).trans ((hF63.1 29 rfl).trans ((hF34.1 29 rfl).trans ((hF7.1 29 rfl).trans (fx_29))))))) (by omega) hV730)) (i_PQ := (PQ_fx i_PQ hS729 (by omega) (hF727.2 29 rfl) (hF727.2 30 rfl))) (hvb := hvb) (h_lv := ⟨(by decide), (by decide)⟩)  (p_0 := by omega) (p_1 := by omega) (p_2 := by omega) (p_3 := by omega) (p_4 := by omega) (p_5 := by omega) (p_6 := by omega) (p_7 := by omega) (p_8 := by omega) (p_9 := by omega) (p_10 := by omega)) (fun o V' hq => ?_)
                              obtain ⟨G748, A749, r750, ln2_751, at2_752, fk2_753, nd2_754, sy2_755, na2_756, vi2_757, lf2_758, ec2_759, rfl, rfl, hW760, hF761, hQ762, hQ763, hQ764, b765, e766, e767, e768, e769, e770, e771, e772, e773, e774, p775, p776, p777, p778, p779, p780, p781, p782, p783, q784⟩ := hq
                              have hF785 := Fr_tr hF727 hF761 (Fr_sub (by decide)) (Fr_sub (by decide))
                              have hP786 := Pf_tr hP728 hQ762 (by omega)
                              have hS787 := Fx_tr hS729 hQ763 (by omega)
                              have hV788 := Fx_tr hV730 hQ764 (by omega)
                              have sf789 : wB A749 Vs pb (nd) (nd1) (sy) (sy1) := wB_fx (fun k j hk hj => hQ762 k j hk (by omega)) (Fx_su hQ763 (by omega)) (Qg_fx (Fx_f (w := pb) Fx_rf hF761 (by decide)) (by omega)) (hF761.2 36 rfl) (by omega) sf731
                              have bln2_751 : (0 : Int) ≤ ln2_751 ∧ ln2_751 ≤ 3000 := e766 ▸ hW760.1 9
                              have bat2_752 : (0 : Int) ≤ at2_752 ∧ at2_752 ≤ 3002 := e767 ▸ hW760.1 10
                              have bfk2_753 : (0 : Int) ≤ fk2_753 ∧ fk2_753 ≤ 6 := e768 ▸ hW760.1 16
                              have bnd2_754 : (0 : Int) ≤ nd2_754 ∧ nd2_754 ≤ 6999 := e769 ▸ hW760.1 31
                              have bsy2_755 : (0 : Int) ≤ sy2_755 ∧ sy2_755 ≤ 202 := e770 ▸ hW760.1 19
                              have bna2_756 : (0 : Int) ≤ na2_756 ∧ na2_756 ≤ 200 := e771 ▸ hW760.1 28
                              have bvi2_757 : (0 : Int) ≤ vi2_757 ∧ vi2_757 ≤ 202 := e772 ▸ hW760.1 29
                              have blf2_758 : (0 : Int) ≤ lf2_758 ∧ lf2_758 ≤ 3000 := e773 ▸ hW760.2 3 _
                              refine .inr ⟨_, rfl, ?_⟩
                              rcases q784 with ⟨a790, a791⟩ | ⟨a792, a793, a794, a795, a796, a797, a798, a799, a800⟩
                              · have _q : True := trivial
                                refine jr_st (pc' := 119) (i := 36) (m := 6) (z := r657) (y := r750) rfl (by decide) rfl (by decide) (by omega) (by omega) rfl ?_
                                have hW802 : Wk G748 (uA A749 36 (r657).toNat (r750)) := Wk_a hW760 (show (-2147483648 : Int) ≤ r750 by omega) (show r750 ≤ (2147483647 : Int) by omega)
                                have hF803 := Fr_a (z := r750) (k := 36) (n := (r657).toNat) hF785 (by decide)
                                obtain ⟨A801, eA801⟩ : ∃ q, q = uA A749 36 (r657).toNat (r750) := ⟨_, rfl⟩
                                rw [← eA801]
                                rw [← eA801] at hW802 hF803
                                have q804 : A801 36 (r657).toNat = r750 := by rw [eA801]; exact uA_eq
                                have hP805 : Pf nd A A801 := eA801 ▸ Pf_n hP786 rfl
                                have hS806 : Fx sr (sy) A A801 := eA801 ▸ Fx_n hS787 rfl
                                have hV807 : Fx [14] (vi) A A801 := eA801 ▸ Fx_n hV788 rfl
                                have ec808 : ecn A801 (G748 31) = ec2_759 := (ecn_e ((congrFun eA801 15).trans (uA_ne (by decide)))).trans e774
                                refine jx_inc (pc' := 122) (l' := jSto1 L717 1 (.int (i32 ((many + (1)))))) (x := many) rfl gL717_1 (by decide) rfl rfl ?_
                                obtain ⟨L809, eL809⟩ : ∃ q, q = jSto1 L717 1 (.int (i32 ((many + (1))))) := ⟨_, rfl⟩
                                rw [← eL809]
                                have gL809_0 : jGet L809 0 = some (.ref 66) := eL809 ▸ jg_ne (by decide) gL717_0 rfl
                                have gL809_2 : jGet L809 2 = some (.int (i32 (r657))) := eL809 ▸ jg_ne (by decide) gL717_2 rfl
                                have gL809_1 : jGet L809 1 = some (.int (i32 ((many + (1))))) := eL809 ▸ jg_eq
                                refine jx_go (tg := 19) rfl rfl ?_
                                refine jx_ld (pc' := 20) (l' := L809) (st' := [.ref 66]) rfl (jl_aloadn gL809_0) ?_
                                refine jx_ar (pc' := 21) (st' := [.int (i32 (0)), .ref 66]) rfl rfl rfl rfl ?_
                                have b810 : (-1 : Int) ≤ A 5 (ln2_751).toNat ∧ A 5 (ln2_751).toNat ≤ 15 := hW.2 5 _
                                refine jx_vr (pc' := 24) (as := [.int (i32 (0))]) (st := []) rfl rfl rfl rfl ⟨rfl, rfl, Nat.le_of_ble_eq_true rfl⟩ rfl rfl (c_isBelow (dd := d) (hd := by omega) (hW := hW802) (lv := 0) (ln := ln2_751) (e_ln := show G748 9 = ln2_751 from (e766)) (li := li) (e_li := show G748 3 = li from ((hF761.1 3 rfl).trans ((hF723.1 3 rfl).trans ((hF662.1 3 rfl).trans ((hF63.1 3 rfl).trans ((hF34.1 3 rfl).trans ((hF7.1 3 rfl).trans ((hFx.1 3 rfl).trans (e_li))))))))) (fk := fk2_753) (e_fk := show G748 16 = fk2_753 from (e768)) (ll := A 5 (ln2_751).toNat) (e_ll := show A801 5 (ln2_751).toNat = A 5 (ln2_751).toNat from (congrFun (((congrFun eA801 5).trans (uA_ne (by decide))).trans ((hF761.2 5 rfl).trans ((hF723.2 5 rfl).trans ((hF662.2 5 rfl).trans ((hF63.2 5 rfl).trans ((hF34.2 5 rfl).trans ((hF7.2 5 rfl).trans (hFx.2 5 rfl)))))))) _))  (h_lv := ⟨(by decide), (by decide)⟩)  (p_0 := by omega)) (fun o V' hq => ?_)
                                obtain ⟨G811, A812, r813, fk2_814, rfl, rfl, hW815, hF816, b817, e818, q819⟩ := hq
                                have hF820 := Fr_tr hF803 hF816 (Fr_sub (by decide)) (Fr_sub (by decide))
                                have hP821 := Pf_f hP805 hF816 (by decide)
                                have hS822 := Fx_f hS806 hF816 (by decide)
                                have hV823 := Fx_f hV807 hF816 (by decide)
                                have ec824 : ecn A812 (G811 31) = ec2_759 := (ecn_f (hF816.2 15 rfl) (hF816.1 31 rfl)).trans ec808
                                have bfk2_814 : (0 : Int) ≤ fk2_814 ∧ fk2_814 ≤ 6 := e818 ▸ hW815.1 16
                                refine .inr ⟨_, rfl, ?_⟩
                                rcases q819 with ⟨rfl, a825, a826, a827, a828⟩ | ⟨rfl, a829⟩ | ⟨rfl, a830, a831, a832⟩
                                · have _q : True := trivial
                                  exfalso
                                  omega
                                · have _q : True := trivial
                                  refine jx_if_eq (pc' := 27) (tg := 125) rfl rfl rfl (by decide) (by decide) (fun h833 => ?_) (fun h833 => ?_)
                                  · have _q := h833
                                    refine jx_ld (pc' := 126) (l' := L809) (st' := [.ref 66]) rfl (jl_aloadn gL809_0) ?_
                                    refine jx_vr (pc' := 129) (as := []) (st := []) rfl rfl rfl rfl ⟨rfl, rfl, Nat.le_of_ble_eq_true rfl⟩ rfl rfl (c_bad (dd := d) (hd := by omega) (hW := hW815)  (fk := fk2_814) (e_fk := show G811 16 = fk2_814 from (e818))    ) (fun o V' hq => ?_)
                                    obtain ⟨r834, rfl, rfl, b835, q836⟩ := hq
                                    refine .inr ⟨_, rfl, ?_⟩
                                    rcases q836 with ⟨rfl, a837⟩ | ⟨rfl, a838⟩
                                    · have _q : True := trivial
                                      refine jx_if_ne (pc' := 132) (tg := 142) rfl rfl rfl (by decide) (by decide) (fun h839 => ?_) (fun h839 => ?_)
                                      · have _q := h839
                                        refine jx_rt (v := none) rfl rfl rfl rfl rfl rfl ?_
                                        exact ⟨_, _, ln2_751, at2_752, fk2_814, nd2_754, sy2_755, na2_756, vi2_757, lf2_758, ec2_759, rfl, rfl, hW815, hF820, hP821, hS822, hV823, ((hF816.1 9 rfl).trans (e766)), ((hF816.1 10 rfl).trans (e767)), (e818), ((hF816.1 31 rfl).trans (e769)), ((hF816.1 19 rfl).trans (e770)), ((hF816.1 28 rfl).trans (e771)), ((hF816.1 29 rfl).trans (e772)), (congrFun ((hF816.2 3 rfl).trans ((congrFun eA801 3).trans (uA_ne (by decide)))) _).trans (e773), ec824, by omega, by omega, by omega, by omega, by omega, by omega, by first | exact Or.inl (by omega)⟩
                                      · have _q := h839
                                        exact absurd h839 (by omega)
                                    · have _q : True := trivial
                                      exfalso
                                      omega
                                  · have _q := h833
                                    exact absurd h833 (by omega)
                                · have _q : True := trivial
                                  exfalso
                                  omega
                              · have _q : True := trivial
                                refine jr_st (pc' := 119) (i := 36) (m := 6) (z := r657) (y := r750) rfl (by decide) rfl (by decide) (by omega) (by omega) rfl ?_
                                have hW841 : Wk G748 (uA A749 36 (r657).toNat (r750)) := Wk_a hW760 (show (-2147483648 : Int) ≤ r750 by omega) (show r750 ≤ (2147483647 : Int) by omega)
                                have hF842 := Fr_a (z := r750) (k := 36) (n := (r657).toNat) hF785 (by decide)
                                obtain ⟨A840, eA840⟩ : ∃ q, q = uA A749 36 (r657).toNat (r750) := ⟨_, rfl⟩
                                rw [← eA840]
                                rw [← eA840] at hW841 hF842
                                have q843 : A840 36 (r657).toNat = r750 := by rw [eA840]; exact uA_eq
                                have hP844 : Pf nd A A840 := eA840 ▸ Pf_n hP786 rfl
                                have hS845 : Fx sr (sy) A A840 := eA840 ▸ Fx_n hS787 rfl
                                have hV846 : Fx [14] (vi) A A840 := eA840 ▸ Fx_n hV788 rfl
                                have sf847 : wB A840 Vs pb (nd) (nd2_754) (sy) (sy2_755) := wB_add eA840 sf789 (by omega) (by omega) (by omega) a798 (by omega) (by omega) rfl (by omega) (by omega) (by omega) (by omega) rfl
                                have sf848 : wP A840 (sy2_755) pb (18) (Vs) (r750) (nd1) (nd2_754) (sy1) (sy2_755) := wP_ag (Sg_ne eA840 rfl) (Qg_ne eA840 rfl) (by omega) (by omega) (Ax_ag (Ag_ne eA840 rfl)) a798
                                have sf849 : NX A840 (r750) := NX_r eA840 (by decide) a799
                                have ec850 : ecn A840 (G748 31) = ec2_759 := (ecn_e ((congrFun eA840 15).trans (uA_ne (by decide)))).trans e774
                                refine jx_inc (pc' := 122) (l' := jSto1 L717 1 (.int (i32 ((many + (1)))))) (x := many) rfl gL717_1 (by decide) rfl rfl ?_
                                obtain ⟨L851, eL851⟩ : ∃ q, q = jSto1 L717 1 (.int (i32 ((many + (1))))) := ⟨_, rfl⟩
                                rw [← eL851]
                                have gL851_0 : jGet L851 0 = some (.ref 66) := eL851 ▸ jg_ne (by decide) gL717_0 rfl
                                have gL851_2 : jGet L851 2 = some (.int (i32 (r657))) := eL851 ▸ jg_ne (by decide) gL717_2 rfl
                                have gL851_1 : jGet L851 1 = some (.int (i32 ((many + (1))))) := eL851 ▸ jg_eq
                                refine jx_go (tg := 19) rfl rfl ?_
                                exact ih19 _ (by omega) L851 G748 A840 ((many + (1))) (ln2_751) (at2_752) (fk2_753) (nd2_754) (sy2_755) (na2_756) (lf2_758) (ec2_759) rfl gL851_0 gL851_1 hW841 hF842 hP844 hS845 hV846 ((e766)) ((e767)) ((e768)) ((e769)) ((e770)) ((e771)) ((congrFun ((congrFun eA840 3).trans (uA_ne (by decide))) _).trans (e773)) (ec850) (Eq.trans (show G748 29 = vi2_757 from (e772)) (by omega)) (by omega) (by omega) (by omega) (by omega) (by omega) (by omega) (by omega) (by omega) (by omega) (by omega) (by omega) (by omega) (sf847) (by omega)
                            · have _q := h747
                              exact absurd h747 (by omega)
                        · have _q : True := trivial
                          refine jx_ld (pc' := 101) (l' := L717) (st' := [.ref 66]) rfl (jl_aloadn gL717_0) ?_
                          refine jx_vr (pc' := 104) (as := []) (st := []) rfl rfl rfl rfl ⟨rfl, rfl, Nat.le_of_ble_eq_true rfl⟩ rfl rfl (c_bad (dd := d) (hd := by omega) (hW := hW722)  (fk := fk2_721) (e_fk := show G718 16 = fk2_721 from (e725))    ) (fun o V' hq => ?_)
                          obtain ⟨r852, rfl, rfl, b853, q854⟩ := hq
                          refine .inr ⟨_, rfl, ?_⟩
                          rcases q854 with ⟨rfl, a855⟩ | ⟨rfl, a856⟩
                          · have _q : True := trivial
                            refine jx_if_eq (pc' := 107) (tg := 108) rfl rfl rfl (by decide) (by decide) (fun h857 => ?_) (fun h857 => ?_)
                            · have _q := h857
                              exact absurd h857 (by omega)
                            · have _q := h857
                              refine jx_rt (v := none) rfl rfl rfl rfl rfl rfl ?_
                              exact ⟨_, _, ln2_720, at2_658, fk2_721, nd1, sy1, na1, vi, A 3 (ln2_720).toNat, ec1, rfl, rfl, hW722, hF727, hP728, hS729, hV730, (e724), ((hF723.1 10 rfl).trans (e664)), (e725), ((hF723.1 31 rfl).trans ((hF662.1 31 rfl).trans ((hF63.1 31 rfl).trans ((hF34.1 31 rfl).trans ((hF7.1 31 rfl).trans (ex_nd1)))))), ((hF723.1 19 rfl).trans ((hF662.1 19 rfl).trans ((hF63.1 19 rfl).trans ((hF34.1 19 rfl).trans ((hF7.1 19 rfl).trans (ex_sy1)))))), ((hF723.1 28 rfl).trans ((hF662.1 28 rfl).trans ((hF63.1 28 rfl).trans ((hF34.1 28 rfl).trans ((hF7.1 28 rfl).trans (ex_na1)))))), ((hF723.1 29 rfl).trans ((hF662.1 29 rfl).trans ((hF63.1 29 rfl).trans ((hF34.1 29 rfl).trans ((hF7.1 29 rfl).trans (fx_29)))))), (congrFun ((hF723.2 3 rfl).trans ((hF662.2 3 rfl).trans ((hF63.2 3 rfl).trans ((hF34.2 3 rfl).trans ((hF7.2 3 rfl).trans (hFx.2 3 rfl)))))) _), ec732, by omega, by omega, by omega, by omega, by omega, by omega, by first | exact Or.inl (by omega)⟩
                          · have _q : True := trivial
                            exfalso
                            omega
                    · have _q := h654
                      exact absurd h654 (by omega)
        · have _q : True := trivial
          refine jx_vr (pc' := 41) (as := [.int (i32 (0))]) (st := []) rfl rfl rfl rfl ⟨rfl, rfl, Nat.le_of_ble_eq_true rfl⟩ rfl rfl (c_need (dd := d) (hd := by omega) (hW := hW33) (g := 0) (ln := ln1) (e_ln := show G28 9 = ln1 from ((hF34.1 9 rfl).trans ((hF7.1 9 rfl).trans (ex_ln1)))) (le := A 4 (ln1).toNat) (e_le := show A29 4 (ln1).toNat = A 4 (ln1).toNat from (congrFun ((hF34.2 4 rfl).trans ((hF7.2 4 rfl).trans (hFx.2 4 rfl))) _)) (at0 := at2_30) (e_at0 := show G28 10 = at2_30 from (e35)) (fk := fk2_5) (e_fk := show G28 16 = fk2_5 from ((hF34.1 16 rfl).trans (e9))) (tk0 := tk2_31) (e_tk0 := show G28 11 = tk2_31 from (e36))  (h_g := ⟨(by decide), (by decide)⟩)  (p_0 := by omega)) (fun o V' hq => ?_)
          obtain ⟨G858, A859, at2_860, tk2_861, fk2_862, rfl, rfl, hW863, hF864, e865, e866, e867, p868, p869, q870⟩ := hq
          have hF871 := Fr_tr hF43 hF864 (Fr_sub (by decide)) (Fr_sub (by decide))
          have hP872 := Pf_f hP44 hF864 (by decide)
          have hS873 := Fx_f hS45 hF864 (by decide)
          have hV874 := Fx_f hV46 hF864 (by decide)
          have sf875 : wB A859 Vs pb (nd) (nd1) (sy) (sy1) := (show A859 = A29 from funext (fun k => hF864.2 k rfl)) ▸ sf47
          have ec876 : ecn A859 (G858 31) = ec1 := (ecn_f (hF864.2 15 rfl) (hF864.1 31 rfl)).trans ec48
          have bat2_860 : (0 : Int) ≤ at2_860 ∧ at2_860 ≤ 3002 := e865 ▸ hW863.1 10
          have ztk2_861 := tz_b tk2_861
          have btk2_861 : (0 : Int) ≤ tk2_861 ∧ tk2_861 ≤ 5 := e866 ▸ hW863.1 11
          have bfk2_862 : (0 : Int) ≤ fk2_862 ∧ fk2_862 ≤ 6 := e867 ▸ hW863.1 16
          refine .inl ⟨rfl, ?_⟩
          rcases q870 with ⟨a877, a878, a879, a880⟩ | ⟨a881, a882, a883, a884⟩
          · have _q : True := trivial
            refine jx_ld (pc' := 42) (l' := L) (st' := [.ref 66]) rfl (jl_aloadn gL_0) ?_
            refine jx_vr (pc' := 45) (as := []) (st := []) rfl rfl rfl rfl ⟨rfl, rfl, Nat.le_of_ble_eq_true rfl⟩ rfl rfl (c_bad (dd := d) (hd := by omega) (hW := hW863)  (fk := fk2_862) (e_fk := show G858 16 = fk2_862 from (e867))    ) (fun o V' hq => ?_)
            obtain ⟨r885, rfl, rfl, b886, q887⟩ := hq
            refine .inr ⟨_, rfl, ?_⟩
            rcases q887 with ⟨rfl, a888⟩ | ⟨rfl, a889⟩
            · have _q : True := trivial
              refine jx_if_ne (pc' := 48) (tg := 89) rfl rfl rfl (by decide) (by decide) (fun h890 => ?_) (fun h890 => ?_)
              · have _q := h890
                refine jx_ld (pc' := 90) (l' := L) (st' := [.ref 66]) rfl (jl_aloadn gL_0) ?_
                refine jx_ar (pc' := 91) (st' := [.int (i32 (0)), .ref 66]) rfl rfl rfl rfl ?_
                refine jx_ar (pc' := 92) (st' := [.int (i32 (5)), .int (i32 (0)), .ref 66]) rfl rfl rfl rfl ?_
                have b891 : (-2147483648 : Int) ≤ G858 13 ∧ G858 13 ≤ 2147483647 := hW863.1 13
                refine jx_vr (pc' := 95) (as := [.int (i32 (0)), .int (i32 (5))]) (st := []) rfl rfl rfl rfl ⟨rfl, rfl, Nat.le_of_ble_eq_true rfl⟩ rfl rfl (c_needNumber2 (dd := d) (hd := by omega) (hW := hW863) (lo := 0) (hi := 5) (ln := ln1) (e_ln := show G858 9 = ln1 from ((hF864.1 9 rfl).trans ((hF34.1 9 rfl).trans ((hF7.1 9 rfl).trans (ex_ln1))))) (le := A 4 (ln1).toNat) (e_le := show A859 4 (ln1).toNat = A 4 (ln1).toNat from (congrFun ((hF864.2 4 rfl).trans ((hF34.2 4 rfl).trans ((hF7.2 4 rfl).trans (hFx.2 4 rfl)))) _)) (at0 := at2_860) (e_at0 := show G858 10 = at2_860 from (e865)) (fk := fk2_862) (e_fk := show G858 16 = fk2_862 from (e867)) (tk0 := tk2_861) (e_tk0 := show G858 11 = tk2_861 from (e866)) (tn := G858 13) (e_tn := show G858 13 = G858 13 from rfl)  (h_lo := ⟨(by decide), (by decide)⟩) (h_hi := ⟨(by decide), (by decide)⟩)  (p_0 := by omega)) (fun o V' hq => ?_)
                obtain ⟨G892, A893, r894, at2_895, tk2_896, fk2_897, rfl, rfl, hW898, hF899, b900, e901, e902, e903, p904, p905, q906⟩ := hq
                have hF907 := Fr_tr hF871 hF899 (Fr_sub (by decide)) (Fr_sub (by decide))
                have hP908 := Pf_f hP872 hF899 (by decide)
                have hS909 := Fx_f hS873 hF899 (by decide)
                have hV910 := Fx_f hV874 hF899 (by decide)
                have sf911 : wB A893 Vs pb (nd) (nd1) (sy) (sy1) := (show A893 = A859 from funext (fun k => hF899.2 k rfl)) ▸ sf875
                have ec912 : ecn A893 (G892 31) = ec1 := (ecn_f (hF899.2 15 rfl) (hF899.1 31 rfl)).trans ec876
                have bat2_895 : (0 : Int) ≤ at2_895 ∧ at2_895 ≤ 3002 := e901 ▸ hW898.1 10
                have ztk2_896 := tz_b tk2_896
                have btk2_896 : (0 : Int) ≤ tk2_896 ∧ tk2_896 ≤ 5 := e902 ▸ hW898.1 11
                have bfk2_897 : (0 : Int) ≤ fk2_897 ∧ fk2_897 ≤ 6 := e903 ▸ hW898.1 16
                refine .inr ⟨_, rfl, ?_⟩
                rcases q906 with ⟨a913, a914, a915, a916⟩ | ⟨a917, a918, a919, a920, a921, a922, a923⟩
                · have _q : True := trivial
                  refine jx_ld (pc' := 96) (l' := jSto1 L 2 (.int (i32 (r894)))) (st' := []) rfl rfl ?_
                  obtain ⟨L924, eL924⟩ : ∃ q, q = jSto1 L 2 (.int (i32 (r894))) := ⟨_, rfl⟩
                  rw [← eL924]
                  have gL924_0 : jGet L924 0 = some (.ref 66) := eL924 ▸ jg_ne (by decide) gL_0 rfl
                  have gL924_1 : jGet L924 1 = some (.int (i32 (many))) := eL924 ▸ jg_ne (by decide) gL_1 rfl
                  have gL924_2 : jGet L924 2 = some (.int (i32 (r894))) := eL924 ▸ jg_eq
                  refine jx_ld (pc' := 97) (l' := L924) (st' := [.ref 66]) rfl (jl_aloadn gL924_0) ?_
                  refine jx_vr (pc' := 100) (as := []) (st := []) rfl rfl rfl rfl ⟨rfl, rfl, Nat.le_of_ble_eq_true rfl⟩ rfl rfl (c_endLine (dd := d) (hd := by omega) (hW := hW898)  (ln := ln1) (e_ln := show G892 9 = ln1 from ((hF899.1 9 rfl).trans ((hF864.1 9 rfl).trans ((hF34.1 9 rfl).trans ((hF7.1 9 rfl).trans (ex_ln1)))))) (li := li) (e_li := show G892 3 = li from ((hF899.1 3 rfl).trans ((hF864.1 3 rfl).trans ((hF34.1 3 rfl).trans ((hF7.1 3 rfl).trans ((hFx.1 3 rfl).trans (e_li))))))) (fk := fk2_897) (e_fk := show G892 16 = fk2_897 from (e903)) (tk0 := tk2_896) (e_tk0 := show G892 11 = tk2_896 from (e902))    (p_0 := by omega)) (fun o V' hq => ?_)
                  obtain ⟨G925, A926, ln2_927, fk2_928, rfl, rfl, hW929, hF930, e931, e932, q933⟩ := hq
                  have hF934 := Fr_tr hF907 hF930 (Fr_sub (by decide)) (Fr_sub (by decide))
                  have hP935 := Pf_f hP908 hF930 (by decide)
                  have hS936 := Fx_f hS909 hF930 (by decide)
                  have hV937 := Fx_f hV910 hF930 (by decide)
                  have sf938 : wB A926 Vs pb (nd) (nd1) (sy) (sy1) := (show A926 = A893 from funext (fun k => hF930.2 k rfl)) ▸ sf911
                  have ec939 : ecn A926 (G925 31) = ec1 := (ecn_f (hF930.2 15 rfl) (hF930.1 31 rfl)).trans ec912
                  have bln2_927 : (0 : Int) ≤ ln2_927 ∧ ln2_927 ≤ 3000 := e931 ▸ hW929.1 9
                  have bfk2_928 : (0 : Int) ≤ fk2_928 ∧ fk2_928 ≤ 6 := e932 ▸ hW929.1 16
                  refine .inl ⟨rfl, ?_⟩
                  rcases q933 with ⟨a940, a941, a942, a943, a944⟩ | ⟨a945, a946⟩
                  · have _q : True := trivial
                    exfalso
                    omega
                  · have _q : True := trivial
                    refine jx_ld (pc' := 101) (l' := L924) (st' := [.ref 66]) rfl (jl_aloadn gL924_0) ?_
                    refine jx_vr (pc' := 104) (as := []) (st := []) rfl rfl rfl rfl ⟨rfl, rfl, Nat.le_of_ble_eq_true rfl⟩ rfl rfl (c_bad (dd := d) (hd := by omega) (hW := hW929)  (fk := fk2_928) (e_fk := show G925 16 = fk2_928 from (e932))    ) (fun o V' hq => ?_)
                    obtain ⟨r947, rfl, rfl, b948, q949⟩ := hq
                    refine .inr ⟨_, rfl, ?_⟩
                    rcases q949 with ⟨rfl, a950⟩ | ⟨rfl, a951⟩
                    · have _q : True := trivial
                      refine jx_if_eq (pc' := 107) (tg := 108) rfl rfl rfl (by decide) (by decide) (fun h952 => ?_) (fun h952 => ?_)
                      · have _q := h952
                        exact absurd h952 (by omega)
                      · have _q := h952
                        refine jx_rt (v := none) rfl rfl rfl rfl rfl rfl ?_
                        exact ⟨_, _, ln2_927, at2_895, fk2_928, nd1, sy1, na1, vi, A 3 (ln2_927).toNat, ec1, rfl, rfl, hW929, hF934, hP935, hS936, hV937, (e931), ((hF930.1 10 rfl).trans (e901)), (e932), ((hF930.1 31 rfl).trans ((hF899.1 31 rfl).trans ((hF864.1 31 rfl).trans ((hF34.1 31 rfl).trans ((hF7.1 31 rfl).trans (ex_nd1)))))), ((hF930.1 19 rfl).trans ((hF899.1 19 rfl).trans ((hF864.1 19 rfl).trans ((hF34.1 19 rfl).trans ((hF7.1 19 rfl).trans (ex_sy1)))))), ((hF930.1 28 rfl).trans ((hF899.1 28 rfl).trans ((hF864.1 28 rfl).trans ((hF34.1 28 rfl).trans ((hF7.1 28 rfl).trans (ex_na1)))))), ((hF930.1 29 rfl).trans ((hF899.1 29 rfl).trans ((hF864.1 29 rfl).trans ((hF34.1 29 rfl).trans ((hF7.1 29 rfl).trans (fx_29)))))), (congrFun ((hF930.2 3 rfl).trans ((hF899.2 3 rfl).trans ((hF864.2 3 rfl).trans ((hF34.2 3 rfl).trans ((hF7.2 3 rfl).trans (hFx.2 3 rfl)))))) _), ec939, by omega, by omega, by omega, by omega, by omega, by omega, by first | exact Or.inl (by omega)⟩
                    · have _q : True := trivial
                      exfalso
                      omega
                · have _q : True := trivial
                  exfalso
                  omega
              · have _q := h890
                exact absurd h890 (by omega)
            · have _q : True := trivial
              exfalso
              omega
          · have _q : True := trivial
            exfalso
            omega
    · have _q : True := trivial
      refine jx_if_eq (pc' := 27) (tg := 125) rfl rfl rfl (by decide) (by decide) (fun h953 => ?_) (fun h953 => ?_)
      · have _q := h953
        refine jx_ld (pc' := 126) (l' := L) (st' := [.ref 66]) rfl (jl_aloadn gL_0) ?_
        refine jx_vr (pc' := 129) (as := []) (st := []) rfl rfl rfl rfl ⟨rfl, rfl, Nat.le_of_ble_eq_true rfl⟩ rfl rfl (c_bad (dd := d) (hd := by omega) (hW := hW6)  (fk := fk2_5) (e_fk := show G2 16 = fk2_5 from (e9))    ) (fun o V' hq => ?_)
        obtain ⟨r954, rfl, rfl, b955, q956⟩ := hq
        refine .inr ⟨_, rfl, ?_⟩
        rcases q956 with ⟨rfl, a957⟩ | ⟨rfl, a958⟩
        · have _q : True := trivial
          refine jx_if_ne (pc' := 132) (tg := 142) rfl rfl rfl (by decide) (by decide) (fun h959 => ?_) (fun h959 => ?_)
          · have _q := h959
            refine jx_rt (v := none) rfl rfl rfl rfl rfl rfl ?_
            exact ⟨_, _, ln1, at1, fk2_5, nd1, sy1, na1, vi, lf1, ec1, rfl, rfl, hW6, hF11, hP12, hS13, hV14, ((hF7.1 9 rfl).trans (ex_ln1)), ((hF7.1 10 rfl).trans (ex_at1)), (e9), ((hF7.1 31 rfl).trans (ex_nd1)), ((hF7.1 19 rfl).trans (ex_sy1)), ((hF7.1 28 rfl).trans (ex_na1)), ((hF7.1 29 rfl).trans (fx_29)), (congrFun (hF7.2 3 rfl) _).trans (ex_lf1), ec16, by omega, by omega, by omega, by omega, by omega, by omega, by first | exact Or.inl (by omega)⟩
          · have _q := h959
            exact absurd h959 (by omega)
        · have _q : True := trivial
          exfalso
          omega
      · have _q := h953
        exact absurd h953 (by omega)
    · have _q : True := trivial
      refine jx_if_eq (pc' := 27) (tg := 125) rfl rfl rfl (by decide) (by decide) (fun h960 => ?_) (fun h960 => ?_)
      · have _q := h960
        refine jx_ld (pc' := 126) (l' := L) (st' := [.ref 66]) rfl (jl_aloadn gL_0) ?_
        refine jx_vr (pc' := 129) (as := []) (st := []) rfl rfl rfl rfl ⟨rfl, rfl, Nat.le_of_ble_eq_true rfl⟩ rfl rfl (c_bad (dd := d) (hd := by omega) (hW := hW6)  (fk := fk2_5) (e_fk := show G2 16 = fk2_5 from (e9))    ) (fun o V' hq => ?_)
        obtain ⟨r961, rfl, rfl, b962, q963⟩ := hq
        refine .inr ⟨_, rfl, ?_⟩
        rcases q963 with ⟨rfl, a964⟩ | ⟨rfl, a965⟩
        · have _q : True := trivial
          exfalso
          omega
        · have _q : True := trivial
          refine jx_if_ne (pc' := 132) (tg := 142) rfl rfl rfl (by decide) (by decide) (fun h966 => ?_) (fun h966 => ?_)
          · have _q := h966
            exact absurd h966 (by omega)
          · have _q := h966
            refine jx_ld (pc' := 133) (l' := L) (st' := [.int (i32 (many))]) rfl (jl_iloadn gL_1) ?_
            refine jx_if_ne (pc' := 136) (tg := 142) rfl rfl rfl (Int.le_trans (by decide : (-2147483648 : Int) ≤ -2147483648) rx_many.1) (Int.le_trans rx_many.2 (by decide : (2147483647 : Int) ≤ 2147483647)) (fun h967 => ?_) (fun h967 => ?_)
            · have _q := h967
              refine jx_rt (v := none) rfl rfl rfl rfl rfl rfl ?_
              exact ⟨_, _, ln1, at1, fk2_5, nd1, sy1, na1, vi, lf1, ec1, rfl, rfl, hW6, hF11, hP12, hS13, hV14, ((hF7.1 9 rfl).trans (ex_ln1)), ((hF7.1 10 rfl).trans (ex_at1)), (e9), ((hF7.1 31 rfl).trans (ex_nd1)), ((hF7.1 19 rfl).trans (ex_sy1)), ((hF7.1 28 rfl).trans (ex_na1)), ((hF7.1 29 rfl).trans (fx_29)), (congrFun (hF7.2 3 rfl) _).trans (ex_lf1), ec16, by omega, by omega, by omega, by omega, by omega, by omega, by first | exact Or.inr ((⟨by omega, sf15, by omega⟩))⟩
            · have _q := h967
              refine jx_ld (pc' := 137) (l' := L) (st' := [.ref 66]) rfl (jl_aloadn gL_0) ?_
              refine jx_ar (pc' := 138) (st' := [.int (i32 (1)), .ref 66]) rfl rfl rfl rfl ?_
              refine jx_vr (pc' := 141) (as := [.int (i32 (1))]) (st := []) rfl rfl rfl rfl ⟨rfl, rfl, Nat.le_of_ble_eq_true rfl⟩ rfl rfl (c_needLevel (dd := d) (hd := by omega) (hW := hW6) (lv := 1) (ln := ln1) (e_ln := show G2 9 = ln1 from ((hF7.1 9 rfl).trans (ex_ln1))) (li := li) (e_li := show G2 3 = li from ((hF7.1 3 rfl).trans ((hFx.1 3 rfl).trans (e_li)))) (fk := fk2_5) (e_fk := show G2 16 = fk2_5 from (e9)) (ll := A 5 (ln1).toNat) (e_ll := show A3 5 (ln1).toNat = A 5 (ln1).toNat from (congrFun ((hF7.2 5 rfl).trans (hFx.2 5 rfl)) _))  (h_lv := ⟨(by decide), (by decide)⟩)  ) (fun o V' hq => ?_)
              obtain ⟨G968, A969, r970, fk2_971, rfl, rfl, hW972, hF973, b974, e975, q976⟩ := hq
              have hF977 := Fr_tr hF11 hF973 (Fr_sub (by decide)) (Fr_sub (by decide))
              have hP978 := Pf_f hP12 hF973 (by decide)
              have hS979 := Fx_f hS13 hF973 (by decide)
              have hV980 := Fx_f hV14 hF973 (by decide)
              have sf981 : wB A969 Vs pb (nd) (nd1) (sy) (sy1) := (show A969 = A3 from funext (fun k => hF973.2 k rfl)) ▸ sf15
              have ec982 : ecn A969 (G968 31) = ec1 := (ecn_f (hF973.2 15 rfl) (hF973.1 31 rfl)).trans ec16
              have bfk2_971 : (0 : Int) ≤ fk2_971 ∧ fk2_971 ≤ 6 := e975 ▸ hW972.1 16
              refine .inr ⟨_, rfl, ?_⟩
              rcases q976 with ⟨rfl, a983, a984, a985, a986⟩ | ⟨rfl, a987⟩
              · have _q : True := trivial
                have b988 : (0 : Int) ≤ A 4 (ln1).toNat ∧ A 4 (ln1).toNat ≤ 3000 := hW.2 4 _
                have lt989 : lf1 < A 4 (ln1).toNat := LT_at (LT_ext (((hF973.1 3 rfl).trans ((hF7.1 3 rfl).trans (hFx.1 3 rfl)))) (((hF973.2 3 rfl).trans ((hF7.2 3 rfl).trans (hFx.2 3 rfl)))) (((hF973.2 4 rfl).trans ((hF7.2 4 rfl).trans (hFx.2 4 rfl)))) i_LT) (show G968 3 = li from ((hF973.1 3 rfl).trans ((hF7.1 3 rfl).trans ((hFx.1 3 rfl).trans (e_li))))) (show A969 3 (ln1).toNat = lf1 from (congrFun ((hF973.2 3 rfl).trans (hF7.2 3 rfl)) _).trans (ex_lf1)) (show A969 4 (ln1).toNat = A 4 (ln1).toNat from (congrFun ((hF973.2 4 rfl).trans ((hF7.2 4 rfl).trans (hFx.2 4 rfl))) _)) (by omega) (by omega)
                refine jx_ar (pc' := 142) (st' := []) rfl rfl rfl rfl ?_
                refine jx_rt (v := none) rfl rfl rfl rfl rfl rfl ?_
                exact ⟨_, _, ln1, at1, fk2_971, nd1, sy1, na1, vi, lf1, ec1, rfl, rfl, hW972, hF977, hP978, hS979, hV980, ((hF973.1 9 rfl).trans ((hF7.1 9 rfl).trans (ex_ln1))), ((hF973.1 10 rfl).trans ((hF7.1 10 rfl).trans (ex_at1))), (e975), ((hF973.1 31 rfl).trans ((hF7.1 31 rfl).trans (ex_nd1))), ((hF973.1 19 rfl).trans ((hF7.1 19 rfl).trans (ex_sy1))), ((hF973.1 28 rfl).trans ((hF7.1 28 rfl).trans (ex_na1))), ((hF973.1 29 rfl).trans ((hF7.1 29 rfl).trans (fx_29))), (congrFun ((hF973.2 3 rfl).trans (hF7.2 3 rfl)) _).trans (ex_lf1), ec982, by omega, by omega, by omega, by omega, by omega, by omega, by first | exact Or.inr ((⟨by omega, sf981, by omega⟩))⟩
              · have _q : True := trivial
                refine jx_ar (pc' := 142) (st' := []) rfl rfl rfl rfl ?_
                refine jx_rt (v := none) rfl rfl rfl rfl rfl rfl ?_
                exact ⟨_, _, ln1, at1, fk2_971, nd1, sy1, na1, vi, lf1, ec1, rfl, rfl, hW972, hF977, hP978, hS979, hV980, ((hF973.1 9 rfl).trans ((hF7.1 9 rfl).trans (ex_ln1))), ((hF973.1 10 rfl).trans ((hF7.1 10 rfl).trans (ex_at1))), (e975), ((hF973.1 31 rfl).trans ((hF7.1 31 rfl).trans (ex_nd1))), ((hF973.1 19 rfl).trans ((hF7.1 19 rfl).trans (ex_sy1))), ((hF973.1 28 rfl).trans ((hF7.1 28 rfl).trans (ex_na1))), ((hF973.1 29 rfl).trans ((hF7.1 29 rfl).trans (fx_29))), (congrFun ((hF973.2 3 rfl).trans (hF7.2 3 rfl)) _).trans (ex_lf1), ec982, by omega, by omega, by omega, by omega, by omega, by omega, by first | exact Or.inl (by omega)⟩
      · have _q := h960
        exact absurd h960 (by omega)
set_option maxRecDepth 20000 in
set_option maxHeartbeats 4000000 in
theorem c_readPlaced_w {X : jX} {dd : Nat} {Vs : Nat → Prop} {sb pb : Int} (hvb : VB Vs sb) {c0 c1 : jC} {G : Nat → Int} {A : Nat → Nat → Int} {T : jH} {ln li at0 fk nd sy na vi le op0 tk0 ec : Int} (hd : 8 * 18 + 81 ≤ dd) (hW : Wk G A) (e_ln : G 9 = ln) (e_li : G 3 = li) (e_at0 : G 10 = at0) (e_fk : G 16 = fk) (e_nd : G 31 = nd) (e_sy : G 19 = sy) (e_na : G 28 = na) (e_vi : G 29 = vi) (e_le : A 4 (ln).toNat = le) (e_op0 : G 15 = op0) (e_tk0 : G 11 = tk0) (e_ec : ecn A (G 31) = ec) (i_LT : LT G A) (i_SV : SV Vs sb G A) (i_PQ : PQ Vs sb pb G A) (p_0 : fk = 0) (p_1 : 1 ≤ nd) (p_2 : ln < li) (p_3 : at0 ≤ le) (p_4 : nd ≤ 2 * at0 - tz tk0 + 30) (p_5 : sy ≤ na + 2) (p_6 : vi ≤ sy) (p_7 : sb ≤ sy) (p_8 : PZ A) (p_9 : nd + 5 * ec ≤ 2 * at0 - tz tk0 + 30) : wk X dd 311 [.ref 66] (rV c0 c1 G A T) (fun o V' => ∃ (G' : Nat → Int) (A' : Nat → Nat → Int) (ln2 : Int) (at2 : Int) (fk2 : Int) (nd2 : Int) (sy2 : Int) (na2 : Int) (vi2 : Int) (lf2 : Int) (ec2 : Int), V' = rV c0 c1 G' A' T ∧ o = .inl none ∧ Wk G' A' ∧ Fr [9, 10, 11, 12, 13, 14, 15, 16, 17, 18, 19, 28, 29, 31] [6, 7, 8, 9, 10, 11, 12, 14, 15, 16, 17, 18, 19, 20, 21, 22, 23, 24, 28, 36] G A G' A' ∧ Pf nd A A' ∧ Fx sr (sy) A A' ∧ Fx [14] (vi) A A' ∧ G' 9 = ln2 ∧ G' 10 = at2 ∧ G' 16 = fk2 ∧ G' 31 = nd2 ∧ G' 19 = sy2 ∧ G' 28 = na2 ∧ G' 29 = vi2 ∧ A' 3 (ln2).toNat = lf2 ∧ ecn A' (G' 31) = ec2 ∧ (nd ≤ nd2) ∧ (sy ≤ sy2) ∧ (sy2 ≤ na2 + 2) ∧ (vi2 = vi) ∧ (ln ≤ ln2) ∧ (ln2 ≤ li) ∧ (((1 ≤ fk2)) ∨ ((fk2 = 0) ∧ (wB A' Vs pb (nd) (nd2) (sy) (sy2)) ∧ (nd2 + 5 * ec2 ≤ 6050)))) := by
  obtain ⟨d, rfl⟩ : ∃ d, dd = d + 1 := ⟨dd - 1, by omega⟩
  refine wk_of (e := jm311) rfl (Nat.le_of_ble_eq_true rfl) ?_
  show wj X d jm311 (0, [(0, .ref 66)], [], rV c0 c1 G A T) _
  have hF0 : Fr [9, 10, 11, 12, 13, 14, 15, 16, 17, 18, 19, 28, 29, 31] [6, 7, 8, 9, 10, 11, 12, 14, 15, 16, 17, 18, 19, 20, 21, 22, 23, 24, 28, 36] G A G A := Fr_rf
  have hP0 : Pf nd A A := Pf_rf
  have hS0 : Fx sr (sy) A A := Fx_rf
  have hV0 : Fx [14] (vi) A A := Fx_rf
  have b_ln : (0 : Int) ≤ ln ∧ ln ≤ 3000 := e_ln ▸ hW.1 9
  have b_li : (0 : Int) ≤ li ∧ li ≤ 3000 := e_li ▸ hW.1 3
  have b_at0 : (0 : Int) ≤ at0 ∧ at0 ≤ 3002 := e_at0 ▸ hW.1 10
  have b_fk : (0 : Int) ≤ fk ∧ fk ≤ 6 := e_fk ▸ hW.1 16
  have b_nd : (0 : Int) ≤ nd ∧ nd ≤ 6999 := e_nd ▸ hW.1 31
  have b_sy : (0 : Int) ≤ sy ∧ sy ≤ 202 := e_sy ▸ hW.1 19
  have b_na : (0 : Int) ≤ na ∧ na ≤ 200 := e_na ▸ hW.1 28
  have b_vi : (0 : Int) ≤ vi ∧ vi ≤ 202 := e_vi ▸ hW.1 29
  have b_le : (0 : Int) ≤ le ∧ le ≤ 3000 := e_le ▸ hW.2 4 _
  have b_op0 : (-2147483648 : Int) ≤ op0 ∧ op0 ≤ 2147483647 := e_op0 ▸ hW.1 15
  have z_tk0 := tz_f tk0
  have b_tk0 : (0 : Int) ≤ tk0 ∧ tk0 ≤ 5 := e_tk0 ▸ hW.1 11
  refine jx_ld (pc' := 1) (l' := [(0, .ref 66)]) (st' := [.ref 66]) rfl (jl_aloadn rfl) ?_
  refine jx_vr (pc' := 4) (as := []) (st := []) rfl rfl rfl rfl ⟨rfl, rfl, Nat.le_of_ble_eq_true rfl⟩ rfl rfl (c_next (dd := d) (hd := by omega) (hW := hW)  (ln := ln) (e_ln := show G 9 = ln from (e_ln)) (le := le) (e_le := show A 4 (ln).toNat = le from (e_le)) (at0 := at0) (e_at0 := show G 10 = at0 from (e_at0))    (p_0 := by omega)) (fun o V' hq => ?_)
  obtain ⟨G990, A991, at2_992, tk2_993, rfl, rfl, hW994, hF995, e996, e997, p998, p999, p1000, -⟩ := hq
  have hF1002 := Fr_tr hF0 hF995 (Fr_sub (by decide)) (Fr_sub (by decide))
  have hP1003 := Pf_f hP0 hF995 (by decide)
  have hS1004 := Fx_f hS0 hF995 (by decide)
  have hV1005 := Fx_f hV0 hF995 (by decide)
  have sf1006 : PZ A991 := (show A991 = A from funext (fun k => hF995.2 k rfl)) ▸ p_8
  have ec1007 : ecn A991 (G990 31) = ec := (ecn_f (hF995.2 15 rfl) (hF995.1 31 rfl)).trans e_ec
  have bat2_992 : (0 : Int) ≤ at2_992 ∧ at2_992 ≤ 3002 := e996 ▸ hW994.1 10
  have ztk2_993 := tz_b tk2_993
  have btk2_993 : (0 : Int) ≤ tk2_993 ∧ tk2_993 ≤ 5 := e997 ▸ hW994.1 11
  refine .inl ⟨rfl, ?_⟩
  have pz1008 : at0 + tz tk2_993 ≤ at2_992 := by omega
  refine jx_ld (pc' := 5) (l' := [(0, .ref 66)]) (st' := [.ref 66]) rfl (jl_aloadn rfl) ?_
  refine jx_ld (pc' := 6) (l' := [(0, .ref 66)]) (st' := [.ref 66, .ref 66]) rfl (jl_aloadn rfl) ?_
  refine jx_ar (pc' := 7) (st' := [.int (i32 (2)), .ref 66, .ref 66]) rfl rfl rfl rfl ?_
  have b1009 : (-2147483648 : Int) ≤ G990 13 ∧ G990 13 ≤ 2147483647 := hW994.1 13
  refine jx_vr (pc' := 10) (as := [.int (i32 (2))]) (st := [.ref 66]) rfl rfl rfl rfl ⟨rfl, rfl, Nat.le_of_ble_eq_true rfl⟩ rfl rfl (c_isKey (dd := d) (hd := by omega) (hW := hW994) (k := 2) (tk := tk2_993) (e_tk := show G990 11 = tk2_993 from (e997)) (tn := G990 13) (e_tn := show G990 13 = G990 13 from rfl)  (h_k := ⟨(by decide), (by decide)⟩)  ) (fun o V' hq => ?_)
  obtain ⟨r1010, rfl, rfl, b1011, q1012⟩ := hq
  refine .inr ⟨_, rfl, ?_⟩
  rcases q1012 with ⟨rfl, a1013, a1014, a1015⟩ | rfl
  · have _q : True := trivial
    refine jx_vr (pc' := 13) (as := [.int (i32 (1))]) (st := []) rfl rfl rfl rfl ⟨rfl, rfl, Nat.le_of_ble_eq_true rfl⟩ rfl rfl (c_need (dd := d) (hd := by omega) (hW := hW994) (g := 1) (ln := ln) (e_ln := show G990 9 = ln from ((hF995.1 9 rfl).trans (e_ln))) (le := le) (e_le := show A991 4 (ln).toNat = le from (congrFun (hF995.2 4 rfl) _).trans (e_le)) (at0 := at2_992) (e_at0 := show G990 10 = at2_992 from (e996)) (fk := fk) (e_fk := show G990 16 = fk from ((hF995.1 16 rfl).trans (e_fk))) (tk0 := tk2_993) (e_tk0 := show G990 11 = tk2_993 from (e997))  (h_g := ⟨(by decide), (by decide)⟩)  (p_0 := by omega)) (fun o V' hq => ?_)
    obtain ⟨G1016, A1017, at2_1018, tk2_1019, fk2_1020, rfl, rfl, hW1021, hF1022, e1023, e1024, e1025, p1026, p1027, q1028⟩ := hq
    have hF1029 := Fr_tr hF1002 hF1022 (Fr_sub (by decide)) (Fr_sub (by decide))
    have hP1030 := Pf_f hP1003 hF1022 (by decide)
    have hS1031 := Fx_f hS1004 hF1022 (by decide)
    have hV1032 := Fx_f hV1005 hF1022 (by decide)
    have sf1033 : PZ A1017 := (show A1017 = A991 from funext (fun k => hF1022.2 k rfl)) ▸ sf1006
    have ec1034 : ecn A1017 (G1016 31) = ec := (ecn_f (hF1022.2 15 rfl) (hF1022.1 31 rfl)).trans ec1007
    have bat2_1018 : (0 : Int) ≤ at2_1018 ∧ at2_1018 ≤ 3002 := e1023 ▸ hW1021.1 10
    have ztk2_1019 := tz_b tk2_1019
    have btk2_1019 : (0 : Int) ≤ tk2_1019 ∧ tk2_1019 ≤ 5 := e1024 ▸ hW1021.1 11
    have bfk2_1020 : (0 : Int) ≤ fk2_1020 ∧ fk2_1020 ≤ 6 := e1025 ▸ hW1021.1 16
    refine .inl ⟨rfl, ?_⟩
    rcases q1028 with ⟨a1035, a1036, a1037, a1038⟩ | ⟨a1039, a1040, a1041, a1042⟩
    · have _q : True := trivial
      refine jx_ld (pc' := 14) (l' := [(0, .ref 66)]) (st' := [.ref 66]) rfl (jl_aloadn rfl) ?_
      refine jx_vr (pc' := 17) (as := []) (st := []) rfl rfl rfl rfl ⟨rfl, rfl, Nat.le_of_ble_eq_true rfl⟩ rfl rfl (c_endLine (dd := d) (hd := by omega) (hW := hW1021)  (ln := ln) (e_ln := show G1016 9 = ln from ((hF1022.1 9 rfl).trans ((hF995.1 9 rfl).trans (e_ln)))) (li := li) (e_li := show G1016 3 = li from ((hF1022.1 3 rfl).trans ((hF995.1 3 rfl).trans (e_li)))) (fk := fk2_1020) (e_fk := show G1016 16 = fk2_1020 from (e1025)) (tk0 := tk2_1019) (e_tk0 := show G1016 11 = tk2_1019 from (e1024))    (p_0 := by omega)) (fun o V' hq => ?_)
      obtain ⟨G1043, A1044, ln2_1045, fk2_1046, rfl, rfl, hW1047, hF1048, e1049, e1050, q1051⟩ := hq
      have hF1052 := Fr_tr hF1029 hF1048 (Fr_sub (by decide)) (Fr_sub (by decide))
      have hP1053 := Pf_f hP1030 hF1048 (by decide)
      have hS1054 := Fx_f hS1031 hF1048 (by decide)
      have hV1055 := Fx_f hV1032 hF1048 (by decide)
      have sf1056 : PZ A1044 := (show A1044 = A1017 from funext (fun k => hF1048.2 k rfl)) ▸ sf1033
      have ec1057 : ecn A1044 (G1043 31) = ec := (ecn_f (hF1048.2 15 rfl) (hF1048.1 31 rfl)).trans ec1034
      have bln2_1045 : (0 : Int) ≤ ln2_1045 ∧ ln2_1045 ≤ 3000 := e1049 ▸ hW1047.1 9
      have bfk2_1046 : (0 : Int) ≤ fk2_1046 ∧ fk2_1046 ≤ 6 := e1050 ▸ hW1047.1 16
      refine .inl ⟨rfl, ?_⟩
      rcases q1051 with ⟨a1058, a1059, a1060, a1061, a1062⟩ | ⟨a1063, a1064⟩
      · have _q : True := trivial
        exfalso
        omega
      · have _q : True := trivial
        refine jx_ar (pc' := 18) (st' := [.int (i32 (0))]) rfl rfl rfl rfl ?_
        refine jx_ld (pc' := 19) (l' := jSto1 [(0, .ref 66)] 1 (.int (i32 (0)))) (st' := []) rfl rfl ?_
        obtain ⟨L1065, eL1065⟩ : ∃ q, q = jSto1 [(0, .ref 66)] 1 (.int (i32 (0))) := ⟨_, rfl⟩
        rw [← eL1065]
        have gL1065_0 : jGet L1065 0 = some (.ref 66) := eL1065 ▸ jg_ne (by decide) (rfl : jGet [(0, .ref 66)] 0 = some (.ref 66)) rfl
        have gL1065_1 : jGet L1065 1 = some (.int (i32 (0))) := eL1065 ▸ jg_eq
        refine jx_ld (pc' := 20) (l' := L1065) (st' := [.ref 66]) rfl (jl_aloadn gL1065_0) ?_
        refine jx_ar (pc' := 21) (st' := [.int (i32 (0)), .ref 66]) rfl rfl rfl rfl ?_
        have b1066 : (-1 : Int) ≤ A 5 (ln2_1045).toNat ∧ A 5 (ln2_1045).toNat ≤ 15 := hW.2 5 _
        refine jx_vr (pc' := 24) (as := [.int (i32 (0))]) (st := []) rfl rfl rfl rfl ⟨rfl, rfl, Nat.le_of_ble_eq_true rfl⟩ rfl rfl (c_isBelow (dd := d) (hd := by omega) (hW := hW1047) (lv := 0) (ln := ln2_1045) (e_ln := show G1043 9 = ln2_1045 from (e1049)) (li := li) (e_li := show G1043 3 = li from ((hF1048.1 3 rfl).trans ((hF1022.1 3 rfl).trans ((hF995.1 3 rfl).trans (e_li))))) (fk := fk2_1046) (e_fk := show G1043 16 = fk2_1046 from (e1050)) (ll := A 5 (ln2_1045).toNat) (e_ll := show A1044 5 (ln2_1045).toNat = A 5 (ln2_1045).toNat from (congrFun ((hF1048.2 5 rfl).trans ((hF1022.2 5 rfl).trans (hF995.2 5 rfl))) _))  (h_lv := ⟨(by decide), (by decide)⟩)  (p_0 := by omega)) (fun o V' hq => ?_)
        obtain ⟨G1067, A1068, r1069, fk2_1070, rfl, rfl, hW1071, hF1072, b1073, e1074, q1075⟩ := hq
        have hF1076 := Fr_tr hF1052 hF1072 (Fr_sub (by decide)) (Fr_sub (by decide))
        have hP1077 := Pf_f hP1053 hF1072 (by decide)
        have hS1078 := Fx_f hS1054 hF1072 (by decide)
        have hV1079 := Fx_f hV1055 hF1072 (by decide)
        have sf1080 : PZ A1068 := (show A1068 = A1044 from funext (fun k => hF1072.2 k rfl)) ▸ sf1056
        have ec1081 : ecn A1068 (G1067 31) = ec := (ecn_f (hF1072.2 15 rfl) (hF1072.1 31 rfl)).trans ec1057
        have bfk2_1070 : (0 : Int) ≤ fk2_1070 ∧ fk2_1070 ≤ 6 := e1074 ▸ hW1071.1 16
        refine .inr ⟨_, rfl, ?_⟩
        rcases q1075 with ⟨rfl, a1082, a1083, a1084, a1085⟩ | ⟨rfl, a1086⟩ | ⟨rfl, a1087, a1088, a1089⟩
        · have _q : True := trivial
          exfalso
          omega
        · have _q : True := trivial
          refine jx_if_eq (pc' := 27) (tg := 125) rfl rfl rfl (by decide) (by decide) (fun h1090 => ?_) (fun h1090 => ?_)
          · have _q := h1090
            refine jx_ld (pc' := 126) (l' := L1065) (st' := [.ref 66]) rfl (jl_aloadn gL1065_0) ?_
            refine jx_vr (pc' := 129) (as := []) (st := []) rfl rfl rfl rfl ⟨rfl, rfl, Nat.le_of_ble_eq_true rfl⟩ rfl rfl (c_bad (dd := d) (hd := by omega) (hW := hW1071)  (fk := fk2_1070) (e_fk := show G1067 16 = fk2_1070 from (e1074))    ) (fun o V' hq => ?_)
            obtain ⟨r1091, rfl, rfl, b1092, q1093⟩ := hq
            refine .inr ⟨_, rfl, ?_⟩
            rcases q1093 with ⟨rfl, a1094⟩ | ⟨rfl, a1095⟩
            · have _q : True := trivial
              refine jx_if_ne (pc' := 132) (tg := 142) rfl rfl rfl (by decide) (by decide) (fun h1096 => ?_) (fun h1096 => ?_)
              · have _q := h1096
                refine jx_rt (v := none) rfl rfl rfl rfl rfl rfl ?_
                exact ⟨_, _, ln2_1045, at2_1018, fk2_1070, nd, sy, na, vi, A 3 (ln2_1045).toNat, ec, rfl, rfl, hW1071, hF1076, hP1077, hS1078, hV1079, ((hF1072.1 9 rfl).trans (e1049)), ((hF1072.1 10 rfl).trans ((hF1048.1 10 rfl).trans (e1023))), (e1074), ((hF1072.1 31 rfl).trans ((hF1048.1 31 rfl).trans ((hF1022.1 31 rfl).trans ((hF995.1 31 rfl).trans (e_nd))))), ((hF1072.1 19 rfl).trans ((hF1048.1 19 rfl).trans ((hF1022.1 19 rfl).trans ((hF995.1 19 rfl).trans (e_sy))))), ((hF1072.1 28 rfl).trans ((hF1048.1 28 rfl).trans ((hF1022.1 28 rfl).trans ((hF995.1 28 rfl).trans (e_na))))), ((hF1072.1 29 rfl).trans ((hF1048.1 29 rfl).trans ((hF1022.1 29 rfl).trans ((hF995.1 29 rfl).trans (e_vi))))), (congrFun ((hF1072.2 3 rfl).trans ((hF1048.2 3 rfl).trans ((hF1022.2 3 rfl).trans (hF995.2 3 rfl)))) _), ec1081, by omega, by omega, by omega, by omega, by omega, by omega, by first | exact Or.inl (by omega)⟩
              · have _q := h1096
                exact absurd h1096 (by omega)
            · have _q : True := trivial
              exfalso
              omega
          · have _q := h1090
            exact absurd h1090 (by omega)
        · have _q : True := trivial
          exfalso
          omega
    · have _q : True := trivial
      have pz1097 : at2_992 + tz tk2_1019 ≤ at2_1018 := by omega
      refine jx_ld (pc' := 14) (l' := [(0, .ref 66)]) (st' := [.ref 66]) rfl (jl_aloadn rfl) ?_
      refine jx_vr (pc' := 17) (as := []) (st := []) rfl rfl rfl rfl ⟨rfl, rfl, Nat.le_of_ble_eq_true rfl⟩ rfl rfl (c_endLine (dd := d) (hd := by omega) (hW := hW1021)  (ln := ln) (e_ln := show G1016 9 = ln from ((hF1022.1 9 rfl).trans ((hF995.1 9 rfl).trans (e_ln)))) (li := li) (e_li := show G1016 3 = li from ((hF1022.1 3 rfl).trans ((hF995.1 3 rfl).trans (e_li)))) (fk := fk2_1020) (e_fk := show G1016 16 = fk2_1020 from (e1025)) (tk0 := tk2_1019) (e_tk0 := show G1016 11 = tk2_1019 from (e1024))    (p_0 := by omega)) (fun o V' hq => ?_)
      obtain ⟨G1098, A1099, ln2_1100, fk2_1101, rfl, rfl, hW1102, hF1103, e1104, e1105, q1106⟩ := hq
      have hF1107 := Fr_tr hF1029 hF1103 (Fr_sub (by decide)) (Fr_sub (by decide))
      have hP1108 := Pf_f hP1030 hF1103 (by decide)
      have hS1109 := Fx_f hS1031 hF1103 (by decide)
      have hV1110 := Fx_f hV1032 hF1103 (by decide)
      have sf1111 : PZ A1099 := (show A1099 = A1017 from funext (fun k => hF1103.2 k rfl)) ▸ sf1033
      have ec1112 : ecn A1099 (G1098 31) = ec := (ecn_f (hF1103.2 15 rfl) (hF1103.1 31 rfl)).trans ec1034
      have bln2_1100 : (0 : Int) ≤ ln2_1100 ∧ ln2_1100 ≤ 3000 := e1104 ▸ hW1102.1 9
      have bfk2_1101 : (0 : Int) ≤ fk2_1101 ∧ fk2_1101 ≤ 6 := e1105 ▸ hW1102.1 16
      refine .inl ⟨rfl, ?_⟩
      rcases q1106 with ⟨a1113, a1114, a1115, a1116, a1117⟩ | ⟨a1118, a1119⟩
      · have _q : True := trivial
        have b1120 : (0 : Int) ≤ A 3 (ln2_1100).toNat ∧ A 3 (ln2_1100).toNat ≤ 3000 := hW.2 3 _
        have lt1121 : ln2_1100 < li → le < A 3 (ln2_1100).toNat := fun hh => LT_nx (LT_ext (((hF1103.1 3 rfl).trans ((hF1022.1 3 rfl).trans (hF995.1 3 rfl)))) (((hF1103.2 3 rfl).trans ((hF1022.2 3 rfl).trans (hF995.2 3 rfl)))) (((hF1103.2 4 rfl).trans ((hF1022.2 4 rfl).trans (hF995.2 4 rfl)))) i_LT) (show G1098 3 = li from ((hF1103.1 3 rfl).trans ((hF1022.1 3 rfl).trans ((hF995.1 3 rfl).trans (e_li))))) (show A1099 4 (ln).toNat = le from (congrFun ((hF1103.2 4 rfl).trans ((hF1022.2 4 rfl).trans (hF995.2 4 rfl))) _).trans (e_le)) (show A1099 3 (ln2_1100).toNat = A 3 (ln2_1100).toNat from (congrFun ((hF1103.2 3 rfl).trans ((hF1022.2 3 rfl).trans (hF995.2 3 rfl))) _)) (show ln2_1100 = ln + 1 by omega) (by omega) hh
        refine jx_ar (pc' := 18) (st' := [.int (i32 (0))]) rfl rfl rfl rfl ?_
        refine jx_ld (pc' := 19) (l' := jSto1 [(0, .ref 66)] 1 (.int (i32 (0)))) (st' := []) rfl rfl ?_
        obtain ⟨L1122, eL1122⟩ : ∃ q, q = jSto1 [(0, .ref 66)] 1 (.int (i32 (0))) := ⟨_, rfl⟩
        rw [← eL1122]
        have gL1122_0 : jGet L1122 0 = some (.ref 66) := eL1122 ▸ jg_ne (by decide) (rfl : jGet [(0, .ref 66)] 0 = some (.ref 66)) rfl
        have gL1122_1 : jGet L1122 1 = some (.int (i32 (0))) := eL1122 ▸ jg_eq
        exact c_readPlaced_w_at_19 (X := X) (d := d) (Vs := Vs) (sb := sb) (pb := pb) (hvb := hvb) (c0 := c0) (c1 := c1) (G := G) (A := A) (T := T) (ln := ln) (li := li) (at0 := at0) (fk := fk) (nd := nd) (sy := sy) (na := na) (vi := vi) (le := le) (op0 := op0) (tk0 := tk0) (ec := ec) (hd := hd) (hW := hW) (e_ln := e_ln) (e_li := e_li) (e_at0 := e_at0) (e_fk := e_fk) (e_nd := e_nd) (e_sy := e_sy) (e_na := e_na) (e_vi := e_vi) (e_le := e_le) (e_op0 := e_op0) (e_tk0 := e_tk0) (e_ec := e_ec) (i_LT := i_LT) (i_SV := i_SV) (i_PQ := i_PQ) (p_0 := p_0) (p_1 := p_1) (p_2 := p_2) (p_3 := p_3) (p_4 := p_4) (p_5 := p_5) (p_6 := p_6) (p_7 := p_7) (p_8 := p_8) (p_9 := p_9) _ L1122 G1098 A1099 (0) (ln2_1100) (at2_1018) (fk2_1101) (nd) (sy) (na) (A 3 (ln2_1100).toNat) (ec) rfl gL1122_0 gL1122_1 hW1102 hF1107 hP1108 hS1109 hV1110 ((e1104)) (((hF1103.1 10 rfl).trans (e1023))) ((e1105)) (((hF1103.1 31 rfl).trans ((hF1022.1 31 rfl).trans ((hF995.1 31 rfl).trans (e_nd))))) (((hF1103.1 19 rfl).trans ((hF1022.1 19 rfl).trans ((hF995.1 19 rfl).trans (e_sy))))) (((hF1103.1 28 rfl).trans ((hF1022.1 28 rfl).trans ((hF995.1 28 rfl).trans (e_na))))) ((congrFun ((hF1103.2 3 rfl).trans ((hF1022.2 3 rfl).trans (hF995.2 3 rfl))) _)) (ec1112) (((hF1103.1 29 rfl).trans ((hF1022.1 29 rfl).trans ((hF995.1 29 rfl).trans (e_vi))))) (by omega) (by omega) (by omega) (by omega) (by omega) (by omega) (by omega) (by omega) (by omega) (by omega) (by omega) (by omega) ((wB_nil sf1111 (by omega) (by omega))) (by omega)
      · have _q : True := trivial
        refine jx_ar (pc' := 18) (st' := [.int (i32 (0))]) rfl rfl rfl rfl ?_
        refine jx_ld (pc' := 19) (l' := jSto1 [(0, .ref 66)] 1 (.int (i32 (0)))) (st' := []) rfl rfl ?_
        obtain ⟨L1123, eL1123⟩ : ∃ q, q = jSto1 [(0, .ref 66)] 1 (.int (i32 (0))) := ⟨_, rfl⟩
        rw [← eL1123]
        have gL1123_0 : jGet L1123 0 = some (.ref 66) := eL1123 ▸ jg_ne (by decide) (rfl : jGet [(0, .ref 66)] 0 = some (.ref 66)) rfl
        have gL1123_1 : jGet L1123 1 = some (.int (i32 (0))) := eL1123 ▸ jg_eq
        refine jx_ld (pc' := 20) (l' := L1123) (st' := [.ref 66]) rfl (jl_aloadn gL1123_0) ?_
        refine jx_ar (pc' := 21) (st' := [.int (i32 (0)), .ref 66]) rfl rfl rfl rfl ?_
        have b1124 : (-1 : Int) ≤ A 5 (ln2_1100).toNat ∧ A 5 (ln2_1100).toNat ≤ 15 := hW.2 5 _
        refine jx_vr (pc' := 24) (as := [.int (i32 (0))]) (st := []) rfl rfl rfl rfl ⟨rfl, rfl, Nat.le_of_ble_eq_true rfl⟩ rfl rfl (c_isBelow (dd := d) (hd := by omega) (hW := hW1102) (lv := 0) (ln := ln2_1100) (e_ln := show G1098 9 = ln2_1100 from (e1104)) (li := li) (e_li := show G1098 3 = li from ((hF1103.1 3 rfl).trans ((hF1022.1 3 rfl).trans ((hF995.1 3 rfl).trans (e_li))))) (fk := fk2_1101) (e_fk := show G1098 16 = fk2_1101 from (e1105)) (ll := A 5 (ln2_1100).toNat) (e_ll := show A1099 5 (ln2_1100).toNat = A 5 (ln2_1100).toNat from (congrFun ((hF1103.2 5 rfl).trans ((hF1022.2 5 rfl).trans (hF995.2 5 rfl))) _))  (h_lv := ⟨(by decide), (by decide)⟩)  (p_0 := by omega)) (fun o V' hq => ?_)
        obtain ⟨G1125, A1126, r1127, fk2_1128, rfl, rfl, hW1129, hF1130, b1131, e1132, q1133⟩ := hq
        have hF1134 := Fr_tr hF1107 hF1130 (Fr_sub (by decide)) (Fr_sub (by decide))
        have hP1135 := Pf_f hP1108 hF1130 (by decide)
        have hS1136 := Fx_f hS1109 hF1130 (by decide)
        have hV1137 := Fx_f hV1110 hF1130 (by decide)
        have sf1138 : PZ A1126 := (show A1126 = A1099 from funext (fun k => hF1130.2 k rfl)) ▸ sf1111
        have ec1139 : ecn A1126 (G1125 31) = ec := (ecn_f (hF1130.2 15 rfl) (hF1130.1 31 rfl)).trans ec1112
        have bfk2_1128 : (0 : Int) ≤ fk2_1128 ∧ fk2_1128 ≤ 6 := e1132 ▸ hW1129.1 16
        refine .inr ⟨_, rfl, ?_⟩
        rcases q1133 with ⟨rfl, a1140, a1141, a1142, a1143⟩ | ⟨rfl, a1144⟩ | ⟨rfl, a1145, a1146, a1147⟩
        · have _q : True := trivial
          exfalso
          omega
        · have _q : True := trivial
          refine jx_if_eq (pc' := 27) (tg := 125) rfl rfl rfl (by decide) (by decide) (fun h1148 => ?_) (fun h1148 => ?_)
          · have _q := h1148
            refine jx_ld (pc' := 126) (l' := L1123) (st' := [.ref 66]) rfl (jl_aloadn gL1123_0) ?_
            refine jx_vr (pc' := 129) (as := []) (st := []) rfl rfl rfl rfl ⟨rfl, rfl, Nat.le_of_ble_eq_true rfl⟩ rfl rfl (c_bad (dd := d) (hd := by omega) (hW := hW1129)  (fk := fk2_1128) (e_fk := show G1125 16 = fk2_1128 from (e1132))    ) (fun o V' hq => ?_)
            obtain ⟨r1149, rfl, rfl, b1150, q1151⟩ := hq
            refine .inr ⟨_, rfl, ?_⟩
            rcases q1151 with ⟨rfl, a1152⟩ | ⟨rfl, a1153⟩
            · have _q : True := trivial
              refine jx_if_ne (pc' := 132) (tg := 142) rfl rfl rfl (by decide) (by decide) (fun h1154 => ?_) (fun h1154 => ?_)
              · have _q := h1154
                refine jx_rt (v := none) rfl rfl rfl rfl rfl rfl ?_
                exact ⟨_, _, ln2_1100, at2_1018, fk2_1128, nd, sy, na, vi, A 3 (ln2_1100).toNat, ec, rfl, rfl, hW1129, hF1134, hP1135, hS1136, hV1137, ((hF1130.1 9 rfl).trans (e1104)), ((hF1130.1 10 rfl).trans ((hF1103.1 10 rfl).trans (e1023))), (e1132), ((hF1130.1 31 rfl).trans ((hF1103.1 31 rfl).trans ((hF1022.1 31 rfl).trans ((hF995.1 31 rfl).trans (e_nd))))), ((hF1130.1 19 rfl).trans ((hF1103.1 19 rfl).trans ((hF1022.1 19 rfl).trans ((hF995.1 19 rfl).trans (e_sy))))), ((hF1130.1 28 rfl).trans ((hF1103.1 28 rfl).trans ((hF1022.1 28 rfl).trans ((hF995.1 28 rfl).trans (e_na))))), ((hF1130.1 29 rfl).trans ((hF1103.1 29 rfl).trans ((hF1022.1 29 rfl).trans ((hF995.1 29 rfl).trans (e_vi))))), (congrFun ((hF1130.2 3 rfl).trans ((hF1103.2 3 rfl).trans ((hF1022.2 3 rfl).trans (hF995.2 3 rfl)))) _), ec1139, by omega, by omega, by omega, by omega, by omega, by omega, by first | exact Or.inl (by omega)⟩
              · have _q := h1154
                exact absurd h1154 (by omega)
            · have _q : True := trivial
              exfalso
              omega
          · have _q := h1148
            exact absurd h1148 (by omega)
        · have _q : True := trivial
          exfalso
          omega
  · have _q : True := trivial
    refine jx_vr (pc' := 13) (as := [.int (i32 (0))]) (st := []) rfl rfl rfl rfl ⟨rfl, rfl, Nat.le_of_ble_eq_true rfl⟩ rfl rfl (c_need (dd := d) (hd := by omega) (hW := hW994) (g := 0) (ln := ln) (e_ln := show G990 9 = ln from ((hF995.1 9 rfl).trans (e_ln))) (le := le) (e_le := show A991 4 (ln).toNat = le from (congrFun (hF995.2 4 rfl) _).trans (e_le)) (at0 := at2_992) (e_at0 := show G990 10 = at2_992 from (e996)) (fk := fk) (e_fk := show G990 16 = fk from ((hF995.1 16 rfl).trans (e_fk))) (tk0 := tk2_993) (e_tk0 := show G990 11 = tk2_993 from (e997))  (h_g := ⟨(by decide), (by decide)⟩)  (p_0 := by omega)) (fun o V' hq => ?_)
    obtain ⟨G1155, A1156, at2_1157, tk2_1158, fk2_1159, rfl, rfl, hW1160, hF1161, e1162, e1163, e1164, p1165, p1166, q1167⟩ := hq
    have hF1168 := Fr_tr hF1002 hF1161 (Fr_sub (by decide)) (Fr_sub (by decide))
    have hP1169 := Pf_f hP1003 hF1161 (by decide)
    have hS1170 := Fx_f hS1004 hF1161 (by decide)
    have hV1171 := Fx_f hV1005 hF1161 (by decide)
    have sf1172 : PZ A1156 := (show A1156 = A991 from funext (fun k => hF1161.2 k rfl)) ▸ sf1006
    have ec1173 : ecn A1156 (G1155 31) = ec := (ecn_f (hF1161.2 15 rfl) (hF1161.1 31 rfl)).trans ec1007
    have bat2_1157 : (0 : Int) ≤ at2_1157 ∧ at2_1157 ≤ 3002 := e1162 ▸ hW1160.1 10
    have ztk2_1158 := tz_b tk2_1158
    have btk2_1158 : (0 : Int) ≤ tk2_1158 ∧ tk2_1158 ≤ 5 := e1163 ▸ hW1160.1 11
    have bfk2_1159 : (0 : Int) ≤ fk2_1159 ∧ fk2_1159 ≤ 6 := e1164 ▸ hW1160.1 16
    refine .inl ⟨rfl, ?_⟩
    rcases q1167 with ⟨a1174, a1175, a1176, a1177⟩ | ⟨a1178, a1179, a1180, a1181⟩
    · have _q : True := trivial
      refine jx_ld (pc' := 14) (l' := [(0, .ref 66)]) (st' := [.ref 66]) rfl (jl_aloadn rfl) ?_
      refine jx_vr (pc' := 17) (as := []) (st := []) rfl rfl rfl rfl ⟨rfl, rfl, Nat.le_of_ble_eq_true rfl⟩ rfl rfl (c_endLine (dd := d) (hd := by omega) (hW := hW1160)  (ln := ln) (e_ln := show G1155 9 = ln from ((hF1161.1 9 rfl).trans ((hF995.1 9 rfl).trans (e_ln)))) (li := li) (e_li := show G1155 3 = li from ((hF1161.1 3 rfl).trans ((hF995.1 3 rfl).trans (e_li)))) (fk := fk2_1159) (e_fk := show G1155 16 = fk2_1159 from (e1164)) (tk0 := tk2_1158) (e_tk0 := show G1155 11 = tk2_1158 from (e1163))    (p_0 := by omega)) (fun o V' hq => ?_)
      obtain ⟨G1182, A1183, ln2_1184, fk2_1185, rfl, rfl, hW1186, hF1187, e1188, e1189, q1190⟩ := hq
      have hF1191 := Fr_tr hF1168 hF1187 (Fr_sub (by decide)) (Fr_sub (by decide))
      have hP1192 := Pf_f hP1169 hF1187 (by decide)
      have hS1193 := Fx_f hS1170 hF1187 (by decide)
      have hV1194 := Fx_f hV1171 hF1187 (by decide)
      have sf1195 : PZ A1183 := (show A1183 = A1156 from funext (fun k => hF1187.2 k rfl)) ▸ sf1172
      have ec1196 : ecn A1183 (G1182 31) = ec := (ecn_f (hF1187.2 15 rfl) (hF1187.1 31 rfl)).trans ec1173
      have bln2_1184 : (0 : Int) ≤ ln2_1184 ∧ ln2_1184 ≤ 3000 := e1188 ▸ hW1186.1 9
      have bfk2_1185 : (0 : Int) ≤ fk2_1185 ∧ fk2_1185 ≤ 6 := e1189 ▸ hW1186.1 16
      refine .inl ⟨rfl, ?_⟩
      rcases q1190 with ⟨a1197, a1198, a1199, a1200, a1201⟩ | ⟨a1202, a1203⟩
      · have _q : True := trivial
        exfalso
        omega
      · have _q : True := trivial
        refine jx_ar (pc' := 18) (st' := [.int (i32 (0))]) rfl rfl rfl rfl ?_
        refine jx_ld (pc' := 19) (l' := jSto1 [(0, .ref 66)] 1 (.int (i32 (0)))) (st' := []) rfl rfl ?_
        obtain ⟨L1204, eL1204⟩ : ∃ q, q = jSto1 [(0, .ref 66)] 1 (.int (i32 (0))) := ⟨_, rfl⟩
        rw [← eL1204]
        have gL1204_0 : jGet L1204 0 = some (.ref 66) := eL1204 ▸ jg_ne (by decide) (rfl : jGet [(0, .ref 66)] 0 = some (.ref 66)) rfl
        have gL1204_1 : jGet L1204 1 = some (.int (i32 (0))) := eL1204 ▸ jg_eq
        refine jx_ld (pc' := 20) (l' := L1204) (st' := [.ref 66]) rfl (jl_aloadn gL1204_0) ?_
        refine jx_ar (pc' := 21) (st' := [.int (i32 (0)), .ref 66]) rfl rfl rfl rfl ?_
        have b1205 : (-1 : Int) ≤ A 5 (ln2_1184).toNat ∧ A 5 (ln2_1184).toNat ≤ 15 := hW.2 5 _
        refine jx_vr (pc' := 24) (as := [.int (i32 (0))]) (st := []) rfl rfl rfl rfl ⟨rfl, rfl, Nat.le_of_ble_eq_true rfl⟩ rfl rfl (c_isBelow (dd := d) (hd := by omega) (hW := hW1186) (lv := 0) (ln := ln2_1184) (e_ln := show G1182 9 = ln2_1184 from (e1188)) (li := li) (e_li := show G1182 3 = li from ((hF1187.1 3 rfl).trans ((hF1161.1 3 rfl).trans ((hF995.1 3 rfl).trans (e_li))))) (fk := fk2_1185) (e_fk := show G1182 16 = fk2_1185 from (e1189)) (ll := A 5 (ln2_1184).toNat) (e_ll := show A1183 5 (ln2_1184).toNat = A 5 (ln2_1184).toNat from (congrFun ((hF1187.2 5 rfl).trans ((hF1161.2 5 rfl).trans (hF995.2 5 rfl))) _))  (h_lv := ⟨(by decide), (by decide)⟩)  (p_0 := by omega)) (fun o V' hq => ?_)
        obtain ⟨G1206, A1207, r1208, fk2_1209, rfl, rfl, hW1210, hF1211, b1212, e1213, q1214⟩ := hq
        have hF1215 := Fr_tr hF1191 hF1211 (Fr_sub (by decide)) (Fr_sub (by decide))
        have hP1216 := Pf_f hP1192 hF1211 (by decide)
        have hS1217 := Fx_f hS1193 hF1211 (by decide)
        have hV1218 := Fx_f hV1194 hF1211 (by decide)
        have sf1219 : PZ A1207 := (show A1207 = A1183 from funext (fun k => hF1211.2 k rfl)) ▸ sf1195
        have ec1220 : ecn A1207 (G1206 31) = ec := (ecn_f (hF1211.2 15 rfl) (hF1211.1 31 rfl)).trans ec1196
        have bfk2_1209 : (0 : Int) ≤ fk2_1209 ∧ fk2_1209 ≤ 6 := e1213 ▸ hW1210.1 16
        refine .inr ⟨_, rfl, ?_⟩
        rcases q1214 with ⟨rfl, a1221, a1222, a1223, a1224⟩ | ⟨rfl, a1225⟩ | ⟨rfl, a1226, a1227, a1228⟩
        · have _q : True := trivial
          exfalso
          omega
        · have _q : True := trivial
          refine jx_if_eq (pc' := 27) (tg := 125) rfl rfl rfl (by decide) (by decide) (fun h1229 => ?_) (fun h1229 => ?_)
          · have _q := h1229
            refine jx_ld (pc' := 126) (l' := L1204) (st' := [.ref 66]) rfl (jl_aloadn gL1204_0) ?_
            refine jx_vr (pc' := 129) (as := []) (st := []) rfl rfl rfl rfl ⟨rfl, rfl, Nat.le_of_ble_eq_true rfl⟩ rfl rfl (c_bad (dd := d) (hd := by omega) (hW := hW1210)  (fk := fk2_1209) (e_fk := show G1206 16 = fk2_1209 from (e1213))    ) (fun o V' hq => ?_)
            obtain ⟨r1230, rfl, rfl, b1231, q1232⟩ := hq
            refine .inr ⟨_, rfl, ?_⟩
            rcases q1232 with ⟨rfl, a1233⟩ | ⟨rfl, a1234⟩
            · have _q : True := trivial
              refine jx_if_ne (pc' := 132) (tg := 142) rfl rfl rfl (by decide) (by decide) (fun h1235 => ?_) (fun h1235 => ?_)
              · have _q := h1235
                refine jx_rt (v := none) rfl rfl rfl rfl rfl rfl ?_
                exact ⟨_, _, ln2_1184, at2_1157, fk2_1209, nd, sy, na, vi, A 3 (ln2_1184).toNat, ec, rfl, rfl, hW1210, hF1215, hP1216, hS1217, hV1218, ((hF1211.1 9 rfl).trans (e1188)), ((hF1211.1 10 rfl).trans ((hF1187.1 10 rfl).trans (e1162))), (e1213), ((hF1211.1 31 rfl).trans ((hF1187.1 31 rfl).trans ((hF1161.1 31 rfl).trans ((hF995.1 31 rfl).trans (e_nd))))), ((hF1211.1 19 rfl).trans ((hF1187.1 19 rfl).trans ((hF1161.1 19 rfl).trans ((hF995.1 19 rfl).trans (e_sy))))), ((hF1211.1 28 rfl).trans ((hF1187.1 28 rfl).trans ((hF1161.1 28 rfl).trans ((hF995.1 28 rfl).trans (e_na))))), ((hF1211.1 29 rfl).trans ((hF1187.1 29 rfl).trans ((hF1161.1 29 rfl).trans ((hF995.1 29 rfl).trans (e_vi))))), (congrFun ((hF1211.2 3 rfl).trans ((hF1187.2 3 rfl).trans ((hF1161.2 3 rfl).trans (hF995.2 3 rfl)))) _), ec1220, by omega, by omega, by omega, by omega, by omega, by omega, by first | exact Or.inl (by omega)⟩
              · have _q := h1235
                exact absurd h1235 (by omega)
            · have _q : True := trivial
              exfalso
              omega
          · have _q := h1229
            exact absurd h1229 (by omega)
        · have _q : True := trivial
          exfalso
          omega
    · have _q : True := trivial
      exfalso
      omega
set_option maxRecDepth 20000 in
set_option maxHeartbeats 4000000 in
theorem c_readProgram_w_at_141_1 {X : jX} {d : Nat} {c0 c1 : jC} {G : Nat → Int} {A : Nat → Nat → Int} {T : jH} {ln li fk nd sy na vi lf pc lk ec : Int} (hd : 8 * 18 + 82 ≤ d + 1) (hW : Wk G A) (e_ln : G 9 = ln) (e_li : G 3 = li) (e_fk : G 16 = fk) (e_nd : G 31 = nd) (e_sy : G 19 = sy) (e_na : G 28 = na) (e_vi : G 29 = vi) (e_lf : A 3 (ln).toNat = lf) (e_pc : G 46 = pc) (e_lk : G 52 = lk) (e_ec : ecn A (G 31) = ec) (i_LT : LT G A) (p_0 : fk = 0) (p_1 : ln = 0) (p_2 : nd = 1) (p_3 : sy = 0) (p_4 : na = 0) (p_5 : vi = 0) (p_6 : pc = 0) (p_7 : lk = 0) (p_8 : PZ A) (p_9 : ec = 0) : ∀ (L : jL) (Gx : Nat → Int) (Ax : Nat → Nat → Int) (ln1 at1 tk1 fk1 op1 nd1 sy1 na1 vi1 lf1 le1 pc1 lk1 ec1 : Int), jGet L 0 = some (.ref 66) → jGet L 2 = some (.int (i32 (1))) → Wk Gx Ax → Fr [9, 10, 11, 12, 13, 14, 15, 16, 17, 18, 19, 28, 29, 31, 46, 52] [6, 7, 8, 9, 10, 11, 12, 14, 15, 16, 17, 18, 19, 20, 21, 22, 23, 24, 28, 29, 30, 31, 34, 35, 36] G A Gx Ax → Gx 9 = ln1 → Gx 10 = at1 → Gx 11 = tk1 → Gx 16 = fk1 → Gx 15 = op1 → Gx 31 = nd1 → Gx 19 = sy1 → Gx 28 = na1 → Gx 29 = vi1 → Ax 3 (ln1).toNat = lf1 → Ax 4 (ln1).toNat = le1 → Gx 46 = pc1 → Gx 52 = lk1 → ecn Ax (Gx 31) = ec1 → (fk1 = 0) → (0 ≤ lf1) → (ln1 < li) → (lf1 < le1) → (2 * lf1 ≤ 2 * at1 - tz tk1) → (lf1 ≤ at1) → (at1 ≤ le1) → (nd1 ≤ 2 * lf1 + 2) → (op1 = 0) → (sy1 ≤ na1 + 2) → (vi1 ≤ sy1) → (PZ Ax) → (TL Ax (pc1) (nd1) (sy1) (lk1) (vi1)) → (nd1 + 5 * ec1 ≤ 2 * lf1 + 2) → wj X d jm312 (141, L, [], rV c0 c1 Gx Ax T) (fun o V' => ∃ (G' : Nat → Int) (A' : Nat → Nat → Int) (ln2 : Int) (fk2 : Int) (nd2 : Int) (sy2 : Int) (na2 : Int) (vi2 : Int) (pc2 : Int) (lk2 : Int) (ec2 : Int), V' = rV c0 c1 G' A' T ∧ o = .inl none ∧ Wk G' A' ∧ Fr [9, 10, 11, 12, 13, 14, 15, 16, 17, 18, 19, 28, 29, 31, 46, 52] [6, 7, 8, 9, 10, 11, 12, 14, 15, 16, 17, 18, 19, 20, 21, 22, 23, 24, 28, 29, 30, 31, 34, 35, 36] G A G' A' ∧ G' 9 = ln2 ∧ G' 16 = fk2 ∧ G' 31 = nd2 ∧ G' 19 = sy2 ∧ G' 28 = na2 ∧ G' 29 = vi2 ∧ G' 46 = pc2 ∧ G' 52 = lk2 ∧ ecn A' (G' 31) = ec2 ∧ (((1 ≤ fk2)) ∨ ((fk2 = 0) ∧ (TT A' (pc2) (nd2) (sy2) (lk2)) ∧ (nd2 + 5 * ec2 ≤ 6050)))) := by
  have hF0 : Fr [9, 10, 11, 12, 13, 14, 15, 16, 17, 18, 19, 28, 29, 31, 46, 52] [6, 7, 8, 9, 10, 11, 12, 14, 15, 16, 17, 18, 19, 20, 21, 22, 23, 24, 28, 29, 30, 31, 34, 35, 36] G A G A := Fr_rf
  have b_ln : (0 : Int) ≤ ln ∧ ln ≤ 3000 := e_ln ▸ hW.1 9
  have b_li : (0 : Int) ≤ li ∧ li ≤ 3000 := e_li ▸ hW.1 3
  have b_fk : (0 : Int) ≤ fk ∧ fk ≤ 6 := e_fk ▸ hW.1 16
  have b_nd : (0 : Int) ≤ nd ∧ nd ≤ 6999 := e_nd ▸ hW.1 31
  have b_sy : (0 : Int) ≤ sy ∧ sy ≤ 202 := e_sy ▸ hW.1 19
  have b_na : (0 : Int) ≤ na ∧ na ≤ 200 := e_na ▸ hW.1 28
  have b_vi : (0 : Int) ≤ vi ∧ vi ≤ 202 := e_vi ▸ hW.1 29
  have b_lf : (0 : Int) ≤ lf ∧ lf ≤ 3000 := e_lf ▸ hW.2 3 _
  have b_pc : (0 : Int) ≤ pc ∧ pc ≤ 24 := e_pc ▸ hW.1 46
  have b_lk : (0 : Int) ≤ lk ∧ lk ≤ 12 := e_lk ▸ hW.1 52
  intro L Gx Ax ln1 at1 tk1 fk1 op1 nd1 sy1 na1 vi1 lf1 le1 pc1 lk1 ec1 gL_0 gL_2 hWx hFx ex_ln1 ex_at1 ex_tk1 ex_fk1 ex_op1 ex_nd1 ex_sy1 ex_na1 ex_vi1 ex_lf1 ex_le1 ex_pc1 ex_lk1 ex_ec1 iv_0 iv_1 iv_2 iv_3 iv_4 iv_5 iv_6 iv_7 iv_8 iv_9 iv_10 iv_11 iv_12 iv_13
  have b_ln1 : (0 : Int) ≤ ln1 ∧ ln1 ≤ 3000 := ex_ln1 ▸ hWx.1 9
  have b_at1 : (0 : Int) ≤ at1 ∧ at1 ≤ 3002 := ex_at1 ▸ hWx.1 10
  have z_tk1 := tz_f tk1
  have b_tk1 : (0 : Int) ≤ tk1 ∧ tk1 ≤ 5 := ex_tk1 ▸ hWx.1 11
  have b_fk1 : (0 : Int) ≤ fk1 ∧ fk1 ≤ 6 := ex_fk1 ▸ hWx.1 16
  have b_op1 : (-2147483648 : Int) ≤ op1 ∧ op1 ≤ 2147483647 := ex_op1 ▸ hWx.1 15
  have b_nd1 : (0 : Int) ≤ nd1 ∧ nd1 ≤ 6999 := ex_nd1 ▸ hWx.1 31
  have b_sy1 : (0 : Int) ≤ sy1 ∧ sy1 ≤ 202 := ex_sy1 ▸ hWx.1 19
  have b_na1 : (0 : Int) ≤ na1 ∧ na1 ≤ 200 := ex_na1 ▸ hWx.1 28
  have b_vi1 : (0 : Int) ≤ vi1 ∧ vi1 ≤ 202 := ex_vi1 ▸ hWx.1 29
  have b_pc1 : (0 : Int) ≤ pc1 ∧ pc1 ≤ 24 := ex_pc1 ▸ hWx.1 46
  have b_lk1 : (0 : Int) ≤ lk1 ∧ lk1 ≤ 12 := ex_lk1 ▸ hWx.1 52
  obtain ⟨Vs, s0, hs0, hlk0, h2s, hvb, hSW0, hPW0, hVL0, hwQ0, hwK0⟩ := iv_12; obtain ⟨sb, hsb⟩ : ∃ z : Int, z = sy1 := ⟨_, rfl⟩; obtain ⟨pb, hpb⟩ : ∃ z : Int, z = pc1 := ⟨_, rfl⟩; rw [← hsb] at hvb hSW0 hPW0 hVL0; rw [← hpb] at hPW0; have hle0 := wQ_le hwQ0
  refine jx_ld (pc' := 142) (l' := L) (st' := [.int (i32 (1))]) rfl (jl_iloadn gL_2) ?_
  refine jx_if_eq (pc' := 145) (tg := 184) rfl rfl rfl (by decide) (by decide) (fun h1 => ?_) (fun h1 => ?_)
  · have _q := h1
    exact absurd h1 (by omega)
  · have _q := h1
    refine jx_ld (pc' := 146) (l' := L) (st' := [.ref 66]) rfl (jl_aloadn gL_0) ?_
    refine jx_vr (pc' := 149) (as := []) (st := []) rfl rfl rfl rfl ⟨rfl, rfl, Nat.le_of_ble_eq_true rfl⟩ rfl rfl (c_bad (dd := d) (hd := by omega) (hW := hWx)  (fk := fk1) (e_fk := show Gx 16 = fk1 from (ex_fk1))    ) (fun o V' hq => ?_)
    obtain ⟨r2, rfl, rfl, b3, q4⟩ := hq
    refine .inr ⟨_, rfl, ?_⟩
    rcases q4 with ⟨rfl, a5⟩ | ⟨rfl, a6⟩
    · have _q : True := trivial
      exfalso
      omega
    · have _q : True := trivial
      refine jx_if_ne (pc' := 152) (tg := 170) rfl rfl rfl (by decide) (by decide) (fun h7 => ?_) (fun h7 => ?_)
      · have _q := h7
        exact absurd h7 (by omega)
      · have _q := h7
        refine jx_ld (pc' := 153) (l' := L) (st' := [.ref 66]) rfl (jl_aloadn gL_0) ?_
        refine jx_ar (pc' := 155) (st' := [.int (i32 (19)), .ref 66]) rfl rfl rfl rfl ?_
        have b8 : (-2147483648 : Int) ≤ Gx 13 ∧ Gx 13 ≤ 2147483647 := hWx.1 13
        refine jx_vr (pc' := 158) (as := [.int (i32 (19))]) (st := []) rfl rfl rfl rfl ⟨rfl, rfl, Nat.le_of_ble_eq_true rfl⟩ rfl rfl (c_isKey (dd := d) (hd := by omega) (hW := hWx) (k := 19) (tk := tk1) (e_tk := show Gx 11 = tk1 from (ex_tk1)) (tn := Gx 13) (e_tn := show Gx 13 = Gx 13 from rfl)  (h_k := ⟨(by decide), (by decide)⟩)  ) (fun o V' hq => ?_)
        obtain ⟨r9, rfl, rfl, b10, q11⟩ := hq
        refine .inr ⟨_, rfl, ?_⟩
        rcases q11 with ⟨rfl, a12, a13, a14⟩ | rfl
        · have _q : True := trivial
          refine jx_if_ne (pc' := 161) (tg := 170) rfl rfl rfl (by decide) (by decide) (fun h15 => ?_) (fun h15 => ?_)
          · have _q := h15
            refine jx_ld (pc' := 171) (l' := L) (st' := [.ref 66]) rfl (jl_aloadn gL_0) ?_
            refine jx_vr (pc' := 174) (as := []) (st := []) rfl rfl rfl rfl ⟨rfl, rfl, Nat.le_of_ble_eq_true rfl⟩ rfl rfl (c_bad (dd := d) (hd := by omega) (hW := hWx)  (fk := fk1) (e_fk := show Gx 16 = fk1 from (ex_fk1))    ) (fun o V' hq => ?_)
            obtain ⟨r16, rfl, rfl, b17, q18⟩ := hq
            refine .inr ⟨_, rfl, ?_⟩
            rcases q18 with ⟨rfl, a19⟩ | ⟨rfl, a20⟩
            · have _q : True := trivial
              exfalso
              omega
            · have _q : True := trivial
              refine jx_if_ne (pc' := 177) (tg := 195) rfl rfl rfl (by decide) (by decide) (fun h21 => ?_) (fun h21 => ?_)
              · have _q := h21
                exact absurd h21 (by omega)
              · have _q := h21
                refine jx_ld (pc' := 178) (l' := L) (st' := [.ref 66]) rfl (jl_aloadn gL_0) ?_
                refine jx_vr (pc' := 181) (as := []) (st := []) rfl rfl rfl rfl ⟨rfl, rfl, Nat.le_of_ble_eq_true rfl⟩ rfl rfl (c_readPlaced_w (dd := d) (hd := by omega) (hW := hWx)  (ln := ln1) (e_ln := show Gx 9 = ln1 from (ex_ln1)) (li := li) (e_li := show Gx 3 = li from ((hFx.1 3 rfl).trans (e_li))) (at0 := at1) (e_at0 := show Gx 10 = at1 from (ex_at1)) (fk := fk1) (e_fk := show Gx 16 = fk1 from (ex_fk1)) (nd := nd1) (e_nd := show Gx 31 = nd1 from (ex_nd1)) (sy := sy1) (e_sy := show Gx 19 = sy1 from (ex_sy1)) (na := na1) (e_na := show Gx 28 = na1 from (ex_na1)) (vi := vi1) (e_vi := show Gx 29 = vi1 from (ex_vi1)) (le := le1) (e_le := show Ax 4 (ln1).toNat = le1 from (ex_le1)) (op0 := op1) (e_op0 := show Gx 15 = op1 from (ex_op1)) (tk0 := tk1) (e_tk0 := show Gx 11 = tk1 from (ex_tk1)) (ec := ec1) (e_ec := show ecn Ax (Gx 31) = ec1 from ex_ec1) (i_LT := (LT_ext ((hFx.1 3 rfl)) ((hFx.2 3 rfl)) ((hFx.2 4 rfl)) i_LT)) (i_SV := (SW_sv hSW0 ((show Gx 29 = vi1 from (ex_vi1)).trans (by omega)))) (i_PQ := hPW0) (hvb := hvb)   (p_0 := by omega) (p_1 := by omega) (p_2 := by omega) (p_3 := by omega) (p_4 := by omega) (p_5 := by omega) (p_6 := by omega) (p_7 := by omega) (p_8 := iv_11) (p_9 := by omega)) (fun o V' hq => ?_)
                obtain ⟨G22, A23, ln2_24, at2_25, fk2_26, nd2_27, sy2_28, na2_29, vi2_30, lf2_31, ec2_32, rfl, rfl, hW33, hF34, hQ35, hQ36, hQ37, e38, e39, e40, e41, e42, e43, e44, e45, e46, p47, p48, p49, p50, p51, p52, q53⟩ := hq
                have hF54 := Fr_tr hFx hF34 (Fr_sub (by decide)) (Fr_sub (by decide))
                have sf55 : SW (Vs) (sb) (vi1) A23 := SW_fx hQ37 (by omega) hSW0
                have sf56 : PQ (Vs) (sb) (pb) (fun _ => 0) A23 := PQ_fxq hPW0 hQ36 (by omega) (Fx_f (w := pb) Fx_rf hF34 (by decide)) (by omega)
                have sf57 : VL (Vs) A23 (s0) (sb) := VL_fx hQ36 (by omega) hVL0
                have sf58 : wQ A23 (pc1).toNat (nd1) (s0) := wQ_fx (fun k j hk hj => hQ35 k j hk (by omega)) (Fx_su hQ36 (by omega)) (Fx_su (Fx_f (w := pc1) Fx_rf hF34 (by decide)) (by omega)) hwQ0
                have sf59 : wK A23 (s0) (lk1) := wK_fx hQ36 (Fx_f (w := lk1) Fx_rf hF34 (by decide)) (by omega) (by omega) (by omega) hwK0
                have bln2_24 : (0 : Int) ≤ ln2_24 ∧ ln2_24 ≤ 3000 := e38 ▸ hW33.1 9
                have bat2_25 : (0 : Int) ≤ at2_25 ∧ at2_25 ≤ 3002 := e39 ▸ hW33.1 10
                have bfk2_26 : (0 : Int) ≤ fk2_26 ∧ fk2_26 ≤ 6 := e40 ▸ hW33.1 16
                have bnd2_27 : (0 : Int) ≤ nd2_27 ∧ nd2_27 ≤ 6999 := e41 ▸ hW33.1 31
                have bsy2_28 : (0 : Int) ≤ sy2_28 ∧ sy2_28 ≤ 202 := e42 ▸ hW33.1 19
                have bna2_29 : (0 : Int) ≤ na2_29 ∧ na2_29 ≤ 200 := e43 ▸ hW33.1 28
                have bvi2_30 : (0 : Int) ≤ vi2_30 ∧ vi2_30 ≤ 202 := e44 ▸ hW33.1 29
                have blf2_31 : (0 : Int) ≤ lf2_31 ∧ lf2_31 ≤ 3000 := e45 ▸ hW33.2 3 _
                refine .inl ⟨rfl, ?_⟩
                rcases q53 with a60 | ⟨a61, a62, a63⟩
                · have _q : True := trivial
                  refine jx_go (tg := 195) rfl rfl ?_
                  refine jx_ld (pc' := 196) (l' := L) (st' := [.ref 66]) rfl (jl_aloadn gL_0) ?_
                  refine jx_vr (pc' := 199) (as := []) (st := []) rfl rfl rfl rfl ⟨rfl, rfl, Nat.le_of_ble_eq_true rfl⟩ rfl rfl (c_bad (dd := d) (hd := by omega) (hW := hW33)  (fk := fk2_26) (e_fk := show G22 16 = fk2_26 from (e40))    ) (fun o V' hq => ?_)
                  obtain ⟨r64, rfl, rfl, b65, q66⟩ := hq
                  refine .inr ⟨_, rfl, ?_⟩
                  rcases q66 with ⟨rfl, a67⟩ | ⟨rfl, a68⟩
                  · have _q : True := trivial
                    refine jx_if_ne (pc' := 202) (tg := 237) rfl rfl rfl (by decide) (by decide) (fun h69 => ?_) (fun h69 => ?_)
                    · have _q := h69
                      refine jx_rt (v := none) rfl rfl rfl rfl rfl rfl ?_
                      exact ⟨_, _, ln2_24, fk2_26, nd2_27, sy2_28, na2_29, vi2_30, pc1, lk1, ec2_32, rfl, rfl, hW33, hF54, (e38), (e40), (e41), (e42), (e43), (e44), ((hF34.1 46 rfl).trans (ex_pc1)), ((hF34.1 52 rfl).trans (ex_lk1)), e46, by first | exact Or.inl (by omega)⟩
                    · have _q := h69
                      exact absurd h69 (by omega)
                  · have _q : True := trivial
                    exfalso
                    omega
                · have _q : True := trivial
                  refine jx_go (tg := 195) rfl rfl ?_
                  refine jx_ld (pc' := 196) (l' := L) (st' := [.ref 66]) rfl (jl_aloadn gL_0) ?_
                  refine jx_vr (pc' := 199) (as := []) (st := []) rfl rfl rfl rfl ⟨rfl, rfl, Nat.le_of_ble_eq_true rfl⟩ rfl rfl (c_bad (dd := d) (hd := by omega) (hW := hW33)  (fk := fk2_26) (e_fk := show G22 16 = fk2_26 from (e40))    ) (fun o V' hq => ?_)
                  obtain ⟨r70, rfl, rfl, b71, q72⟩ := hq
                  refine .inr ⟨_, rfl, ?_⟩
                  rcases q72 with ⟨rfl, a73⟩ | ⟨rfl, a74⟩
                  · have _q : True := trivial
                    exfalso
                    omega
                  · have _q : True := trivial
                    refine jx_if_ne (pc' := 202) (tg := 237) rfl rfl rfl (by decide) (by decide) (fun h75 => ?_) (fun h75 => ?_)
                    · have _q := h75
                      exact absurd h75 (by omega)
                    · have _q := h75
                      refine jx_ld (pc' := 203) (l' := L) (st' := [.ref 66]) rfl (jl_aloadn gL_0) ?_
                      refine jr_get (pc' := 206) (i := 9) (v := .int (i32 (ln2_24))) rfl rfl (by decide) (rFv_eq (by decide) (show G22 9 = ln2_24 from (e38))) rfl ?_
                      refine jx_ld (pc' := 207) (l' := L) (st' := [.ref 66, .int (i32 (ln2_24))]) rfl (jl_aloadn gL_0) ?_
                      refine jr_get (pc' := 210) (i := 3) (v := .int (i32 (li))) rfl rfl (by decide) (rFv_eq (by decide) (show G22 3 = li from ((hF34.1 3 rfl).trans ((hFx.1 3 rfl).trans (e_li))))) rfl ?_
                      refine jx_icmp_ge (pc' := 213) (tg := 237) rfl rfl rfl (Int.le_trans (by decide : (-2147483648 : Int) ≤ 0) bln2_24.1) (Int.le_trans bln2_24.2 (by decide : (3000 : Int) ≤ 2147483647)) (Int.le_trans (by decide : (-2147483648 : Int) ≤ 0) b_li.1) (Int.le_trans b_li.2 (by decide : (3000 : Int) ≤ 2147483647)) (fun h76 => ?_) (fun h76 => ?_)
                      · have _q := h76
                        refine jx_rt (v := none) rfl rfl rfl rfl rfl rfl ?_
                        exact ⟨_, _, ln2_24, fk2_26, nd2_27, sy2_28, na2_29, vi2_30, pc1, lk1, ec2_32, rfl, rfl, hW33, hF54, (e38), (e40), (e41), (e42), (e43), (e44), ((hF34.1 46 rfl).trans (ex_pc1)), ((hF34.1 52 rfl).trans (ex_lk1)), e46, by first | exact Or.inr ((⟨by omega, (TT_mk (V := Vs) (lo := nd1) (s0 := s0) (t0 := sb) (by omega) (by omega) (by omega) hvb sf57 sf58 sf59 a62 (by omega) (by omega) (by omega) (by omega) (by omega) (by omega) (by omega) (by omega) (by omega) (by omega) (by omega)), by omega⟩))⟩
                      · have _q := h76
                        refine jx_ld (pc' := 214) (l' := L) (st' := [.ref 66]) rfl (jl_aloadn gL_0) ?_
                        refine jx_ar (pc' := 215) (st' := [.int (i32 (1)), .ref 66]) rfl rfl rfl rfl ?_
                        refine jx_ld (pc' := 216) (l' := L) (st' := [.ref 66, .int (i32 (1)), .ref 66]) rfl (jl_aloadn gL_0) ?_
                        refine jr_get (pc' := 219) (i := 6) (v := .ref 70) rfl rfl (by decide) rfl rfl ?_
                        refine jx_ld (pc' := 220) (l' := L) (st' := [.ref 66, .ref 70, .int (i32 (1)), .ref 66]) rfl (jl_aloadn gL_0) ?_
                        refine jr_get (pc' := 223) (i := 9) (v := .int (i32 (ln2_24))) rfl rfl (by decide) (rFv_eq (by decide) (show G22 9 = ln2_24 from (e38))) rfl ?_
                        refine jr_ldv (pc' := 224) (i := 3) (m := 3001) (z := ln2_24) (y := lf2_31) rfl (by decide) rfl (by decide) (Int.le_trans (by decide : (0 : Int) ≤ 0) bln2_24.1) (Int.lt_of_le_of_lt bln2_24.2 (by decide : (3000 : Int) < ((3001 : Nat) : Int))) rfl (show A23 3 (ln2_24).toNat = lf2_31 from (e45)) ?_
                        refine jx_ld (pc' := 225) (l' := L) (st' := [.ref 66, .int (i32 (lf2_31)), .int (i32 (1)), .ref 66]) rfl (jl_aloadn gL_0) ?_
                        refine jr_get (pc' := 228) (i := 5) (v := .ref 69) rfl rfl (by decide) rfl rfl ?_
                        refine jx_ld (pc' := 229) (l' := L) (st' := [.ref 66, .ref 69, .int (i32 (lf2_31)), .int (i32 (1)), .ref 66]) rfl (jl_aloadn gL_0) ?_
                        refine jr_get (pc' := 232) (i := 9) (v := .int (i32 (ln2_24))) rfl rfl (by decide) (rFv_eq (by decide) (show G22 9 = ln2_24 from (e38))) rfl ?_
                        have b77 : (0 : Int) ≤ A 2 (ln2_24).toNat ∧ A 2 (ln2_24).toNat ≤ 3000 := hW.2 2 _
                        refine jr_ldv (pc' := 233) (i := 2) (m := 3001) (z := ln2_24) (y := A 2 (ln2_24).toNat) rfl (by decide) rfl (by decide) (Int.le_trans (by decide : (0 : Int) ≤ 0) bln2_24.1) (Int.lt_of_le_of_lt bln2_24.2 (by decide : (3000 : Int) < ((3001 : Nat) : Int))) rfl (show A23 2 (ln2_24).toNat = A 2 (ln2_24).toNat from (congrFun ((hF34.2 2 rfl).trans (hFx.2 2 rfl)) _)) ?_
                        refine jx_sub (pc' := 234) rfl rfl ?_
                        refine jx_vr (pc' := 237) (as := [.int (i32 (1)), .int (i32 ((lf2_31 - A 2 (ln2_24).toNat)))]) (st := []) rfl rfl rfl rfl ⟨rfl, rfl, Nat.le_of_ble_eq_true rfl⟩ rfl rfl (c_fail (dd := d) (hd := by omega) (hW := hW33) (kind := 1) (place := (lf2_31 - A 2 (ln2_24).toNat)) (fk := fk2_26) (e_fk := show G22 16 = fk2_26 from (e40))  (h_kind := ⟨(by decide), (by decide)⟩) (h_place := ⟨(by omega), (by omega)⟩)  (p_0 := by omega) (p_1 := by omega)) (fun o V' hq => ?_)
                        obtain ⟨G78, A79, fk2_80, rfl, rfl, hW81, hF82, e83, p84, -⟩ := hq
                        have hF86 := Fr_tr hF54 hF82 (Fr_sub (by decide)) (Fr_sub (by decide))
                        have sf87 : SW (Vs) (sb) (vi1) A79 := (show A79 = A23 from funext (fun k => hF82.2 k rfl)) ▸ sf55
                        have sf88 : PQ (Vs) (sb) (pb) (fun _ => 0) A79 := (show A79 = A23 from funext (fun k => hF82.2 k rfl)) ▸ sf56
                        have sf89 : VL (Vs) A79 (s0) (sb) := (show A79 = A23 from funext (fun k => hF82.2 k rfl)) ▸ sf57
                        have sf90 : wQ A79 (pc1).toNat (nd1) (s0) := (show A79 = A23 from funext (fun k => hF82.2 k rfl)) ▸ sf58
                        have sf91 : wK A79 (s0) (lk1) := (show A79 = A23 from funext (fun k => hF82.2 k rfl)) ▸ sf59
                        have sf92 : wB A79 Vs pb (nd1) (nd2_27) (sy1) (sy2_28) := (show A79 = A23 from funext (fun k => hF82.2 k rfl)) ▸ a62
                        have ec93 : ecn A79 (G78 31) = ec2_32 := (ecn_f (hF82.2 15 rfl) (hF82.1 31 rfl)).trans e46
                        have bfk2_80 : (0 : Int) ≤ fk2_80 ∧ fk2_80 ≤ 6 := e83 ▸ hW81.1 16
                        refine .inl ⟨rfl, ?_⟩
                        refine jx_rt (v := none) rfl rfl rfl rfl rfl rfl ?_
                        exact ⟨_, _, ln2_24, fk2_80, nd2_27, sy2_28, na2_29, vi2_30, pc1, lk1, ec2_32, rfl, rfl, hW81, hF86, ((hF82.1 9 rfl).trans (e38)), (e83), ((hF82.1 31 rfl).trans (e41)), ((hF82.1 19 rfl).trans (e42)), ((hF82.1 28 rfl).trans (e43)), ((hF82.1 29 rfl).trans (e44)), ((hF82.1 46 rfl).trans ((hF34.1 46 rfl).trans (ex_pc1))), ((hF82.1 52 rfl).trans ((hF34.1 52 rfl).trans (ex_lk1))), ec93, by first | exact Or.inl (by omega)⟩
          · have _q := h15
            exact absurd h15 (by omega)
        · have _q : True := trivial
          refine jx_if_ne (pc' := 161) (tg := 170) rfl rfl rfl (by decide) (by decide) (fun h94 => ?_) (fun h94 => ?_)
          · have _q := h94
            exact absurd h94 (by omega)
          · have _q := h94
            refine jx_ld (pc' := 162) (l' := L) (st' := [.ref 66]) rfl (jl_aloadn gL_0) ?_
            refine jx_ar (pc' := 163) (st' := [.int (i32 (1)), .ref 66]) rfl rfl rfl rfl ?_
            refine jx_ld (pc' := 164) (l' := L) (st' := [.ref 66, .int (i32 (1)), .ref 66]) rfl (jl_aloadn gL_0) ?_
            have b95 : (-3000 : Int) ≤ Gx 12 ∧ Gx 12 ≤ 3002 := hWx.1 12
            refine jr_get (pc' := 167) (i := 12) (v := .int (i32 (Gx 12))) rfl rfl (by decide) rfl rfl ?_
            refine jx_vr (pc' := 170) (as := [.int (i32 (1)), .int (i32 (Gx 12))]) (st := []) rfl rfl rfl rfl ⟨rfl, rfl, Nat.le_of_ble_eq_true rfl⟩ rfl rfl (c_fail (dd := d) (hd := by omega) (hW := hWx) (kind := 1) (place := Gx 12) (fk := fk1) (e_fk := show Gx 16 = fk1 from (ex_fk1))  (h_kind := ⟨(by decide), (by decide)⟩) (h_place := ⟨(Int.le_trans (by decide : (-2147483648 : Int) ≤ -3000) b95.1), (Int.le_trans b95.2 (by decide : (3002 : Int) ≤ 2147483647))⟩)  (p_0 := by omega) (p_1 := by omega)) (fun o V' hq => ?_)
            obtain ⟨G96, A97, fk2_98, rfl, rfl, hW99, hF100, e101, p102, -⟩ := hq
            have hF104 := Fr_tr hFx hF100 (Fr_sub (by decide)) (Fr_sub (by decide))
            have sf105 : PZ A97 := (show A97 = Ax from funext (fun k => hF100.2 k rfl)) ▸ iv_11
            have sf106 : SW (Vs) (sb) (vi1) A97 := (show A97 = Ax from funext (fun k => hF100.2 k rfl)) ▸ hSW0
            have sf107 : PQ (Vs) (sb) (pb) (fun _ => 0) A97 := (show A97 = Ax from funext (fun k => hF100.2 k rfl)) ▸ hPW0
            have sf108 : VL (Vs) A97 (s0) (sb) := (show A97 = Ax from funext (fun k => hF100.2 k rfl)) ▸ hVL0
            have sf109 : wQ A97 (pc1).toNat (nd1) (s0) := (show A97 = Ax from funext (fun k => hF100.2 k rfl)) ▸ hwQ0
            have sf110 : wK A97 (s0) (lk1) := (show A97 = Ax from funext (fun k => hF100.2 k rfl)) ▸ hwK0
            have ec111 : ecn A97 (G96 31) = ec1 := (ecn_f (hF100.2 15 rfl) (hF100.1 31 rfl)).trans ex_ec1
            have bfk2_98 : (0 : Int) ≤ fk2_98 ∧ fk2_98 ≤ 6 := e101 ▸ hW99.1 16
            refine .inl ⟨rfl, ?_⟩
            refine jx_ld (pc' := 171) (l' := L) (st' := [.ref 66]) rfl (jl_aloadn gL_0) ?_
            refine jx_vr (pc' := 174) (as := []) (st := []) rfl rfl rfl rfl ⟨rfl, rfl, Nat.le_of_ble_eq_true rfl⟩ rfl rfl (c_bad (dd := d) (hd := by omega) (hW := hW99)  (fk := fk2_98) (e_fk := show G96 16 = fk2_98 from (e101))    ) (fun o V' hq => ?_)
            obtain ⟨r112, rfl, rfl, b113, q114⟩ := hq
            refine .inr ⟨_, rfl, ?_⟩
            rcases q114 with ⟨rfl, a115⟩ | ⟨rfl, a116⟩
            · have _q : True := trivial
              refine jx_if_ne (pc' := 177) (tg := 195) rfl rfl rfl (by decide) (by decide) (fun h117 => ?_) (fun h117 => ?_)
              · have _q := h117
                refine jx_ld (pc' := 196) (l' := L) (st' := [.ref 66]) rfl (jl_aloadn gL_0) ?_
                refine jx_vr (pc' := 199) (as := []) (st := []) rfl rfl rfl rfl ⟨rfl, rfl, Nat.le_of_ble_eq_true rfl⟩ rfl rfl (c_bad (dd := d) (hd := by omega) (hW := hW99)  (fk := fk2_98) (e_fk := show G96 16 = fk2_98 from (e101))    ) (fun o V' hq => ?_)
                obtain ⟨r118, rfl, rfl, b119, q120⟩ := hq
                refine .inr ⟨_, rfl, ?_⟩
                rcases q120 with ⟨rfl, a121⟩ | ⟨rfl, a122⟩
                · have _q : True := trivial
                  refine jx_if_ne (pc' := 202) (tg := 237) rfl rfl rfl (by decide) (by decide) (fun h123 => ?_) (fun h123 => ?_)
                  · have _q := h123
                    refine jx_rt (v := none) rfl rfl rfl rfl rfl rfl ?_
                    exact ⟨_, _, ln1, fk2_98, nd1, sy1, na1, vi1, pc1, lk1, ec1, rfl, rfl, hW99, hF104, ((hF100.1 9 rfl).trans (ex_ln1)), (e101), ((hF100.1 31 rfl).trans (ex_nd1)), ((hF100.1 19 rfl).trans (ex_sy1)), ((hF100.1 28 rfl).trans (ex_na1)), ((hF100.1 29 rfl).trans (ex_vi1)), ((hF100.1 46 rfl).trans (ex_pc1)), ((hF100.1 52 rfl).trans (ex_lk1)), ec111, by first | exact Or.inl (by omega)⟩
                  · have _q := h123
                    exact absurd h123 (by omega)
                · have _q : True := trivial
                  exfalso
                  omega
              · have _q := h117
                exact absurd h117 (by omega)
            · have _q : True := trivial
              exfalso
              omega
set_option maxRecDepth 20000 in
set_option maxHeartbeats 4000000 in
theorem c_readProgram_w_at_106_1 {X : jX} {d : Nat} {c0 c1 : jC} {G : Nat → Int} {A : Nat → Nat → Int} {T : jH} {ln li fk nd sy na vi lf pc lk ec : Int} (hd : 8 * 18 + 82 ≤ d + 1) (hW : Wk G A) (e_ln : G 9 = ln) (e_li : G 3 = li) (e_fk : G 16 = fk) (e_nd : G 31 = nd) (e_sy : G 19 = sy) (e_na : G 28 = na) (e_vi : G 29 = vi) (e_lf : A 3 (ln).toNat = lf) (e_pc : G 46 = pc) (e_lk : G 52 = lk) (e_ec : ecn A (G 31) = ec) (i_LT : LT G A) (p_0 : fk = 0) (p_1 : ln = 0) (p_2 : nd = 1) (p_3 : sy = 0) (p_4 : na = 0) (p_5 : vi = 0) (p_6 : pc = 0) (p_7 : lk = 0) (p_8 : PZ A) (p_9 : ec = 0) : ∀ (m : Nat) (L : jL) (Gx : Nat → Int) (Ax : Nat → Nat → Int) (ln1 at1 tk1 fk1 op1 nd1 sy1 na1 vi1 lf1 le1 pc1 lk1 ec1 : Int), (li - ln1).toNat = m → jGet L 0 = some (.ref 66) → jGet L 2 = some (.int (i32 (1))) → Wk Gx Ax → Fr [9, 10, 11, 12, 13, 14, 15, 16, 17, 18, 19, 28, 29, 31, 46, 52] [6, 7, 8, 9, 10, 11, 12, 14, 15, 16, 17, 18, 19, 20, 21, 22, 23, 24, 28, 29, 30, 31, 34, 35, 36] G A Gx Ax → Gx 9 = ln1 → Gx 10 = at1 → Gx 11 = tk1 → Gx 16 = fk1 → Gx 15 = op1 → Gx 31 = nd1 → Gx 19 = sy1 → Gx 28 = na1 → Gx 29 = vi1 → Ax 3 (ln1).toNat = lf1 → Ax 4 (ln1).toNat = le1 → Gx 46 = pc1 → Gx 52 = lk1 → ecn Ax (Gx 31) = ec1 → (fk1 = 0) → (0 ≤ lf1) → (ln1 < li) → (lf1 < le1) → (2 * lf1 ≤ 2 * at1 - tz tk1) → (lf1 ≤ at1) → (at1 ≤ le1) → (nd1 ≤ 2 * lf1 + 2) → (op1 = 0) → (sy1 ≤ na1 + 2) → (vi1 ≤ sy1) → (PZ Ax) → (TL Ax (pc1) (nd1) (sy1) (lk1) (vi1)) → (nd1 + 5 * ec1 ≤ 2 * lf1 + 2) → wj X d jm312 (106, L, [], rV c0 c1 Gx Ax T) (fun o V' => ∃ (G' : Nat → Int) (A' : Nat → Nat → Int) (ln2 : Int) (fk2 : Int) (nd2 : Int) (sy2 : Int) (na2 : Int) (vi2 : Int) (pc2 : Int) (lk2 : Int) (ec2 : Int), V' = rV c0 c1 G' A' T ∧ o = .inl none ∧ Wk G' A' ∧ Fr [9, 10, 11, 12, 13, 14, 15, 16, 17, 18, 19, 28, 29, 31, 46, 52] [6, 7, 8, 9, 10, 11, 12, 14, 15, 16, 17, 18, 19, 20, 21, 22, 23, 24, 28, 29, 30, 31, 34, 35, 36] G A G' A' ∧ G' 9 = ln2 ∧ G' 16 = fk2 ∧ G' 31 = nd2 ∧ G' 19 = sy2 ∧ G' 28 = na2 ∧ G' 29 = vi2 ∧ G' 46 = pc2 ∧ G' 52 = lk2 ∧ ecn A' (G' 31) = ec2 ∧ (((1 ≤ fk2)) ∨ ((fk2 = 0) ∧ (TT A' (pc2) (nd2) (sy2) (lk2)) ∧ (nd2 + 5 * ec2 ≤ 6050)))) := by
  have hF0 : Fr [9, 10, 11, 12, 13, 14, 15, 16, 17, 18, 19, 28, 29, 31, 46, 52] [6, 7, 8, 9, 10, 11, 12, 14, 15, 16, 17, 18, 19, 20, 21, 22, 23, 24, 28, 29, 30, 31, 34, 35, 36] G A G A := Fr_rf
  have b_ln : (0 : Int) ≤ ln ∧ ln ≤ 3000 := e_ln ▸ hW.1 9
  have b_li : (0 : Int) ≤ li ∧ li ≤ 3000 := e_li ▸ hW.1 3
  have b_fk : (0 : Int) ≤ fk ∧ fk ≤ 6 := e_fk ▸ hW.1 16
  have b_nd : (0 : Int) ≤ nd ∧ nd ≤ 6999 := e_nd ▸ hW.1 31
  have b_sy : (0 : Int) ≤ sy ∧ sy ≤ 202 := e_sy ▸ hW.1 19
  have b_na : (0 : Int) ≤ na ∧ na ≤ 200 := e_na ▸ hW.1 28
  have b_vi : (0 : Int) ≤ vi ∧ vi ≤ 202 := e_vi ▸ hW.1 29
  have b_lf : (0 : Int) ≤ lf ∧ lf ≤ 3000 := e_lf ▸ hW.2 3 _
  have b_pc : (0 : Int) ≤ pc ∧ pc ≤ 24 := e_pc ▸ hW.1 46
  have b_lk : (0 : Int) ≤ lk ∧ lk ≤ 12 := e_lk ▸ hW.1 52
  intro m
  induction m using Nat.strongRecOn with
  | ind m ih106_1 =>
    intro L Gx Ax ln1 at1 tk1 fk1 op1 nd1 sy1 na1 vi1 lf1 le1 pc1 lk1 ec1 hm gL_0 gL_2 hWx hFx ex_ln1 ex_at1 ex_tk1 ex_fk1 ex_op1 ex_nd1 ex_sy1 ex_na1 ex_vi1 ex_lf1 ex_le1 ex_pc1 ex_lk1 ex_ec1 iv_0 iv_1 iv_2 iv_3 iv_4 iv_5 iv_6 iv_7 iv_8 iv_9 iv_10 iv_11 iv_12 iv_13
    have b_ln1 : (0 : Int) ≤ ln1 ∧ ln1 ≤ 3000 := ex_ln1 ▸ hWx.1 9
    have b_at1 : (0 : Int) ≤ at1 ∧ at1 ≤ 3002 := ex_at1 ▸ hWx.1 10
    have z_tk1 := tz_f tk1
    have b_tk1 : (0 : Int) ≤ tk1 ∧ tk1 ≤ 5 := ex_tk1 ▸ hWx.1 11
    have b_fk1 : (0 : Int) ≤ fk1 ∧ fk1 ≤ 6 := ex_fk1 ▸ hWx.1 16
    have b_op1 : (-2147483648 : Int) ≤ op1 ∧ op1 ≤ 2147483647 := ex_op1 ▸ hWx.1 15
    have b_nd1 : (0 : Int) ≤ nd1 ∧ nd1 ≤ 6999 := ex_nd1 ▸ hWx.1 31
    have b_sy1 : (0 : Int) ≤ sy1 ∧ sy1 ≤ 202 := ex_sy1 ▸ hWx.1 19
    have b_na1 : (0 : Int) ≤ na1 ∧ na1 ≤ 200 := ex_na1 ▸ hWx.1 28
    have b_vi1 : (0 : Int) ≤ vi1 ∧ vi1 ≤ 202 := ex_vi1 ▸ hWx.1 29
    have b_pc1 : (0 : Int) ≤ pc1 ∧ pc1 ≤ 24 := ex_pc1 ▸ hWx.1 46
    have b_lk1 : (0 : Int) ≤ lk1 ∧ lk1 ≤ 12 := ex_lk1 ▸ hWx.1 52
    obtain ⟨Vs, s0, hs0, hlk0, h2s, hvb, hSW0, hPW0, hVL0, hwQ0, hwK0⟩ := iv_12; obtain ⟨sb, hsb⟩ : ∃ z : Int, z = sy1 := ⟨_, rfl⟩; obtain ⟨pb, hpb⟩ : ∃ z : Int, z = pc1 := ⟨_, rfl⟩; rw [← hsb] at hvb hSW0 hPW0 hVL0; rw [← hpb] at hPW0; have hle0 := wQ_le hwQ0
    refine jx_ld (pc' := 107) (l' := L) (st' := [.ref 66]) rfl (jl_aloadn gL_0) ?_
    refine jx_vr (pc' := 110) (as := []) (st := []) rfl rfl rfl rfl ⟨rfl, rfl, Nat.le_of_ble_eq_true rfl⟩ rfl rfl (c_bad (dd := d) (hd := by omega) (hW := hWx)  (fk := fk1) (e_fk := show Gx 16 = fk1 from (ex_fk1))    ) (fun o V' hq => ?_)
    obtain ⟨r124, rfl, rfl, b125, q126⟩ := hq
    refine .inr ⟨_, rfl, ?_⟩
    rcases q126 with ⟨rfl, a127⟩ | ⟨rfl, a128⟩
    · have _q : True := trivial
      exfalso
      omega
    · have _q : True := trivial
      refine jx_if_ne (pc' := 113) (tg := 141) rfl rfl rfl (by decide) (by decide) (fun h129 => ?_) (fun h129 => ?_)
      · have _q := h129
        exact absurd h129 (by omega)
      · have _q := h129
        refine jx_ld (pc' := 114) (l' := L) (st' := [.ref 66]) rfl (jl_aloadn gL_0) ?_
        refine jx_ar (pc' := 116) (st' := [.int (i32 (21)), .ref 66]) rfl rfl rfl rfl ?_
        have b130 : (-2147483648 : Int) ≤ Gx 13 ∧ Gx 13 ≤ 2147483647 := hWx.1 13
        refine jx_vr (pc' := 119) (as := [.int (i32 (21))]) (st := []) rfl rfl rfl rfl ⟨rfl, rfl, Nat.le_of_ble_eq_true rfl⟩ rfl rfl (c_isKey2 (dd := d) (hd := by omega) (hW := hWx) (k := 21) (tk := tk1) (e_tk := show Gx 11 = tk1 from (ex_tk1)) (tn := Gx 13) (e_tn := show Gx 13 = Gx 13 from rfl)  (h_k := ⟨(by decide), (by decide)⟩)  ) (fun o V' hq => ?_)
        obtain ⟨r131, rfl, rfl, b132, q133⟩ := hq
        refine .inr ⟨_, rfl, ?_⟩
        rcases q133 with ⟨rfl, a134, a135, a136⟩ | ⟨rfl, a137⟩
        · have _q : True := trivial
          refine jx_if_eq (pc' := 122) (tg := 141) rfl rfl rfl (by decide) (by decide) (fun h138 => ?_) (fun h138 => ?_)
          · have _q := h138
            exact absurd h138 (by omega)
          · have _q := h138
            refine jx_ld (pc' := 123) (l' := L) (st' := [.ref 66]) rfl (jl_aloadn gL_0) ?_
            refine jx_vr (pc' := 126) (as := []) (st := []) rfl rfl rfl rfl ⟨rfl, rfl, Nat.le_of_ble_eq_true rfl⟩ rfl rfl (c_readLink (dd := d) (hd := by omega) (hW := hWx)  (ln := ln1) (e_ln := show Gx 9 = ln1 from (ex_ln1)) (le := le1) (e_le := show Ax 4 (ln1).toNat = le1 from (ex_le1)) (at0 := at1) (e_at0 := show Gx 10 = at1 from (ex_at1)) (fk := fk1) (e_fk := show Gx 16 = fk1 from (ex_fk1)) (tk0 := tk1) (e_tk0 := show Gx 11 = tk1 from (ex_tk1)) (sy := sy1) (e_sy := show Gx 19 = sy1 from (ex_sy1)) (na := na1) (e_na := show Gx 28 = na1 from (ex_na1)) (li := li) (e_li := show Gx 3 = li from ((hFx.1 3 rfl).trans (e_li))) (vi := vi1) (e_vi := show Gx 29 = vi1 from (ex_vi1)) (lk0 := lk1) (e_lk0 := show Gx 52 = lk1 from (ex_lk1)) (i_LT := (LT_ext ((hFx.1 3 rfl)) ((hFx.2 3 rfl)) ((hFx.2 4 rfl)) i_LT)) (i_SV := (SW_sv hSW0 ((show Gx 29 = vi1 from (ex_vi1)).trans (by omega)))) (i_PQ := hPW0) (hvb := hvb)   (p_0 := by omega) (p_1 := by omega) (p_2 := by omega) (p_3 := by omega) (p_4 := by omega) (p_5 := by omega)) (fun o V' hq => ?_)
            obtain ⟨G139, A140, ln2_141, at2_142, fk2_143, sy2_144, na2_145, vi2_146, lk2_147, rfl, rfl, hW148, hF149, hQ150, hQ151, hQ152, e153, e154, e155, e156, e157, e158, e159, p160, p161, p162, p163, p164, p165, p166, q167⟩ := hq
            have hF168 := Fr_tr hFx hF149 (Fr_sub (by decide)) (Fr_sub (by decide))
            have sf169 : PZ A140 := PZ_ext (hF149.2 36 rfl) iv_11
            have sf170 : SW (Vs) (sb) (vi1) A140 := SW_fx hQ151 (by omega) hSW0
            have sf171 : PQ (Vs) (sb) (pb) (fun _ => 0) A140 := PQ_fxq hPW0 hQ150 (by omega) (Fx_f (w := pb) Fx_rf hF149 (by decide)) (by omega)
            have sf172 : VL (Vs) A140 (s0) (sb) := VL_fx hQ150 (by omega) hVL0
            have sf173 : wQ A140 (pc1).toNat (nd1) (s0) := wQ_fx (Pf_f Pf_rf hF149 (by decide)) (Fx_su hQ150 (by omega)) (Fx_su (Fx_f (w := pc1) Fx_rf hF149 (by decide)) (by omega)) hwQ0
            have sf174 : wK A140 (s0) (lk1) := wK_fx hQ150 hQ152 (by omega) (by omega) (by omega) hwK0
            have ec175 : ecn A140 (G139 31) = ec1 := (ecn_f (hF149.2 15 rfl) (hF149.1 31 rfl)).trans ex_ec1
            have bln2_141 : (0 : Int) ≤ ln2_141 ∧ ln2_141 ≤ 3000 := e153 ▸ hW148.1 9
            have bat2_142 : (0 : Int) ≤ at2_142 ∧ at2_142 ≤ 3002 := e154 ▸ hW148.1 10
            have bfk2_143 : (0 : Int) ≤ fk2_143 ∧ fk2_143 ≤ 6 := e155 ▸ hW148.1 16
            have bsy2_144 : (0 : Int) ≤ sy2_144 ∧ sy2_144 ≤ 202 := e156 ▸ hW148.1 19
            have bna2_145 : (0 : Int) ≤ na2_145 ∧ na2_145 ≤ 200 := e157 ▸ hW148.1 28
            have bvi2_146 : (0 : Int) ≤ vi2_146 ∧ vi2_146 ≤ 202 := e158 ▸ hW148.1 29
            have blk2_147 : (0 : Int) ≤ lk2_147 ∧ lk2_147 ≤ 12 := e159 ▸ hW148.1 52
            refine .inl ⟨rfl, ?_⟩
            rcases q167 with a176 | ⟨a177, a178, a179, a180, a181, a182, a183, a184⟩
            · have _q : True := trivial
              refine jx_ld (pc' := 127) (l' := L) (st' := [.ref 66]) rfl (jl_aloadn gL_0) ?_
              refine jx_ar (pc' := 128) (st' := [.int (i32 (0)), .ref 66]) rfl rfl rfl rfl ?_
              have b185 : (-1 : Int) ≤ A 5 (ln2_141).toNat ∧ A 5 (ln2_141).toNat ≤ 15 := hW.2 5 _
              refine jx_vr (pc' := 131) (as := [.int (i32 (0))]) (st := []) rfl rfl rfl rfl ⟨rfl, rfl, Nat.le_of_ble_eq_true rfl⟩ rfl rfl (c_needLevel (dd := d) (hd := by omega) (hW := hW148) (lv := 0) (ln := ln2_141) (e_ln := show G139 9 = ln2_141 from (e153)) (li := li) (e_li := show G139 3 = li from ((hF149.1 3 rfl).trans ((hFx.1 3 rfl).trans (e_li)))) (fk := fk2_143) (e_fk := show G139 16 = fk2_143 from (e155)) (ll := A 5 (ln2_141).toNat) (e_ll := show A140 5 (ln2_141).toNat = A 5 (ln2_141).toNat from (congrFun ((hF149.2 5 rfl).trans (hFx.2 5 rfl)) _))  (h_lv := ⟨(by decide), (by decide)⟩)  ) (fun o V' hq => ?_)
              obtain ⟨G186, A187, r188, fk2_189, rfl, rfl, hW190, hF191, b192, e193, q194⟩ := hq
              have hF195 := Fr_tr hF168 hF191 (Fr_sub (by decide)) (Fr_sub (by decide))
              have sf196 : PZ A187 := (show A187 = A140 from funext (fun k => hF191.2 k rfl)) ▸ sf169
              have sf197 : SW (Vs) (sb) (vi1) A187 := (show A187 = A140 from funext (fun k => hF191.2 k rfl)) ▸ sf170
              have sf198 : PQ (Vs) (sb) (pb) (fun _ => 0) A187 := (show A187 = A140 from funext (fun k => hF191.2 k rfl)) ▸ sf171
              have sf199 : VL (Vs) A187 (s0) (sb) := (show A187 = A140 from funext (fun k => hF191.2 k rfl)) ▸ sf172
              have sf200 : wQ A187 (pc1).toNat (nd1) (s0) := (show A187 = A140 from funext (fun k => hF191.2 k rfl)) ▸ sf173
              have sf201 : wK A187 (s0) (lk1) := (show A187 = A140 from funext (fun k => hF191.2 k rfl)) ▸ sf174
              have ec202 : ecn A187 (G186 31) = ec1 := (ecn_f (hF191.2 15 rfl) (hF191.1 31 rfl)).trans ec175
              have bfk2_189 : (0 : Int) ≤ fk2_189 ∧ fk2_189 ≤ 6 := e193 ▸ hW190.1 16
              refine .inr ⟨_, rfl, ?_⟩
              rcases q194 with ⟨rfl, a203, a204, a205, a206⟩ | ⟨rfl, a207⟩
              · have _q : True := trivial
                exfalso
                omega
              · have _q : True := trivial
                refine jx_if_eq (pc' := 134) (tg := 106) rfl rfl rfl (by decide) (by decide) (fun h208 => ?_) (fun h208 => ?_)
                · have _q := h208
                  refine jx_ld (pc' := 107) (l' := L) (st' := [.ref 66]) rfl (jl_aloadn gL_0) ?_
                  refine jx_vr (pc' := 110) (as := []) (st := []) rfl rfl rfl rfl ⟨rfl, rfl, Nat.le_of_ble_eq_true rfl⟩ rfl rfl (c_bad (dd := d) (hd := by omega) (hW := hW190)  (fk := fk2_189) (e_fk := show G186 16 = fk2_189 from (e193))    ) (fun o V' hq => ?_)
                  obtain ⟨r209, rfl, rfl, b210, q211⟩ := hq
                  refine .inr ⟨_, rfl, ?_⟩
                  rcases q211 with ⟨rfl, a212⟩ | ⟨rfl, a213⟩
                  · have _q : True := trivial
                    refine jx_if_ne (pc' := 113) (tg := 141) rfl rfl rfl (by decide) (by decide) (fun h214 => ?_) (fun h214 => ?_)
                    · have _q := h214
                      refine jx_ld (pc' := 142) (l' := L) (st' := [.int (i32 (1))]) rfl (jl_iloadn gL_2) ?_
                      refine jx_if_eq (pc' := 145) (tg := 184) rfl rfl rfl (by decide) (by decide) (fun h215 => ?_) (fun h215 => ?_)
                      · have _q := h215
                        exact absurd h215 (by omega)
                      · have _q := h215
                        refine jx_ld (pc' := 146) (l' := L) (st' := [.ref 66]) rfl (jl_aloadn gL_0) ?_
                        refine jx_vr (pc' := 149) (as := []) (st := []) rfl rfl rfl rfl ⟨rfl, rfl, Nat.le_of_ble_eq_true rfl⟩ rfl rfl (c_bad (dd := d) (hd := by omega) (hW := hW190)  (fk := fk2_189) (e_fk := show G186 16 = fk2_189 from (e193))    ) (fun o V' hq => ?_)
                        obtain ⟨r216, rfl, rfl, b217, q218⟩ := hq
                        refine .inr ⟨_, rfl, ?_⟩
                        rcases q218 with ⟨rfl, a219⟩ | ⟨rfl, a220⟩
                        · have _q : True := trivial
                          refine jx_if_ne (pc' := 152) (tg := 170) rfl rfl rfl (by decide) (by decide) (fun h221 => ?_) (fun h221 => ?_)
                          · have _q := h221
                            refine jx_ld (pc' := 171) (l' := L) (st' := [.ref 66]) rfl (jl_aloadn gL_0) ?_
                            refine jx_vr (pc' := 174) (as := []) (st := []) rfl rfl rfl rfl ⟨rfl, rfl, Nat.le_of_ble_eq_true rfl⟩ rfl rfl (c_bad (dd := d) (hd := by omega) (hW := hW190)  (fk := fk2_189) (e_fk := show G186 16 = fk2_189 from (e193))    ) (fun o V' hq => ?_)
                            obtain ⟨r222, rfl, rfl, b223, q224⟩ := hq
                            refine .inr ⟨_, rfl, ?_⟩
                            rcases q224 with ⟨rfl, a225⟩ | ⟨rfl, a226⟩
                            · have _q : True := trivial
                              refine jx_if_ne (pc' := 177) (tg := 195) rfl rfl rfl (by decide) (by decide) (fun h227 => ?_) (fun h227 => ?_)
                              · have _q := h227
                                refine jx_ld (pc' := 196) (l' := L) (st' := [.ref 66]) rfl (jl_aloadn gL_0) ?_
                                refine jx_vr (pc' := 199) (as := []) (st := []) rfl rfl rfl rfl ⟨rfl, rfl, Nat.le_of_ble_eq_true rfl⟩ rfl rfl (c_bad (dd := d) (hd := by omega) (hW := hW190)  (fk := fk2_189) (e_fk := show G186 16 = fk2_189 from (e193))    ) (fun o V' hq => ?_)
                                obtain ⟨r228, rfl, rfl, b229, q230⟩ := hq
                                refine .inr ⟨_, rfl, ?_⟩
                                rcases q230 with ⟨rfl, a231⟩ | ⟨rfl, a232⟩
                                · have _q : True := trivial
                                  refine jx_if_ne (pc' := 202) (tg := 237) rfl rfl rfl (by decide) (by decide) (fun h233 => ?_) (fun h233 => ?_)
                                  · have _q := h233
                                    refine jx_rt (v := none) rfl rfl rfl rfl rfl rfl ?_
                                    exact ⟨_, _, ln2_141, fk2_189, nd1, sy2_144, na2_145, vi2_146, pc1, lk2_147, ec1, rfl, rfl, hW190, hF195, ((hF191.1 9 rfl).trans (e153)), (e193), ((hF191.1 31 rfl).trans ((hF149.1 31 rfl).trans (ex_nd1))), ((hF191.1 19 rfl).trans (e156)), ((hF191.1 28 rfl).trans (e157)), ((hF191.1 29 rfl).trans (e158)), ((hF191.1 46 rfl).trans ((hF149.1 46 rfl).trans (ex_pc1))), ((hF191.1 52 rfl).trans (e159)), ec202, by first | exact Or.inl (by omega)⟩
                                  · have _q := h233
                                    exact absurd h233 (by omega)
                                · have _q : True := trivial
                                  exfalso
                                  omega
                              · have _q := h227
                                exact absurd h227 (by omega)
                            · have _q : True := trivial
                              exfalso
                              omega
                          · have _q := h221
                            exact absurd h221 (by omega)
                        · have _q : True := trivial
                          exfalso
                          omega
                    · have _q := h214
                      exact absurd h214 (by omega)
                  · have _q : True := trivial
                    exfalso
                    omega
                · have _q := h208
                  exact absurd h208 (by omega)
            · have _q : True := trivial
              have b234 : (0 : Int) ≤ A 3 (ln2_141).toNat ∧ A 3 (ln2_141).toNat ≤ 3000 := hW.2 3 _
              have lt235 : ln2_141 < li → le1 < A 3 (ln2_141).toNat := fun hh => LT_nx (LT_ext (((hF149.1 3 rfl).trans (hFx.1 3 rfl))) (((hF149.2 3 rfl).trans (hFx.2 3 rfl))) (((hF149.2 4 rfl).trans (hFx.2 4 rfl))) i_LT) (show G139 3 = li from ((hF149.1 3 rfl).trans ((hFx.1 3 rfl).trans (e_li)))) (show A140 4 (ln1).toNat = le1 from (congrFun (hF149.2 4 rfl) _).trans (ex_le1)) (show A140 3 (ln2_141).toNat = A 3 (ln2_141).toNat from (congrFun ((hF149.2 3 rfl).trans (hFx.2 3 rfl)) _)) (show ln2_141 = ln1 + 1 by omega) (by omega) hh
              refine jx_ld (pc' := 127) (l' := L) (st' := [.ref 66]) rfl (jl_aloadn gL_0) ?_
              refine jx_ar (pc' := 128) (st' := [.int (i32 (0)), .ref 66]) rfl rfl rfl rfl ?_
              have b236 : (-1 : Int) ≤ A 5 (ln2_141).toNat ∧ A 5 (ln2_141).toNat ≤ 15 := hW.2 5 _
              refine jx_vr (pc' := 131) (as := [.int (i32 (0))]) (st := []) rfl rfl rfl rfl ⟨rfl, rfl, Nat.le_of_ble_eq_true rfl⟩ rfl rfl (c_needLevel (dd := d) (hd := by omega) (hW := hW148) (lv := 0) (ln := ln2_141) (e_ln := show G139 9 = ln2_141 from (e153)) (li := li) (e_li := show G139 3 = li from ((hF149.1 3 rfl).trans ((hFx.1 3 rfl).trans (e_li)))) (fk := fk2_143) (e_fk := show G139 16 = fk2_143 from (e155)) (ll := A 5 (ln2_141).toNat) (e_ll := show A140 5 (ln2_141).toNat = A 5 (ln2_141).toNat from (congrFun ((hF149.2 5 rfl).trans (hFx.2 5 rfl)) _))  (h_lv := ⟨(by decide), (by decide)⟩)  ) (fun o V' hq => ?_)
              obtain ⟨G237, A238, r239, fk2_240, rfl, rfl, hW241, hF242, b243, e244, q245⟩ := hq
              have hF246 := Fr_tr hF168 hF242 (Fr_sub (by decide)) (Fr_sub (by decide))
              have sf247 : PZ A238 := (show A238 = A140 from funext (fun k => hF242.2 k rfl)) ▸ sf169
              have sf248 : SW (Vs) (sb) (vi1) A238 := (show A238 = A140 from funext (fun k => hF242.2 k rfl)) ▸ sf170
              have sf249 : PQ (Vs) (sb) (pb) (fun _ => 0) A238 := (show A238 = A140 from funext (fun k => hF242.2 k rfl)) ▸ sf171
              have sf250 : VL (Vs) A238 (s0) (sb) := (show A238 = A140 from funext (fun k => hF242.2 k rfl)) ▸ sf172
              have sf251 : wQ A238 (pc1).toNat (nd1) (s0) := (show A238 = A140 from funext (fun k => hF242.2 k rfl)) ▸ sf173
              have sf252 : wK A238 (s0) (lk1) := (show A238 = A140 from funext (fun k => hF242.2 k rfl)) ▸ sf174
              have sf253 : SW (Vu Vs sy1) (sy2_144) (vi2_146) A238 := (show A238 = A140 from funext (fun k => hF242.2 k rfl)) ▸ a182
              have sf254 : PQ (Vu Vs sy1) (sy2_144) (pb) (fun _ => 0) A238 := (show A238 = A140 from funext (fun k => hF242.2 k rfl)) ▸ a183
              have sf255 : LK A238 (sy1) (lk1) := (show A238 = A140 from funext (fun k => hF242.2 k rfl)) ▸ a184
              have ec256 : ecn A238 (G237 31) = ec1 := (ecn_f (hF242.2 15 rfl) (hF242.1 31 rfl)).trans ec175
              have bfk2_240 : (0 : Int) ≤ fk2_240 ∧ fk2_240 ≤ 6 := e244 ▸ hW241.1 16
              refine .inr ⟨_, rfl, ?_⟩
              rcases q245 with ⟨rfl, a257, a258, a259, a260⟩ | ⟨rfl, a261⟩
              · have _q : True := trivial
                have b262 : (0 : Int) ≤ A 4 (ln2_141).toNat ∧ A 4 (ln2_141).toNat ≤ 3000 := hW.2 4 _
                have lt263 : A 3 (ln2_141).toNat < A 4 (ln2_141).toNat := LT_at (LT_ext (((hF242.1 3 rfl).trans ((hF149.1 3 rfl).trans (hFx.1 3 rfl)))) (((hF242.2 3 rfl).trans ((hF149.2 3 rfl).trans (hFx.2 3 rfl)))) (((hF242.2 4 rfl).trans ((hF149.2 4 rfl).trans (hFx.2 4 rfl)))) i_LT) (show G237 3 = li from ((hF242.1 3 rfl).trans ((hF149.1 3 rfl).trans ((hFx.1 3 rfl).trans (e_li))))) (show A238 3 (ln2_141).toNat = A 3 (ln2_141).toNat from (congrFun ((hF242.2 3 rfl).trans ((hF149.2 3 rfl).trans (hFx.2 3 rfl))) _)) (show A238 4 (ln2_141).toNat = A 4 (ln2_141).toNat from (congrFun ((hF242.2 4 rfl).trans ((hF149.2 4 rfl).trans (hFx.2 4 rfl))) _)) (by omega) (by omega)
                refine jx_if_eq (pc' := 134) (tg := 106) rfl rfl rfl (by decide) (by decide) (fun h264 => ?_) (fun h264 => ?_)
                · have _q := h264
                  exact absurd h264 (by omega)
                · have _q := h264
                  refine jx_ld (pc' := 135) (l' := L) (st' := [.ref 66]) rfl (jl_aloadn gL_0) ?_
                  refine jx_vr (pc' := 138) (as := []) (st := []) rfl rfl rfl rfl ⟨rfl, rfl, Nat.le_of_ble_eq_true rfl⟩ rfl rfl (c_openLine (dd := d) (hd := by omega) (hW := hW241)  (ln := ln2_141) (e_ln := show G237 9 = ln2_141 from ((hF242.1 9 rfl).trans (e153))) (le := A 4 (ln2_141).toNat) (e_le := show A238 4 (ln2_141).toNat = A 4 (ln2_141).toNat from (congrFun ((hF242.2 4 rfl).trans ((hF149.2 4 rfl).trans (hFx.2 4 rfl))) _)) (lf := A 3 (ln2_141).toNat) (e_lf := show A238 3 (ln2_141).toNat = A 3 (ln2_141).toNat from (congrFun ((hF242.2 3 rfl).trans ((hF149.2 3 rfl).trans (hFx.2 3 rfl))) _))    (p_0 := by omega)) (fun o V' hq => ?_)
                  obtain ⟨G265, A266, at2_267, tk2_268, op2_269, rfl, rfl, hW270, hF271, e272, e273, e274, p275, p276, p277, p278, -⟩ := hq
                  have hF280 := Fr_tr hF246 hF271 (Fr_sub (by decide)) (Fr_sub (by decide))
                  have sf281 : PZ A266 := (show A266 = A238 from funext (fun k => hF271.2 k rfl)) ▸ sf247
                  have sf282 : SW (Vs) (sb) (vi1) A266 := (show A266 = A238 from funext (fun k => hF271.2 k rfl)) ▸ sf248
                  have sf283 : PQ (Vs) (sb) (pb) (fun _ => 0) A266 := (show A266 = A238 from funext (fun k => hF271.2 k rfl)) ▸ sf249
                  have sf284 : VL (Vs) A266 (s0) (sb) := (show A266 = A238 from funext (fun k => hF271.2 k rfl)) ▸ sf250
                  have sf285 : wQ A266 (pc1).toNat (nd1) (s0) := (show A266 = A238 from funext (fun k => hF271.2 k rfl)) ▸ sf251
                  have sf286 : wK A266 (s0) (lk1) := (show A266 = A238 from funext (fun k => hF271.2 k rfl)) ▸ sf252
                  have sf287 : SW (Vu Vs sy1) (sy2_144) (vi2_146) A266 := (show A266 = A238 from funext (fun k => hF271.2 k rfl)) ▸ sf253
                  have sf288 : PQ (Vu Vs sy1) (sy2_144) (pb) (fun _ => 0) A266 := (show A266 = A238 from funext (fun k => hF271.2 k rfl)) ▸ sf254
                  have sf289 : LK A266 (sy1) (lk1) := (show A266 = A238 from funext (fun k => hF271.2 k rfl)) ▸ sf255
                  have ec290 : ecn A266 (G265 31) = ec1 := (ecn_f (hF271.2 15 rfl) (hF271.1 31 rfl)).trans ec256
                  have bat2_267 : (0 : Int) ≤ at2_267 ∧ at2_267 ≤ 3002 := e272 ▸ hW270.1 10
                  have ztk2_268 := tz_b tk2_268
                  have btk2_268 : (0 : Int) ≤ tk2_268 ∧ tk2_268 ≤ 5 := e273 ▸ hW270.1 11
                  have bop2_269 : (-2147483648 : Int) ≤ op2_269 ∧ op2_269 ≤ 2147483647 := e274 ▸ hW270.1 15
                  refine .inl ⟨rfl, ?_⟩
                  have pz291 : (A 3 (ln2_141).toNat) + tz tk2_268 ≤ at2_267 := by omega
                  refine jx_go (tg := 106) rfl rfl ?_
                  have z292 := tz_f (tk2_268)
                  exact ih106_1 _ (by omega) L G265 A266 (ln2_141) (at2_267) (tk2_268) (fk2_240) (op2_269) (nd1) (sy2_144) (na2_145) (vi2_146) (A 3 (ln2_141).toNat) (A 4 (ln2_141).toNat) (pc1) (lk2_147) (ec1) rfl gL_0 gL_2 hW270 hF280 (((hF271.1 9 rfl).trans ((hF242.1 9 rfl).trans (e153)))) ((e272)) ((e273)) (((hF271.1 16 rfl).trans (e244))) ((e274)) (((hF271.1 31 rfl).trans ((hF242.1 31 rfl).trans ((hF149.1 31 rfl).trans (ex_nd1))))) (((hF271.1 19 rfl).trans ((hF242.1 19 rfl).trans (e156)))) (((hF271.1 28 rfl).trans ((hF242.1 28 rfl).trans (e157)))) (((hF271.1 29 rfl).trans ((hF242.1 29 rfl).trans (e158)))) ((congrFun ((hF271.2 3 rfl).trans ((hF242.2 3 rfl).trans ((hF149.2 3 rfl).trans (hFx.2 3 rfl)))) _)) ((congrFun ((hF271.2 4 rfl).trans ((hF242.2 4 rfl).trans ((hF149.2 4 rfl).trans (hFx.2 4 rfl)))) _)) (((hF271.1 46 rfl).trans ((hF242.1 46 rfl).trans ((hF149.1 46 rfl).trans (ex_pc1))))) (((hF271.1 52 rfl).trans ((hF242.1 52 rfl).trans (e159)))) (ec290) (by omega) (by omega) (by omega) (by omega) (by omega) (by omega) (by omega) (by omega) (by omega) (by omega) (by omega) (sf281) ((TL_mk (s0 := s0) (by omega) (by omega) (by omega) (VB_u hvb (by omega) (by omega)) sf287 sf288 (VL_u (t1 := sy2_144) sf284 (by omega) (by omega) (by omega)) sf285 (wK_add sf286 sf289 (by omega) (by omega) rfl) (by omega) (by omega) (by omega) (by omega) (by omega) (by omega) (by omega) (by omega) (by omega) (by omega))) (by omega)
              · have _q : True := trivial
                refine jx_if_eq (pc' := 134) (tg := 106) rfl rfl rfl (by decide) (by decide) (fun h293 => ?_) (fun h293 => ?_)
                · have _q := h293
                  refine jx_ld (pc' := 107) (l' := L) (st' := [.ref 66]) rfl (jl_aloadn gL_0) ?_
                  refine jx_vr (pc' := 110) (as := []) (st := []) rfl rfl rfl rfl ⟨rfl, rfl, Nat.le_of_ble_eq_true rfl⟩ rfl rfl (c_bad (dd := d) (hd := by omega) (hW := hW241)  (fk := fk2_240) (e_fk := show G237 16 = fk2_240 from (e244))    ) (fun o V' hq => ?_)
                  obtain ⟨r294, rfl, rfl, b295, q296⟩ := hq
                  refine .inr ⟨_, rfl, ?_⟩
                  rcases q296 with ⟨rfl, a297⟩ | ⟨rfl, a298⟩
                  · have _q : True := trivial
                    refine jx_if_ne (pc' := 113) (tg := 141) rfl rfl rfl (by decide) (by decide) (fun h299 => ?_) (fun h299 => ?_)
                    · have _q := h299
                      refine jx_ld (pc' := 142) (l' := L) (st' := [.int (i32 (1))]) rfl (jl_iloadn gL_2) ?_
                      refine jx_if_eq (pc' := 145) (tg := 184) rfl rfl rfl (by decide) (by decide) (fun h300 => ?_) (fun h300 => ?_)
                      · have _q := h300
                        exact absurd h300 (by omega)
                      · have _q := h300
                        refine jx_ld (pc' := 146) (l' := L) (st' := [.ref 66]) rfl (jl_aloadn gL_0) ?_
                        refine jx_vr (pc' := 149) (as := []) (st := []) rfl rfl rfl rfl ⟨rfl, rfl, Nat.le_of_ble_eq_true rfl⟩ rfl rfl (c_bad (dd := d) (hd := by omega) (hW := hW241)  (fk := fk2_240) (e_fk := show G237 16 = fk2_240 from (e244))    ) (fun o V' hq => ?_)
                        obtain ⟨r301, rfl, rfl, b302, q303⟩ := hq
                        refine .inr ⟨_, rfl, ?_⟩
                        rcases q303 with ⟨rfl, a304⟩ | ⟨rfl, a305⟩
                        · have _q : True := trivial
                          refine jx_if_ne (pc' := 152) (tg := 170) rfl rfl rfl (by decide) (by decide) (fun h306 => ?_) (fun h306 => ?_)
                          · have _q := h306
                            refine jx_ld (pc' := 171) (l' := L) (st' := [.ref 66]) rfl (jl_aloadn gL_0) ?_
                            refine jx_vr (pc' := 174) (as := []) (st := []) rfl rfl rfl rfl ⟨rfl, rfl, Nat.le_of_ble_eq_true rfl⟩ rfl rfl (c_bad (dd := d) (hd := by omega) (hW := hW241)  (fk := fk2_240) (e_fk := show G237 16 = fk2_240 from (e244))    ) (fun o V' hq => ?_)
                            obtain ⟨r307, rfl, rfl, b308, q309⟩ := hq
                            refine .inr ⟨_, rfl, ?_⟩
                            rcases q309 with ⟨rfl, a310⟩ | ⟨rfl, a311⟩
                            · have _q : True := trivial
                              refine jx_if_ne (pc' := 177) (tg := 195) rfl rfl rfl (by decide) (by decide) (fun h312 => ?_) (fun h312 => ?_)
                              · have _q := h312
                                refine jx_ld (pc' := 196) (l' := L) (st' := [.ref 66]) rfl (jl_aloadn gL_0) ?_
                                refine jx_vr (pc' := 199) (as := []) (st := []) rfl rfl rfl rfl ⟨rfl, rfl, Nat.le_of_ble_eq_true rfl⟩ rfl rfl (c_bad (dd := d) (hd := by omega) (hW := hW241)  (fk := fk2_240) (e_fk := show G237 16 = fk2_240 from (e244))    ) (fun o V' hq => ?_)
                                obtain ⟨r313, rfl, rfl, b314, q315⟩ := hq
                                refine .inr ⟨_, rfl, ?_⟩
                                rcases q315 with ⟨rfl, a316⟩ | ⟨rfl, a317⟩
                                · have _q : True := trivial
                                  refine jx_if_ne (pc' := 202) (tg := 237) rfl rfl rfl (by decide) (by decide) (fun h318 => ?_) (fun h318 => ?_)
                                  · have _q := h318
                                    refine jx_rt (v := none) rfl rfl rfl rfl rfl rfl ?_
                                    exact ⟨_, _, ln2_141, fk2_240, nd1, sy2_144, na2_145, vi2_146, pc1, lk2_147, ec1, rfl, rfl, hW241, hF246, ((hF242.1 9 rfl).trans (e153)), (e244), ((hF242.1 31 rfl).trans ((hF149.1 31 rfl).trans (ex_nd1))), ((hF242.1 19 rfl).trans (e156)), ((hF242.1 28 rfl).trans (e157)), ((hF242.1 29 rfl).trans (e158)), ((hF242.1 46 rfl).trans ((hF149.1 46 rfl).trans (ex_pc1))), ((hF242.1 52 rfl).trans (e159)), ec256, by first | exact Or.inl (by omega)⟩
                                  · have _q := h318
                                    exact absurd h318 (by omega)
                                · have _q : True := trivial
                                  exfalso
                                  omega
                              · have _q := h312
                                exact absurd h312 (by omega)
                            · have _q : True := trivial
                              exfalso
                              omega
                          · have _q := h306
                            exact absurd h306 (by omega)
                        · have _q : True := trivial
                          exfalso
                          omega
                    · have _q := h299
                      exact absurd h299 (by omega)
                  · have _q : True := trivial
                    exfalso
                    omega
                · have _q := h293
                  exact absurd h293 (by omega)
        · have _q : True := trivial
          refine jx_if_eq (pc' := 122) (tg := 141) rfl rfl rfl (by decide) (by decide) (fun h319 => ?_) (fun h319 => ?_)
          · have _q := h319
            have z320 := tz_f (tk1)
            exact c_readProgram_w_at_141_1 (X := X) (d := d) (c0 := c0) (c1 := c1) (G := G) (A := A) (T := T) (ln := ln) (li := li) (fk := fk) (nd := nd) (sy := sy) (na := na) (vi := vi) (lf := lf) (pc := pc) (lk := lk) (ec := ec) (hd := hd) (hW := hW) (e_ln := e_ln) (e_li := e_li) (e_fk := e_fk) (e_nd := e_nd) (e_sy := e_sy) (e_na := e_na) (e_vi := e_vi) (e_lf := e_lf) (e_pc := e_pc) (e_lk := e_lk) (e_ec := e_ec) (i_LT := i_LT) (p_0 := p_0) (p_1 := p_1) (p_2 := p_2) (p_3 := p_3) (p_4 := p_4) (p_5 := p_5) (p_6 := p_6) (p_7 := p_7) (p_8 := p_8) (p_9 := p_9) L Gx Ax (ln1) (at1) (tk1) (fk1) (op1) (nd1) (sy1) (na1) (vi1) (lf1) (le1) (pc1) (lk1) (ec1) gL_0 gL_2 hWx hFx ((ex_ln1)) ((ex_at1)) ((ex_tk1)) ((ex_fk1)) ((ex_op1)) ((ex_nd1)) ((ex_sy1)) ((ex_na1)) ((ex_vi1)) ((ex_lf1)) ((ex_le1)) ((ex_pc1)) ((ex_lk1)) (ex_ec1) (by omega) (by omega) (by omega) (by omega) (by omega) (by omega) (by omega) (by omega) (by omega) (by omega) (by omega) (iv_11) ((TL_mk (s0 := s0) (by omega) (by omega) (by omega) (VB_eq hvb (by omega)) hSW0 hPW0 hVL0 hwQ0 hwK0 (by omega) (by omega) (by omega) (by omega) (by omega) (by omega) (by omega) (by omega) (by omega) (by omega))) (by omega)
          · have _q := h319
            exact absurd h319 (by omega)
set_option maxRecDepth 20000 in
set_option maxHeartbeats 4000000 in
theorem c_readProgram_w_at_74 {X : jX} {d : Nat} {c0 c1 : jC} {G : Nat → Int} {A : Nat → Nat → Int} {T : jH} {ln li fk nd sy na vi lf pc lk ec : Int} (hd : 8 * 18 + 82 ≤ d + 1) (hW : Wk G A) (e_ln : G 9 = ln) (e_li : G 3 = li) (e_fk : G 16 = fk) (e_nd : G 31 = nd) (e_sy : G 19 = sy) (e_na : G 28 = na) (e_vi : G 29 = vi) (e_lf : A 3 (ln).toNat = lf) (e_pc : G 46 = pc) (e_lk : G 52 = lk) (e_ec : ecn A (G 31) = ec) (i_LT : LT G A) (p_0 : fk = 0) (p_1 : ln = 0) (p_2 : nd = 1) (p_3 : sy = 0) (p_4 : na = 0) (p_5 : vi = 0) (p_6 : pc = 0) (p_7 : lk = 0) (p_8 : PZ A) (p_9 : ec = 0) : ∀ (L : jL) (Gx : Nat → Int) (Ax : Nat → Nat → Int) (ln1 at1 tk1 fk1 op1 nd1 sy1 na1 vi1 lf1 le1 pc1 ec1 : Int), jGet L 0 = some (.ref 66) → Wk Gx Ax → Fr [9, 10, 11, 12, 13, 14, 15, 16, 17, 18, 19, 28, 29, 31, 46, 52] [6, 7, 8, 9, 10, 11, 12, 14, 15, 16, 17, 18, 19, 20, 21, 22, 23, 24, 28, 29, 30, 31, 34, 35, 36] G A Gx Ax → Gx 9 = ln1 → Gx 10 = at1 → Gx 11 = tk1 → Gx 16 = fk1 → Gx 15 = op1 → Gx 31 = nd1 → Gx 19 = sy1 → Gx 28 = na1 → Gx 29 = vi1 → Ax 3 (ln1).toNat = lf1 → Ax 4 (ln1).toNat = le1 → Gx 46 = pc1 → ecn Ax (Gx 31) = ec1 → Gx 52 = lk → (fk1 = 0) → (0 ≤ lf1) → (ln1 < li) → (lf1 < le1) → (2 * lf1 ≤ 2 * at1 - tz tk1) → (lf1 ≤ at1) → (at1 ≤ le1) → (nd1 ≤ 2 * lf1 + 2) → (op1 = 0) → (sy1 ≤ na1 + 2) → (vi1 ≤ sy1) → (PZ Ax) → (TP Ax (pc1) (nd1) (sy1) (vi1)) → (nd1 + 5 * ec1 ≤ 2 * lf1 + 2) → wj X d jm312 (74, L, [], rV c0 c1 Gx Ax T) (fun o V' => ∃ (G' : Nat → Int) (A' : Nat → Nat → Int) (ln2 : Int) (fk2 : Int) (nd2 : Int) (sy2 : Int) (na2 : Int) (vi2 : Int) (pc2 : Int) (lk2 : Int) (ec2 : Int), V' = rV c0 c1 G' A' T ∧ o = .inl none ∧ Wk G' A' ∧ Fr [9, 10, 11, 12, 13, 14, 15, 16, 17, 18, 19, 28, 29, 31, 46, 52] [6, 7, 8, 9, 10, 11, 12, 14, 15, 16, 17, 18, 19, 20, 21, 22, 23, 24, 28, 29, 30, 31, 34, 35, 36] G A G' A' ∧ G' 9 = ln2 ∧ G' 16 = fk2 ∧ G' 31 = nd2 ∧ G' 19 = sy2 ∧ G' 28 = na2 ∧ G' 29 = vi2 ∧ G' 46 = pc2 ∧ G' 52 = lk2 ∧ ecn A' (G' 31) = ec2 ∧ (((1 ≤ fk2)) ∨ ((fk2 = 0) ∧ (TT A' (pc2) (nd2) (sy2) (lk2)) ∧ (nd2 + 5 * ec2 ≤ 6050)))) := by
  have hF0 : Fr [9, 10, 11, 12, 13, 14, 15, 16, 17, 18, 19, 28, 29, 31, 46, 52] [6, 7, 8, 9, 10, 11, 12, 14, 15, 16, 17, 18, 19, 20, 21, 22, 23, 24, 28, 29, 30, 31, 34, 35, 36] G A G A := Fr_rf
  have b_ln : (0 : Int) ≤ ln ∧ ln ≤ 3000 := e_ln ▸ hW.1 9
  have b_li : (0 : Int) ≤ li ∧ li ≤ 3000 := e_li ▸ hW.1 3
  have b_fk : (0 : Int) ≤ fk ∧ fk ≤ 6 := e_fk ▸ hW.1 16
  have b_nd : (0 : Int) ≤ nd ∧ nd ≤ 6999 := e_nd ▸ hW.1 31
  have b_sy : (0 : Int) ≤ sy ∧ sy ≤ 202 := e_sy ▸ hW.1 19
  have b_na : (0 : Int) ≤ na ∧ na ≤ 200 := e_na ▸ hW.1 28
  have b_vi : (0 : Int) ≤ vi ∧ vi ≤ 202 := e_vi ▸ hW.1 29
  have b_lf : (0 : Int) ≤ lf ∧ lf ≤ 3000 := e_lf ▸ hW.2 3 _
  have b_pc : (0 : Int) ≤ pc ∧ pc ≤ 24 := e_pc ▸ hW.1 46
  have b_lk : (0 : Int) ≤ lk ∧ lk ≤ 12 := e_lk ▸ hW.1 52
  intro L Gx Ax ln1 at1 tk1 fk1 op1 nd1 sy1 na1 vi1 lf1 le1 pc1 ec1 gL_0 hWx hFx ex_ln1 ex_at1 ex_tk1 ex_fk1 ex_op1 ex_nd1 ex_sy1 ex_na1 ex_vi1 ex_lf1 ex_le1 ex_pc1 ex_ec1 fx_52 iv_0 iv_1 iv_2 iv_3 iv_4 iv_5 iv_6 iv_7 iv_8 iv_9 iv_10 iv_11 iv_12 iv_13
  have b_ln1 : (0 : Int) ≤ ln1 ∧ ln1 ≤ 3000 := ex_ln1 ▸ hWx.1 9
  have b_at1 : (0 : Int) ≤ at1 ∧ at1 ≤ 3002 := ex_at1 ▸ hWx.1 10
  have z_tk1 := tz_f tk1
  have b_tk1 : (0 : Int) ≤ tk1 ∧ tk1 ≤ 5 := ex_tk1 ▸ hWx.1 11
  have b_fk1 : (0 : Int) ≤ fk1 ∧ fk1 ≤ 6 := ex_fk1 ▸ hWx.1 16
  have b_op1 : (-2147483648 : Int) ≤ op1 ∧ op1 ≤ 2147483647 := ex_op1 ▸ hWx.1 15
  have b_nd1 : (0 : Int) ≤ nd1 ∧ nd1 ≤ 6999 := ex_nd1 ▸ hWx.1 31
  have b_sy1 : (0 : Int) ≤ sy1 ∧ sy1 ≤ 202 := ex_sy1 ▸ hWx.1 19
  have b_na1 : (0 : Int) ≤ na1 ∧ na1 ≤ 200 := ex_na1 ▸ hWx.1 28
  have b_vi1 : (0 : Int) ≤ vi1 ∧ vi1 ≤ 202 := ex_vi1 ▸ hWx.1 29
  have b_pc1 : (0 : Int) ≤ pc1 ∧ pc1 ≤ 24 := ex_pc1 ▸ hWx.1 46
  obtain ⟨Vs, hvb, hSW0, hPW0, hVT0, hwQ0⟩ := iv_12; obtain ⟨sb, hsb⟩ : ∃ z : Int, z = sy1 := ⟨_, rfl⟩; obtain ⟨pb, hpb⟩ : ∃ z : Int, z = pc1 := ⟨_, rfl⟩; rw [← hsb] at hvb hSW0 hPW0 hVT0 hwQ0; rw [← hpb] at hPW0; have hle0 := wQ_le hwQ0
  refine jx_ld (pc' := 75) (l' := L) (st' := [.ref 66]) rfl (jl_aloadn gL_0) ?_
  refine jx_vr (pc' := 78) (as := []) (st := []) rfl rfl rfl rfl ⟨rfl, rfl, Nat.le_of_ble_eq_true rfl⟩ rfl rfl (c_bad (dd := d) (hd := by omega) (hW := hWx)  (fk := fk1) (e_fk := show Gx 16 = fk1 from (ex_fk1))    ) (fun o V' hq => ?_)
  obtain ⟨r321, rfl, rfl, b322, q323⟩ := hq
  refine .inr ⟨_, rfl, ?_⟩
  rcases q323 with ⟨rfl, a324⟩ | ⟨rfl, a325⟩
  · have _q : True := trivial
    exfalso
    omega
  · have _q : True := trivial
    refine jx_if_eq (pc' := 81) (tg := 82) rfl rfl rfl (by decide) (by decide) (fun h326 => ?_) (fun h326 => ?_)
    · have _q := h326
      refine jx_ld (pc' := 83) (l' := L) (st' := [.ref 66]) rfl (jl_aloadn gL_0) ?_
      refine jx_ar (pc' := 85) (st' := [.int (i32 (21)), .ref 66]) rfl rfl rfl rfl ?_
      have b327 : (-2147483648 : Int) ≤ Gx 13 ∧ Gx 13 ≤ 2147483647 := hWx.1 13
      refine jx_vr (pc' := 88) (as := [.int (i32 (21))]) (st := []) rfl rfl rfl rfl ⟨rfl, rfl, Nat.le_of_ble_eq_true rfl⟩ rfl rfl (c_isKey2 (dd := d) (hd := by omega) (hW := hWx) (k := 21) (tk := tk1) (e_tk := show Gx 11 = tk1 from (ex_tk1)) (tn := Gx 13) (e_tn := show Gx 13 = Gx 13 from rfl)  (h_k := ⟨(by decide), (by decide)⟩)  ) (fun o V' hq => ?_)
      obtain ⟨r328, rfl, rfl, b329, q330⟩ := hq
      refine .inr ⟨_, rfl, ?_⟩
      rcases q330 with ⟨rfl, a331, a332, a333⟩ | ⟨rfl, a334⟩
      · have _q : True := trivial
        refine jx_if_ne (pc' := 91) (tg := 100) rfl rfl rfl (by decide) (by decide) (fun h335 => ?_) (fun h335 => ?_)
        · have _q := h335
          refine jx_ar (pc' := 101) (st' := [.int (i32 (1))]) rfl rfl rfl rfl ?_
          refine jx_go (tg := 105) rfl rfl ?_
          refine jx_ld (pc' := 106) (l' := jSto1 L 2 (.int (i32 (1)))) (st' := []) rfl rfl ?_
          obtain ⟨L336, eL336⟩ : ∃ q, q = jSto1 L 2 (.int (i32 (1))) := ⟨_, rfl⟩
          rw [← eL336]
          have gL336_0 : jGet L336 0 = some (.ref 66) := eL336 ▸ jg_ne (by decide) gL_0 rfl
          have gL336_2 : jGet L336 2 = some (.int (i32 (1))) := eL336 ▸ jg_eq
          have z337 := tz_f (tk1)
          exact c_readProgram_w_at_106_1 (X := X) (d := d) (c0 := c0) (c1 := c1) (G := G) (A := A) (T := T) (ln := ln) (li := li) (fk := fk) (nd := nd) (sy := sy) (na := na) (vi := vi) (lf := lf) (pc := pc) (lk := lk) (ec := ec) (hd := hd) (hW := hW) (e_ln := e_ln) (e_li := e_li) (e_fk := e_fk) (e_nd := e_nd) (e_sy := e_sy) (e_na := e_na) (e_vi := e_vi) (e_lf := e_lf) (e_pc := e_pc) (e_lk := e_lk) (e_ec := e_ec) (i_LT := i_LT) (p_0 := p_0) (p_1 := p_1) (p_2 := p_2) (p_3 := p_3) (p_4 := p_4) (p_5 := p_5) (p_6 := p_6) (p_7 := p_7) (p_8 := p_8) (p_9 := p_9) _ L336 Gx Ax (ln1) (at1) (tk1) (fk1) (op1) (nd1) (sy1) (na1) (vi1) (lf1) (le1) (pc1) (lk) (ec1) rfl gL336_0 gL336_2 hWx hFx ((ex_ln1)) ((ex_at1)) ((ex_tk1)) ((ex_fk1)) ((ex_op1)) ((ex_nd1)) ((ex_sy1)) ((ex_na1)) ((ex_vi1)) ((ex_lf1)) ((ex_le1)) ((ex_pc1)) ((fx_52)) (ex_ec1) (by omega) (by omega) (by omega) (by omega) (by omega) (by omega) (by omega) (by omega) (by omega) (by omega) (by omega) (iv_11) ((TL_tp (TP_mk (VB_eq hvb (by omega)) hSW0 hPW0 hVT0 hwQ0 (by omega) (by omega) (by omega) (by omega) (by omega) (by omega) (by omega) (by omega)) (by omega))) (by omega)
        · have _q := h335
          exact absurd h335 (by omega)
      · have _q : True := trivial
        refine jx_if_ne (pc' := 91) (tg := 100) rfl rfl rfl (by decide) (by decide) (fun h338 => ?_) (fun h338 => ?_)
        · have _q := h338
          exact absurd h338 (by omega)
        · have _q := h338
          refine jx_ld (pc' := 92) (l' := L) (st' := [.ref 66]) rfl (jl_aloadn gL_0) ?_
          refine jx_ar (pc' := 94) (st' := [.int (i32 (19)), .ref 66]) rfl rfl rfl rfl ?_
          refine jx_vr (pc' := 97) (as := [.int (i32 (19))]) (st := []) rfl rfl rfl rfl ⟨rfl, rfl, Nat.le_of_ble_eq_true rfl⟩ rfl rfl (c_isKey2 (dd := d) (hd := by omega) (hW := hWx) (k := 19) (tk := tk1) (e_tk := show Gx 11 = tk1 from (ex_tk1)) (tn := Gx 13) (e_tn := show Gx 13 = Gx 13 from rfl)  (h_k := ⟨(by decide), (by decide)⟩)  ) (fun o V' hq => ?_)
          obtain ⟨r339, rfl, rfl, b340, q341⟩ := hq
          refine .inr ⟨_, rfl, ?_⟩
          rcases q341 with ⟨rfl, a342, a343, a344⟩ | ⟨rfl, a345⟩
          · have _q : True := trivial
            refine jx_if_eq (pc' := 100) (tg := 104) rfl rfl rfl (by decide) (by decide) (fun h346 => ?_) (fun h346 => ?_)
            · have _q := h346
              exact absurd h346 (by omega)
            · have _q := h346
              refine jx_ar (pc' := 101) (st' := [.int (i32 (1))]) rfl rfl rfl rfl ?_
              refine jx_go (tg := 105) rfl rfl ?_
              refine jx_ld (pc' := 106) (l' := jSto1 L 2 (.int (i32 (1)))) (st' := []) rfl rfl ?_
              obtain ⟨L347, eL347⟩ : ∃ q, q = jSto1 L 2 (.int (i32 (1))) := ⟨_, rfl⟩
              rw [← eL347]
              have gL347_0 : jGet L347 0 = some (.ref 66) := eL347 ▸ jg_ne (by decide) gL_0 rfl
              have gL347_2 : jGet L347 2 = some (.int (i32 (1))) := eL347 ▸ jg_eq
              have z348 := tz_f (tk1)
              exact c_readProgram_w_at_106_1 (X := X) (d := d) (c0 := c0) (c1 := c1) (G := G) (A := A) (T := T) (ln := ln) (li := li) (fk := fk) (nd := nd) (sy := sy) (na := na) (vi := vi) (lf := lf) (pc := pc) (lk := lk) (ec := ec) (hd := hd) (hW := hW) (e_ln := e_ln) (e_li := e_li) (e_fk := e_fk) (e_nd := e_nd) (e_sy := e_sy) (e_na := e_na) (e_vi := e_vi) (e_lf := e_lf) (e_pc := e_pc) (e_lk := e_lk) (e_ec := e_ec) (i_LT := i_LT) (p_0 := p_0) (p_1 := p_1) (p_2 := p_2) (p_3 := p_3) (p_4 := p_4) (p_5 := p_5) (p_6 := p_6) (p_7 := p_7) (p_8 := p_8) (p_9 := p_9) _ L347 Gx Ax (ln1) (at1) (tk1) (fk1) (op1) (nd1) (sy1) (na1) (vi1) (lf1) (le1) (pc1) (lk) (ec1) rfl gL347_0 gL347_2 hWx hFx ((ex_ln1)) ((ex_at1)) ((ex_tk1)) ((ex_fk1)) ((ex_op1)) ((ex_nd1)) ((ex_sy1)) ((ex_na1)) ((ex_vi1)) ((ex_lf1)) ((ex_le1)) ((ex_pc1)) ((fx_52)) (ex_ec1) (by omega) (by omega) (by omega) (by omega) (by omega) (by omega) (by omega) (by omega) (by omega) (by omega) (by omega) (iv_11) ((TL_tp (TP_mk (VB_eq hvb (by omega)) hSW0 hPW0 hVT0 hwQ0 (by omega) (by omega) (by omega) (by omega) (by omega) (by omega) (by omega) (by omega)) (by omega))) (by omega)
          · have _q : True := trivial
            refine jx_if_eq (pc' := 100) (tg := 104) rfl rfl rfl (by decide) (by decide) (fun h349 => ?_) (fun h349 => ?_)
            · have _q := h349
              refine jx_ar (pc' := 105) (st' := [.int (i32 (0))]) rfl rfl rfl rfl ?_
              refine jx_ld (pc' := 106) (l' := jSto1 L 2 (.int (i32 (0)))) (st' := []) rfl rfl ?_
              obtain ⟨L350, eL350⟩ : ∃ q, q = jSto1 L 2 (.int (i32 (0))) := ⟨_, rfl⟩
              rw [← eL350]
              have gL350_0 : jGet L350 0 = some (.ref 66) := eL350 ▸ jg_ne (by decide) gL_0 rfl
              have gL350_2 : jGet L350 2 = some (.int (i32 (0))) := eL350 ▸ jg_eq
              refine jx_ld (pc' := 107) (l' := L350) (st' := [.ref 66]) rfl (jl_aloadn gL350_0) ?_
              refine jx_vr (pc' := 110) (as := []) (st := []) rfl rfl rfl rfl ⟨rfl, rfl, Nat.le_of_ble_eq_true rfl⟩ rfl rfl (c_bad (dd := d) (hd := by omega) (hW := hWx)  (fk := fk1) (e_fk := show Gx 16 = fk1 from (ex_fk1))    ) (fun o V' hq => ?_)
              obtain ⟨r351, rfl, rfl, b352, q353⟩ := hq
              refine .inr ⟨_, rfl, ?_⟩
              rcases q353 with ⟨rfl, a354⟩ | ⟨rfl, a355⟩
              · have _q : True := trivial
                exfalso
                omega
              · have _q : True := trivial
                refine jx_if_ne (pc' := 113) (tg := 141) rfl rfl rfl (by decide) (by decide) (fun h356 => ?_) (fun h356 => ?_)
                · have _q := h356
                  exact absurd h356 (by omega)
                · have _q := h356
                  refine jx_ld (pc' := 114) (l' := L350) (st' := [.ref 66]) rfl (jl_aloadn gL350_0) ?_
                  refine jx_ar (pc' := 116) (st' := [.int (i32 (21)), .ref 66]) rfl rfl rfl rfl ?_
                  refine jx_vr (pc' := 119) (as := [.int (i32 (21))]) (st := []) rfl rfl rfl rfl ⟨rfl, rfl, Nat.le_of_ble_eq_true rfl⟩ rfl rfl (c_isKey2 (dd := d) (hd := by omega) (hW := hWx) (k := 21) (tk := tk1) (e_tk := show Gx 11 = tk1 from (ex_tk1)) (tn := Gx 13) (e_tn := show Gx 13 = Gx 13 from rfl)  (h_k := ⟨(by decide), (by decide)⟩)  ) (fun o V' hq => ?_)
                  obtain ⟨r357, rfl, rfl, b358, q359⟩ := hq
                  refine .inr ⟨_, rfl, ?_⟩
                  rcases q359 with ⟨rfl, a360, a361, a362⟩ | ⟨rfl, a363⟩
                  · have _q : True := trivial
                    refine jx_if_eq (pc' := 122) (tg := 141) rfl rfl rfl (by decide) (by decide) (fun h364 => ?_) (fun h364 => ?_)
                    · have _q := h364
                      exact absurd h364 (by omega)
                    · have _q := h364
                      exfalso
                      omega
                  · have _q : True := trivial
                    refine jx_if_eq (pc' := 122) (tg := 141) rfl rfl rfl (by decide) (by decide) (fun h365 => ?_) (fun h365 => ?_)
                    · have _q := h365
                      refine jx_ld (pc' := 142) (l' := L350) (st' := [.int (i32 (0))]) rfl (jl_iloadn gL350_2) ?_
                      refine jx_if_eq (pc' := 145) (tg := 184) rfl rfl rfl (by decide) (by decide) (fun h366 => ?_) (fun h366 => ?_)
                      · have _q := h366
                        refine jx_ld (pc' := 185) (l' := L350) (st' := [.ref 66]) rfl (jl_aloadn gL350_0) ?_
                        refine jr_get (pc' := 188) (i := 55) (v := .ref 103) rfl rfl (by decide) rfl rfl ?_
                        refine jx_ar (pc' := 189) (st' := [.int (i32 (0)), .ref 103]) rfl rfl rfl rfl ?_
                        refine jx_ld (pc' := 190) (l' := L350) (st' := [.ref 66, .int (i32 (0)), .ref 103]) rfl (jl_aloadn gL350_0) ?_
                        refine jx_ar (pc' := 191) (st' := [.int (i32 (0)), .ref 66, .int (i32 (0)), .ref 103]) rfl rfl rfl rfl ?_
                        refine jx_vr (pc' := 194) (as := [.int (i32 (0))]) (st := [.int (i32 (0)), .ref 103]) rfl rfl rfl rfl ⟨rfl, rfl, Nat.le_of_ble_eq_true rfl⟩ rfl rfl (RPw_all X 18 (dd := d) (hd := by omega) (hW := hWx) (lv := 0) (at0 := (lf1 - 1)) (ln := ln1) (e_ln := show Gx 9 = ln1 from (ex_ln1)) (li := li) (e_li := show Gx 3 = li from ((hFx.1 3 rfl).trans (e_li))) (fk := fk1) (e_fk := show Gx 16 = fk1 from (ex_fk1)) (nd := nd1) (e_nd := show Gx 31 = nd1 from (ex_nd1)) (sy := sy1) (e_sy := show Gx 19 = sy1 from (ex_sy1)) (na := na1) (e_na := show Gx 28 = na1 from (ex_na1)) (vi := vi1) (e_vi := show Gx 29 = vi1 from (ex_vi1)) (lf := lf1) (e_lf := show Ax 3 (ln1).toNat = lf1 from (ex_lf1)) (ac := at1) (e_ac := show Gx 10 = at1 from (ex_at1)) (ec := ec1) (e_ec := show ecn Ax (Gx 31) = ec1 from ex_ec1) (i_LT := (LT_ext ((hFx.1 3 rfl)) ((hFx.2 3 rfl)) ((hFx.2 4 rfl)) i_LT)) (i_SV := (SW_sv hSW0 ((show Gx 29 = vi1 from (ex_vi1)).trans (by omega)))) (i_PQ := hPW0) (hvb := hvb) (h_lv := ⟨(by decide), (by decide)⟩)  (p_0 := by omega) (p_1 := by omega) (p_2 := by omega) (p_3 := by omega) (p_4 := by omega) (p_5 := by omega) (p_6 := by omega) (p_7 := by omega) (p_8 := by omega) (p_9 := by omega) (p_10 := by omega)) (fun o V' hq => ?_)
                        obtain ⟨G367, A368, r369, ln2_370, at2_371, fk2_372, nd2_373, sy2_374, na2_375, vi2_376, lf2_377, ec2_378, rfl, rfl, hW379, hF380, hQ381, hQ382, hQ383, b384, e385, e386, e387, e388, e389, e390, e391, e392, e393, p394, p395, p396, p397, p398, p399, p400, p401, p402, q403⟩ := hq
                        have hF404 := Fr_tr hFx hF380 (Fr_sub (by decide)) (Fr_sub (by decide))
                        have sf405 : PZ A368 := PZ_ext (hF380.2 36 rfl) iv_11
                        have sf406 : SW (Vs) (sb) (vi1) A368 := SW_fx hQ383 (by omega) hSW0
                        have sf407 : PQ (Vs) (sb) (pb) (fun _ => 0) A368 := PQ_fxq hPW0 hQ382 (by omega) (Fx_f (w := pb) Fx_rf hF380 (by decide)) (by omega)
                        have sf408 : VT (Vs) A368 (sb) := VT_fx hQ382 (by omega) hVT0
                        have sf409 : wQ A368 (pc1).toNat (nd1) (sb) := wQ_fx (fun k j hk hj => hQ381 k j hk (by omega)) (Fx_su hQ382 (by omega)) (Fx_su (Fx_f (w := pc1) Fx_rf hF380 (by decide)) (by omega)) hwQ0
                        have bln2_370 : (0 : Int) ≤ ln2_370 ∧ ln2_370 ≤ 3000 := e385 ▸ hW379.1 9
                        have bat2_371 : (0 : Int) ≤ at2_371 ∧ at2_371 ≤ 3002 := e386 ▸ hW379.1 10
                        have bfk2_372 : (0 : Int) ≤ fk2_372 ∧ fk2_372 ≤ 6 := e387 ▸ hW379.1 16
                        have bnd2_373 : (0 : Int) ≤ nd2_373 ∧ nd2_373 ≤ 6999 := e388 ▸ hW379.1 31
                        have bsy2_374 : (0 : Int) ≤ sy2_374 ∧ sy2_374 ≤ 202 := e389 ▸ hW379.1 19
                        have bna2_375 : (0 : Int) ≤ na2_375 ∧ na2_375 ≤ 200 := e390 ▸ hW379.1 28
                        have bvi2_376 : (0 : Int) ≤ vi2_376 ∧ vi2_376 ≤ 202 := e391 ▸ hW379.1 29
                        have blf2_377 : (0 : Int) ≤ lf2_377 ∧ lf2_377 ≤ 3000 := e392 ▸ hW379.2 3 _
                        refine .inr ⟨_, rfl, ?_⟩
                        rcases q403 with ⟨a410, a411⟩ | ⟨a412, a413, a414, a415, a416, a417, a418, a419, a420⟩
                        · have _q : True := trivial
                          refine jr_st (pc' := 195) (i := 36) (m := 6) (z := (0 : Int)) (y := r369) rfl (by decide) rfl (by decide) (by omega) (by omega) rfl ?_
                          have hW422 : Wk G367 (uA A368 36 ((0 : Int)).toNat (r369)) := Wk_a hW379 (show (-2147483648 : Int) ≤ r369 by omega) (show r369 ≤ (2147483647 : Int) by omega)
                          have hF423 := Fr_a (z := r369) (k := 36) (n := ((0 : Int)).toNat) hF404 (by decide)
                          obtain ⟨A421, eA421⟩ : ∃ q, q = uA A368 36 ((0 : Int)).toNat (r369) := ⟨_, rfl⟩
                          rw [← eA421]
                          rw [← eA421] at hW422 hF423
                          have q424 : A421 36 ((0 : Int)).toNat = r369 := by rw [eA421]; exact uA_eq
                          have sf425 : SW (Vs) (sb) (vi1) A421 := SW_ext ((congrFun eA421 14).trans (uA_ne (by decide))) sf406
                          have sf426 : PQ (Vs) (sb) (pb) (fun _ => 0) A421 := PQ_fxq sf407 (Sg_ne (sb := sb) eA421 rfl) (by omega) (show Fx [29, 30, 31] (pb) A368 A421 from eA421 ▸ Fx_n Fx_rf rfl) (by omega)
                          have sf427 : VT (Vs) A421 (sb) := VT_fx (Sg_ne (sb := sb) eA421 rfl) (by omega) sf408
                          have sf428 : wQ A421 (pc1).toNat (nd1) (sb) := wQ_fx (show Pf _ _ _ from eA421 ▸ Pf_n Pf_rf rfl) (Fx_su (Sg_ne (sb := sb) eA421 rfl) (by omega)) (Fx_su (show Fx [29, 30, 31] (pc1) A368 A421 from eA421 ▸ Fx_n Fx_rf rfl) (by omega)) sf409
                          have ec429 : ecn A421 (G367 31) = ec2_378 := (ecn_e ((congrFun eA421 15).trans (uA_ne (by decide)))).trans e393
                          refine jx_ld (pc' := 196) (l' := L350) (st' := [.ref 66]) rfl (jl_aloadn gL350_0) ?_
                          refine jx_vr (pc' := 199) (as := []) (st := []) rfl rfl rfl rfl ⟨rfl, rfl, Nat.le_of_ble_eq_true rfl⟩ rfl rfl (c_bad (dd := d) (hd := by omega) (hW := hW422)  (fk := fk2_372) (e_fk := show G367 16 = fk2_372 from (e387))    ) (fun o V' hq => ?_)
                          obtain ⟨r430, rfl, rfl, b431, q432⟩ := hq
                          refine .inr ⟨_, rfl, ?_⟩
                          rcases q432 with ⟨rfl, a433⟩ | ⟨rfl, a434⟩
                          · have _q : True := trivial
                            refine jx_if_ne (pc' := 202) (tg := 237) rfl rfl rfl (by decide) (by decide) (fun h435 => ?_) (fun h435 => ?_)
                            · have _q := h435
                              refine jx_rt (v := none) rfl rfl rfl rfl rfl rfl ?_
                              exact ⟨_, _, ln2_370, fk2_372, nd2_373, sy2_374, na2_375, vi2_376, pc1, lk, ec2_378, rfl, rfl, hW422, hF423, (e385), (e387), (e388), (e389), (e390), (e391), ((hF380.1 46 rfl).trans (ex_pc1)), ((hF380.1 52 rfl).trans (fx_52)), ec429, by first | exact Or.inl (by omega)⟩
                            · have _q := h435
                              exact absurd h435 (by omega)
                          · have _q : True := trivial
                            exfalso
                            omega
                        · have _q : True := trivial
                          refine jr_st (pc' := 195) (i := 36) (m := 6) (z := (0 : Int)) (y := r369) rfl (by decide) rfl (by decide) (by omega) (by omega) rfl ?_
                          have hW437 : Wk G367 (uA A368 36 ((0 : Int)).toNat (r369)) := Wk_a hW379 (show (-2147483648 : Int) ≤ r369 by omega) (show r369 ≤ (2147483647 : Int) by omega)
                          have hF438 := Fr_a (z := r369) (k := 36) (n := ((0 : Int)).toNat) hF404 (by decide)
                          obtain ⟨A436, eA436⟩ : ∃ q, q = uA A368 36 ((0 : Int)).toNat (r369) := ⟨_, rfl⟩
                          rw [← eA436]
                          rw [← eA436] at hW437 hF438
                          have q439 : A436 36 ((0 : Int)).toNat = r369 := by rw [eA436]; exact uA_eq
                          have sf440 : wB A436 Vs pb (nd1) (nd2_373) (sy1) (sy2_374) := wB_one eA436 sf405 (by omega) (by omega) a418 rfl (by omega) (by omega) (by omega) (by omega)
                          have sf441 : SW (Vs) (sb) (vi1) A436 := SW_ext ((congrFun eA436 14).trans (uA_ne (by decide))) sf406
                          have sf442 : PQ (Vs) (sb) (pb) (fun _ => 0) A436 := PQ_fxq sf407 (Sg_ne (sb := sb) eA436 rfl) (by omega) (show Fx [29, 30, 31] (pb) A368 A436 from eA436 ▸ Fx_n Fx_rf rfl) (by omega)
                          have sf443 : VT (Vs) A436 (sb) := VT_fx (Sg_ne (sb := sb) eA436 rfl) (by omega) sf408
                          have sf444 : wQ A436 (pc1).toNat (nd1) (sb) := wQ_fx (show Pf _ _ _ from eA436 ▸ Pf_n Pf_rf rfl) (Fx_su (Sg_ne (sb := sb) eA436 rfl) (by omega)) (Fx_su (show Fx [29, 30, 31] (pc1) A368 A436 from eA436 ▸ Fx_n Fx_rf rfl) (by omega)) sf409
                          have sf445 : wP A436 (sy2_374) pb (18) (Vs) (r369) (nd1) (nd2_373) (sy1) (sy2_374) := wP_ag (Sg_ne eA436 rfl) (Qg_ne eA436 rfl) (by omega) (by omega) (Ax_ag (Ag_ne eA436 rfl)) a418
                          have sf446 : NX A436 (r369) := NX_r eA436 (by decide) a419
                          have ec447 : ecn A436 (G367 31) = ec2_378 := (ecn_e ((congrFun eA436 15).trans (uA_ne (by decide)))).trans e393
                          refine jx_ld (pc' := 196) (l' := L350) (st' := [.ref 66]) rfl (jl_aloadn gL350_0) ?_
                          refine jx_vr (pc' := 199) (as := []) (st := []) rfl rfl rfl rfl ⟨rfl, rfl, Nat.le_of_ble_eq_true rfl⟩ rfl rfl (c_bad (dd := d) (hd := by omega) (hW := hW437)  (fk := fk2_372) (e_fk := show G367 16 = fk2_372 from (e387))    ) (fun o V' hq => ?_)
                          obtain ⟨r448, rfl, rfl, b449, q450⟩ := hq
                          refine .inr ⟨_, rfl, ?_⟩
                          rcases q450 with ⟨rfl, a451⟩ | ⟨rfl, a452⟩
                          · have _q : True := trivial
                            exfalso
                            omega
                          · have _q : True := trivial
                            refine jx_if_ne (pc' := 202) (tg := 237) rfl rfl rfl (by decide) (by decide) (fun h453 => ?_) (fun h453 => ?_)
                            · have _q := h453
                              exact absurd h453 (by omega)
                            · have _q := h453
                              refine jx_ld (pc' := 203) (l' := L350) (st' := [.ref 66]) rfl (jl_aloadn gL350_0) ?_
                              refine jr_get (pc' := 206) (i := 9) (v := .int (i32 (ln2_370))) rfl rfl (by decide) (rFv_eq (by decide) (show G367 9 = ln2_370 from (e385))) rfl ?_
                              refine jx_ld (pc' := 207) (l' := L350) (st' := [.ref 66, .int (i32 (ln2_370))]) rfl (jl_aloadn gL350_0) ?_
                              refine jr_get (pc' := 210) (i := 3) (v := .int (i32 (li))) rfl rfl (by decide) (rFv_eq (by decide) (show G367 3 = li from ((hF380.1 3 rfl).trans ((hFx.1 3 rfl).trans (e_li))))) rfl ?_
                              refine jx_icmp_ge (pc' := 213) (tg := 237) rfl rfl rfl (Int.le_trans (by decide : (-2147483648 : Int) ≤ 0) bln2_370.1) (Int.le_trans bln2_370.2 (by decide : (3000 : Int) ≤ 2147483647)) (Int.le_trans (by decide : (-2147483648 : Int) ≤ 0) b_li.1) (Int.le_trans b_li.2 (by decide : (3000 : Int) ≤ 2147483647)) (fun h454 => ?_) (fun h454 => ?_)
                              · have _q := h454
                                refine jx_rt (v := none) rfl rfl rfl rfl rfl rfl ?_
                                exact ⟨_, _, ln2_370, fk2_372, nd2_373, sy2_374, na2_375, vi2_376, pc1, lk, ec2_378, rfl, rfl, hW437, hF438, (e385), (e387), (e388), (e389), (e390), (e391), ((hF380.1 46 rfl).trans (ex_pc1)), ((hF380.1 52 rfl).trans (fx_52)), ec447, by first | exact Or.inr ((⟨by omega, (TT_mk (V := Vs) (lo := nd1) (s0 := sb) (t0 := sb) (by omega) (by omega) (by omega) hvb (VL_vt (t0 := sb) sf443) sf444 (wK_nil (s0 := sb)) sf440 (by omega) (by omega) (by omega) (by omega) (by omega) (by omega) (by omega) (by omega) (by omega) (by omega) (by omega)), by omega⟩))⟩
                              · have _q := h454
                                refine jx_ld (pc' := 214) (l' := L350) (st' := [.ref 66]) rfl (jl_aloadn gL350_0) ?_
                                refine jx_ar (pc' := 215) (st' := [.int (i32 (1)), .ref 66]) rfl rfl rfl rfl ?_
                                refine jx_ld (pc' := 216) (l' := L350) (st' := [.ref 66, .int (i32 (1)), .ref 66]) rfl (jl_aloadn gL350_0) ?_
                                refine jr_get (pc' := 219) (i := 6) (v := .ref 70) rfl rfl (by decide) rfl rfl ?_
                                refine jx_ld (pc' := 220) (l' := L350) (st' := [.ref 66, .ref 70, .int (i32 (1)), .ref 66]) rfl (jl_aloadn gL350_0) ?_
                                refine jr_get (pc' := 223) (i := 9) (v := .int (i32 (ln2_370))) rfl rfl (by decide) (rFv_eq (by decide) (show G367 9 = ln2_370 from (e385))) rfl ?_
                                refine jr_ldv (pc' := 224) (i := 3) (m := 3001) (z := ln2_370) (y := lf2_377) rfl (by decide) rfl (by decide) (Int.le_trans (by decide : (0 : Int) ≤ 0) bln2_370.1) (Int.lt_of_le_of_lt bln2_370.2 (by decide : (3000 : Int) < ((3001 : Nat) : Int))) rfl (show A436 3 (ln2_370).toNat = lf2_377 from (congrFun ((congrFun eA436 3).trans (uA_ne (by decide))) _).trans (e392)) ?_
                                refine jx_ld (pc' := 225) (l' := L350) (st' := [.ref 66, .int (i32 (lf2_377)), .int (i32 (1)), .ref 66]) rfl (jl_aloadn gL350_0) ?_
                                refine jr_get (pc' := 228) (i := 5) (v := .ref 69) rfl rfl (by decide) rfl rfl ?_
                                refine jx_ld (pc' := 229) (l' := L350) (st' := [.ref 66, .ref 69, .int (i32 (lf2_377)), .int (i32 (1)), .ref 66]) rfl (jl_aloadn gL350_0) ?_
                                refine jr_get (pc' := 232) (i := 9) (v := .int (i32 (ln2_370))) rfl rfl (by decide) (rFv_eq (by decide) (show G367 9 = ln2_370 from (e385))) rfl ?_
                                have b455 : (0 : Int) ≤ A 2 (ln2_370).toNat ∧ A 2 (ln2_370).toNat ≤ 3000 := hW.2 2 _
                                refine jr_ldv (pc' := 233) (i := 2) (m := 3001) (z := ln2_370) (y := A 2 (ln2_370).toNat) rfl (by decide) rfl (by decide) (Int.le_trans (by decide : (0 : Int) ≤ 0) bln2_370.1) (Int.lt_of_le_of_lt bln2_370.2 (by decide : (3000 : Int) < ((3001 : Nat) : Int))) rfl (show A436 2 (ln2_370).toNat = A 2 (ln2_370).toNat from (congrFun (((congrFun eA436 2).trans (uA_ne (by decide))).trans ((hF380.2 2 rfl).trans (hFx.2 2 rfl))) _)) ?_
                                refine jx_sub (pc' := 234) rfl rfl ?_
                                refine jx_vr (pc' := 237) (as := [.int (i32 (1)), .int (i32 ((lf2_377 - A 2 (ln2_370).toNat)))]) (st := []) rfl rfl rfl rfl ⟨rfl, rfl, Nat.le_of_ble_eq_true rfl⟩ rfl rfl (c_fail (dd := d) (hd := by omega) (hW := hW437) (kind := 1) (place := (lf2_377 - A 2 (ln2_370).toNat)) (fk := fk2_372) (e_fk := show G367 16 = fk2_372 from (e387))  (h_kind := ⟨(by decide), (by decide)⟩) (h_place := ⟨(by omega), (by omega)⟩)  (p_0 := by omega) (p_1 := by omega)) (fun o V' hq => ?_)
                                obtain ⟨G456, A457, fk2_458, rfl, rfl, hW459, hF460, e461, p462, -⟩ := hq
                                have hF464 := Fr_tr hF438 hF460 (Fr_sub (by decide)) (Fr_sub (by decide))
                                have sf465 : wB A457 Vs pb (nd1) (nd2_373) (sy1) (sy2_374) := (show A457 = A436 from funext (fun k => hF460.2 k rfl)) ▸ sf440
                                have sf466 : SW (Vs) (sb) (vi1) A457 := (show A457 = A436 from funext (fun k => hF460.2 k rfl)) ▸ sf441
                                have sf467 : PQ (Vs) (sb) (pb) (fun _ => 0) A457 := (show A457 = A436 from funext (fun k => hF460.2 k rfl)) ▸ sf442
                                have sf468 : VT (Vs) A457 (sb) := (show A457 = A436 from funext (fun k => hF460.2 k rfl)) ▸ sf443
                                have sf469 : wQ A457 (pc1).toNat (nd1) (sb) := (show A457 = A436 from funext (fun k => hF460.2 k rfl)) ▸ sf444
                                have sf470 : wP A457 (sy2_374) pb (18) (Vs) (r369) (nd1) (nd2_373) (sy1) (sy2_374) := wP_ag (Sg_fr hF460 (by decide)) (Qg_fr hF460 (by decide)) (by omega) (by omega) (Ax_ag (Ag_fr hF460 (by decide))) sf445
                                have sf471 : NX A457 (r369) := NX_ag (by omega) (Ag_fr hF460 (by decide)) sf446
                                have ec472 : ecn A457 (G456 31) = ec2_378 := (ecn_f (hF460.2 15 rfl) (hF460.1 31 rfl)).trans ec447
                                have bfk2_458 : (0 : Int) ≤ fk2_458 ∧ fk2_458 ≤ 6 := e461 ▸ hW459.1 16
                                refine .inl ⟨rfl, ?_⟩
                                refine jx_rt (v := none) rfl rfl rfl rfl rfl rfl ?_
                                exact ⟨_, _, ln2_370, fk2_458, nd2_373, sy2_374, na2_375, vi2_376, pc1, lk, ec2_378, rfl, rfl, hW459, hF464, ((hF460.1 9 rfl).trans (e385)), (e461), ((hF460.1 31 rfl).trans (e388)), ((hF460.1 19 rfl).trans (e389)), ((hF460.1 28 rfl).trans (e390)), ((hF460.1 29 rfl).trans (e391)), ((hF460.1 46 rfl).trans ((hF380.1 46 rfl).trans (ex_pc1))), ((hF460.1 52 rfl).trans ((hF380.1 52 rfl).trans (fx_52))), ec472, by first | exact Or.inl (by omega)⟩
                      · have _q := h366
                        exact absurd h366 (by omega)
                    · have _q := h365
                      exact absurd h365 (by omega)
            · have _q := h349
              exact absurd h349 (by omega)
    · have _q := h326
      exact absurd h326 (by omega)
set_option maxRecDepth 20000 in
set_option maxHeartbeats 4000000 in
theorem c_readProgram_w_at_40 {X : jX} {d : Nat} {c0 c1 : jC} {G : Nat → Int} {A : Nat → Nat → Int} {T : jH} {ln li fk nd sy na vi lf pc lk ec : Int} (hd : 8 * 18 + 82 ≤ d + 1) (hW : Wk G A) (e_ln : G 9 = ln) (e_li : G 3 = li) (e_fk : G 16 = fk) (e_nd : G 31 = nd) (e_sy : G 19 = sy) (e_na : G 28 = na) (e_vi : G 29 = vi) (e_lf : A 3 (ln).toNat = lf) (e_pc : G 46 = pc) (e_lk : G 52 = lk) (e_ec : ecn A (G 31) = ec) (i_LT : LT G A) (p_0 : fk = 0) (p_1 : ln = 0) (p_2 : nd = 1) (p_3 : sy = 0) (p_4 : na = 0) (p_5 : vi = 0) (p_6 : pc = 0) (p_7 : lk = 0) (p_8 : PZ A) (p_9 : ec = 0) : ∀ (m : Nat) (L : jL) (Gx : Nat → Int) (Ax : Nat → Nat → Int) (more ln1 fk1 nd1 sy1 na1 vi1 lf1 pc1 ec1 : Int), (li - ln1).toNat = m → jGet L 0 = some (.ref 66) → jGet L 1 = some (.int (i32 more)) → Wk Gx Ax → Fr [9, 10, 11, 12, 13, 14, 15, 16, 17, 18, 19, 28, 29, 31, 46, 52] [6, 7, 8, 9, 10, 11, 12, 14, 15, 16, 17, 18, 19, 20, 21, 22, 23, 24, 28, 29, 30, 31, 34, 35, 36] G A Gx Ax → Gx 9 = ln1 → Gx 16 = fk1 → Gx 31 = nd1 → Gx 19 = sy1 → Gx 28 = na1 → Gx 29 = vi1 → Ax 3 (ln1).toNat = lf1 → Gx 46 = pc1 → ecn Ax (Gx 31) = ec1 → Gx 52 = lk → ((-2147483648 : Int) ≤ more ∧ more ≤ 2147483647) → (fk1 = 0) → (0 ≤ lf1) → (ln1 ≤ li) → (nd1 ≤ 2 * lf1 + 2 ∨ li ≤ ln1) → (sy1 ≤ na1 + 2) → (vi1 ≤ sy1) → (TP Ax (pc1) (nd1) (sy1) (vi1)) → (PZ Ax) → (more = 1) → (nd1 + 5 * ec1 ≤ 2 * lf1 + 2 ∨ li ≤ ln1) → wj X d jm312 (40, L, [], rV c0 c1 Gx Ax T) (fun o V' => ∃ (G' : Nat → Int) (A' : Nat → Nat → Int) (ln2 : Int) (fk2 : Int) (nd2 : Int) (sy2 : Int) (na2 : Int) (vi2 : Int) (pc2 : Int) (lk2 : Int) (ec2 : Int), V' = rV c0 c1 G' A' T ∧ o = .inl none ∧ Wk G' A' ∧ Fr [9, 10, 11, 12, 13, 14, 15, 16, 17, 18, 19, 28, 29, 31, 46, 52] [6, 7, 8, 9, 10, 11, 12, 14, 15, 16, 17, 18, 19, 20, 21, 22, 23, 24, 28, 29, 30, 31, 34, 35, 36] G A G' A' ∧ G' 9 = ln2 ∧ G' 16 = fk2 ∧ G' 31 = nd2 ∧ G' 19 = sy2 ∧ G' 28 = na2 ∧ G' 29 = vi2 ∧ G' 46 = pc2 ∧ G' 52 = lk2 ∧ ecn A' (G' 31) = ec2 ∧ (((1 ≤ fk2)) ∨ ((fk2 = 0) ∧ (TT A' (pc2) (nd2) (sy2) (lk2)) ∧ (nd2 + 5 * ec2 ≤ 6050)))) := by
  have hF0 : Fr [9, 10, 11, 12, 13, 14, 15, 16, 17, 18, 19, 28, 29, 31, 46, 52] [6, 7, 8, 9, 10, 11, 12, 14, 15, 16, 17, 18, 19, 20, 21, 22, 23, 24, 28, 29, 30, 31, 34, 35, 36] G A G A := Fr_rf
  have b_ln : (0 : Int) ≤ ln ∧ ln ≤ 3000 := e_ln ▸ hW.1 9
  have b_li : (0 : Int) ≤ li ∧ li ≤ 3000 := e_li ▸ hW.1 3
  have b_fk : (0 : Int) ≤ fk ∧ fk ≤ 6 := e_fk ▸ hW.1 16
  have b_nd : (0 : Int) ≤ nd ∧ nd ≤ 6999 := e_nd ▸ hW.1 31
  have b_sy : (0 : Int) ≤ sy ∧ sy ≤ 202 := e_sy ▸ hW.1 19
  have b_na : (0 : Int) ≤ na ∧ na ≤ 200 := e_na ▸ hW.1 28
  have b_vi : (0 : Int) ≤ vi ∧ vi ≤ 202 := e_vi ▸ hW.1 29
  have b_lf : (0 : Int) ≤ lf ∧ lf ≤ 3000 := e_lf ▸ hW.2 3 _
  have b_pc : (0 : Int) ≤ pc ∧ pc ≤ 24 := e_pc ▸ hW.1 46
  have b_lk : (0 : Int) ≤ lk ∧ lk ≤ 12 := e_lk ▸ hW.1 52
  intro m
  induction m using Nat.strongRecOn with
  | ind m ih40 =>
    intro L Gx Ax more ln1 fk1 nd1 sy1 na1 vi1 lf1 pc1 ec1 hm gL_0 gL_1 hWx hFx ex_ln1 ex_fk1 ex_nd1 ex_sy1 ex_na1 ex_vi1 ex_lf1 ex_pc1 ex_ec1 fx_52 rx_more iv_0 iv_1 iv_2 iv_3 iv_4 iv_5 iv_6 iv_7 iv_8 iv_9
    have b_ln1 : (0 : Int) ≤ ln1 ∧ ln1 ≤ 3000 := ex_ln1 ▸ hWx.1 9
    have b_fk1 : (0 : Int) ≤ fk1 ∧ fk1 ≤ 6 := ex_fk1 ▸ hWx.1 16
    have b_nd1 : (0 : Int) ≤ nd1 ∧ nd1 ≤ 6999 := ex_nd1 ▸ hWx.1 31
    have b_sy1 : (0 : Int) ≤ sy1 ∧ sy1 ≤ 202 := ex_sy1 ▸ hWx.1 19
    have b_na1 : (0 : Int) ≤ na1 ∧ na1 ≤ 200 := ex_na1 ▸ hWx.1 28
    have b_vi1 : (0 : Int) ≤ vi1 ∧ vi1 ≤ 202 := ex_vi1 ▸ hWx.1 29
    have b_pc1 : (0 : Int) ≤ pc1 ∧ pc1 ≤ 24 := ex_pc1 ▸ hWx.1 46
    obtain ⟨Vs, hvb, hSW0, hPW0, hVT0, hwQ0⟩ := iv_6; obtain ⟨sb, hsb⟩ : ∃ z : Int, z = sy1 := ⟨_, rfl⟩; obtain ⟨pb, hpb⟩ : ∃ z : Int, z = pc1 := ⟨_, rfl⟩; rw [← hsb] at hvb hSW0 hPW0 hVT0 hwQ0; rw [← hpb] at hPW0; have hle0 := wQ_le hwQ0
    refine jx_ld (pc' := 41) (l' := L) (st' := [.int (i32 (more))]) rfl (jl_iloadn gL_1) ?_
    refine jx_if_eq (pc' := 44) (tg := 74) rfl rfl rfl (Int.le_trans (by decide : (-2147483648 : Int) ≤ -2147483648) rx_more.1) (Int.le_trans rx_more.2 (by decide : (2147483647 : Int) ≤ 2147483647)) (fun h473 => ?_) (fun h473 => ?_)
    · have _q := h473
      have z474 := tz_f (Gx 11)
      exact c_readProgram_w_at_74 (X := X) (d := d) (c0 := c0) (c1 := c1) (G := G) (A := A) (T := T) (ln := ln) (li := li) (fk := fk) (nd := nd) (sy := sy) (na := na) (vi := vi) (lf := lf) (pc := pc) (lk := lk) (ec := ec) (hd := hd) (hW := hW) (e_ln := e_ln) (e_li := e_li) (e_fk := e_fk) (e_nd := e_nd) (e_sy := e_sy) (e_na := e_na) (e_vi := e_vi) (e_lf := e_lf) (e_pc := e_pc) (e_lk := e_lk) (e_ec := e_ec) (i_LT := i_LT) (p_0 := p_0) (p_1 := p_1) (p_2 := p_2) (p_3 := p_3) (p_4 := p_4) (p_5 := p_5) (p_6 := p_6) (p_7 := p_7) (p_8 := p_8) (p_9 := p_9) L Gx Ax (ln1) (Gx 10) (Gx 11) (fk1) (Gx 15) (nd1) (sy1) (na1) (vi1) (lf1) (A 4 (ln1).toNat) (pc1) (ec1) gL_0 hWx hFx ((ex_ln1)) (rfl) (rfl) ((ex_fk1)) (rfl) ((ex_nd1)) ((ex_sy1)) ((ex_na1)) ((ex_vi1)) ((ex_lf1)) ((congrFun (hFx.2 4 rfl) _)) ((ex_pc1)) (ex_ec1) ((fx_52)) (by omega) (by omega) (by omega) (by omega) (by omega) (by omega) (by omega) (by omega) (by omega) (by omega) (by omega) (iv_7) ((TP_mk (VB_eq hvb (by omega)) hSW0 hPW0 hVT0 hwQ0 (by omega) (by omega) (by omega) (by omega) (by omega) (by omega) (by omega) (by omega))) (by omega)
    · have _q := h473
      refine jx_ld (pc' := 45) (l' := L) (st' := [.ref 66]) rfl (jl_aloadn gL_0) ?_
      refine jx_ar (pc' := 46) (st' := [.int (i32 (0)), .ref 66]) rfl rfl rfl rfl ?_
      have b475 : (-1 : Int) ≤ A 5 (ln1).toNat ∧ A 5 (ln1).toNat ≤ 15 := hW.2 5 _
      refine jx_vr (pc' := 49) (as := [.int (i32 (0))]) (st := []) rfl rfl rfl rfl ⟨rfl, rfl, Nat.le_of_ble_eq_true rfl⟩ rfl rfl (c_needLevel (dd := d) (hd := by omega) (hW := hWx) (lv := 0) (ln := ln1) (e_ln := show Gx 9 = ln1 from (ex_ln1)) (li := li) (e_li := show Gx 3 = li from ((hFx.1 3 rfl).trans (e_li))) (fk := fk1) (e_fk := show Gx 16 = fk1 from (ex_fk1)) (ll := A 5 (ln1).toNat) (e_ll := show Ax 5 (ln1).toNat = A 5 (ln1).toNat from (congrFun (hFx.2 5 rfl) _))  (h_lv := ⟨(by decide), (by decide)⟩)  ) (fun o V' hq => ?_)
      obtain ⟨G476, A477, r478, fk2_479, rfl, rfl, hW480, hF481, b482, e483, q484⟩ := hq
      have hF485 := Fr_tr hFx hF481 (Fr_sub (by decide)) (Fr_sub (by decide))
      have sf486 : PZ A477 := (show A477 = Ax from funext (fun k => hF481.2 k rfl)) ▸ iv_7
      have sf487 : SW (Vs) (sb) (vi1) A477 := (show A477 = Ax from funext (fun k => hF481.2 k rfl)) ▸ hSW0
      have sf488 : PQ (Vs) (sb) (pb) (fun _ => 0) A477 := (show A477 = Ax from funext (fun k => hF481.2 k rfl)) ▸ hPW0
      have sf489 : VT (Vs) A477 (sb) := (show A477 = Ax from funext (fun k => hF481.2 k rfl)) ▸ hVT0
      have sf490 : wQ A477 (pc1).toNat (nd1) (sb) := (show A477 = Ax from funext (fun k => hF481.2 k rfl)) ▸ hwQ0
      have ec491 : ecn A477 (G476 31) = ec1 := (ecn_f (hF481.2 15 rfl) (hF481.1 31 rfl)).trans ex_ec1
      have bfk2_479 : (0 : Int) ≤ fk2_479 ∧ fk2_479 ≤ 6 := e483 ▸ hW480.1 16
      refine .inr ⟨_, rfl, ?_⟩
      rcases q484 with ⟨rfl, a492, a493, a494, a495⟩ | ⟨rfl, a496⟩
      · have _q : True := trivial
        have b497 : (0 : Int) ≤ A 4 (ln1).toNat ∧ A 4 (ln1).toNat ≤ 3000 := hW.2 4 _
        have lt498 : lf1 < A 4 (ln1).toNat := LT_at (LT_ext (((hF481.1 3 rfl).trans (hFx.1 3 rfl))) (((hF481.2 3 rfl).trans (hFx.2 3 rfl))) (((hF481.2 4 rfl).trans (hFx.2 4 rfl))) i_LT) (show G476 3 = li from ((hF481.1 3 rfl).trans ((hFx.1 3 rfl).trans (e_li)))) (show A477 3 (ln1).toNat = lf1 from (congrFun (hF481.2 3 rfl) _).trans (ex_lf1)) (show A477 4 (ln1).toNat = A 4 (ln1).toNat from (congrFun ((hF481.2 4 rfl).trans (hFx.2 4 rfl)) _)) (by omega) (by omega)
        refine jx_if_eq (pc' := 52) (tg := 74) rfl rfl rfl (by decide) (by decide) (fun h499 => ?_) (fun h499 => ?_)
        · have _q := h499
          exact absurd h499 (by omega)
        · have _q := h499
          refine jx_ld (pc' := 53) (l' := L) (st' := [.ref 66]) rfl (jl_aloadn gL_0) ?_
          refine jx_vr (pc' := 56) (as := []) (st := []) rfl rfl rfl rfl ⟨rfl, rfl, Nat.le_of_ble_eq_true rfl⟩ rfl rfl (c_openLine (dd := d) (hd := by omega) (hW := hW480)  (ln := ln1) (e_ln := show G476 9 = ln1 from ((hF481.1 9 rfl).trans (ex_ln1))) (le := A 4 (ln1).toNat) (e_le := show A477 4 (ln1).toNat = A 4 (ln1).toNat from (congrFun ((hF481.2 4 rfl).trans (hFx.2 4 rfl)) _)) (lf := lf1) (e_lf := show A477 3 (ln1).toNat = lf1 from (congrFun (hF481.2 3 rfl) _).trans (ex_lf1))    (p_0 := by omega)) (fun o V' hq => ?_)
          obtain ⟨G500, A501, at2_502, tk2_503, op2_504, rfl, rfl, hW505, hF506, e507, e508, e509, p510, p511, p512, p513, -⟩ := hq
          have hF515 := Fr_tr hF485 hF506 (Fr_sub (by decide)) (Fr_sub (by decide))
          have sf516 : PZ A501 := (show A501 = A477 from funext (fun k => hF506.2 k rfl)) ▸ sf486
          have sf517 : SW (Vs) (sb) (vi1) A501 := (show A501 = A477 from funext (fun k => hF506.2 k rfl)) ▸ sf487
          have sf518 : PQ (Vs) (sb) (pb) (fun _ => 0) A501 := (show A501 = A477 from funext (fun k => hF506.2 k rfl)) ▸ sf488
          have sf519 : VT (Vs) A501 (sb) := (show A501 = A477 from funext (fun k => hF506.2 k rfl)) ▸ sf489
          have sf520 : wQ A501 (pc1).toNat (nd1) (sb) := (show A501 = A477 from funext (fun k => hF506.2 k rfl)) ▸ sf490
          have ec521 : ecn A501 (G500 31) = ec1 := (ecn_f (hF506.2 15 rfl) (hF506.1 31 rfl)).trans ec491
          have bat2_502 : (0 : Int) ≤ at2_502 ∧ at2_502 ≤ 3002 := e507 ▸ hW505.1 10
          have ztk2_503 := tz_b tk2_503
          have btk2_503 : (0 : Int) ≤ tk2_503 ∧ tk2_503 ≤ 5 := e508 ▸ hW505.1 11
          have bop2_504 : (-2147483648 : Int) ≤ op2_504 ∧ op2_504 ≤ 2147483647 := e509 ▸ hW505.1 15
          refine .inl ⟨rfl, ?_⟩
          have pz522 : lf1 + tz tk2_503 ≤ at2_502 := by omega
          refine jx_ld (pc' := 57) (l' := L) (st' := [.ref 66]) rfl (jl_aloadn gL_0) ?_
          refine jx_ar (pc' := 59) (st' := [.int (i32 (12)), .ref 66]) rfl rfl rfl rfl ?_
          have b523 : (-2147483648 : Int) ≤ G500 13 ∧ G500 13 ≤ 2147483647 := hW505.1 13
          refine jx_vr (pc' := 62) (as := [.int (i32 (12))]) (st := []) rfl rfl rfl rfl ⟨rfl, rfl, Nat.le_of_ble_eq_true rfl⟩ rfl rfl (c_isKey (dd := d) (hd := by omega) (hW := hW505) (k := 12) (tk := tk2_503) (e_tk := show G500 11 = tk2_503 from (e508)) (tn := G500 13) (e_tn := show G500 13 = G500 13 from rfl)  (h_k := ⟨(by decide), (by decide)⟩)  ) (fun o V' hq => ?_)
          obtain ⟨r524, rfl, rfl, b525, q526⟩ := hq
          refine .inr ⟨_, rfl, ?_⟩
          rcases q526 with ⟨rfl, a527, a528, a529⟩ | rfl
          · have _q : True := trivial
            refine jx_ld (pc' := 63) (l' := jSto1 L 1 (.int (i32 (1)))) (st' := []) rfl rfl ?_
            obtain ⟨L530, eL530⟩ : ∃ q, q = jSto1 L 1 (.int (i32 (1))) := ⟨_, rfl⟩
            rw [← eL530]
            have gL530_0 : jGet L530 0 = some (.ref 66) := eL530 ▸ jg_ne (by decide) gL_0 rfl
            have gL530_1 : jGet L530 1 = some (.int (i32 (1))) := eL530 ▸ jg_eq
            refine jx_ld (pc' := 64) (l' := L530) (st' := [.int (i32 (1))]) rfl (jl_iloadn gL530_1) ?_
            refine jx_if_eq (pc' := 67) (tg := 40) rfl rfl rfl (by decide) (by decide) (fun h531 => ?_) (fun h531 => ?_)
            · have _q := h531
              exact absurd h531 (by omega)
            · have _q := h531
              refine jx_ld (pc' := 68) (l' := L530) (st' := [.ref 66]) rfl (jl_aloadn gL530_0) ?_
              refine jx_vr (pc' := 71) (as := []) (st := []) rfl rfl rfl rfl ⟨rfl, rfl, Nat.le_of_ble_eq_true rfl⟩ rfl rfl (c_readProc_w (dd := d) (hd := by omega) (hW := hW505)  (ln := ln1) (e_ln := show G500 9 = ln1 from ((hF506.1 9 rfl).trans ((hF481.1 9 rfl).trans (ex_ln1)))) (li := li) (e_li := show G500 3 = li from ((hF506.1 3 rfl).trans ((hF481.1 3 rfl).trans ((hFx.1 3 rfl).trans (e_li))))) (at0 := at2_502) (e_at0 := show G500 10 = at2_502 from (e507)) (fk := fk2_479) (e_fk := show G500 16 = fk2_479 from ((hF506.1 16 rfl).trans (e483))) (nd := nd1) (e_nd := show G500 31 = nd1 from ((hF506.1 31 rfl).trans ((hF481.1 31 rfl).trans (ex_nd1)))) (sy := sy1) (e_sy := show G500 19 = sy1 from ((hF506.1 19 rfl).trans ((hF481.1 19 rfl).trans (ex_sy1)))) (na := na1) (e_na := show G500 28 = na1 from ((hF506.1 28 rfl).trans ((hF481.1 28 rfl).trans (ex_na1)))) (vi := vi1) (e_vi := show G500 29 = vi1 from ((hF506.1 29 rfl).trans ((hF481.1 29 rfl).trans (ex_vi1)))) (le := A 4 (ln1).toNat) (e_le := show A501 4 (ln1).toNat = A 4 (ln1).toNat from (congrFun ((hF506.2 4 rfl).trans ((hF481.2 4 rfl).trans (hFx.2 4 rfl))) _)) (op0 := op2_504) (e_op0 := show G500 15 = op2_504 from (e509)) (tk0 := tk2_503) (e_tk0 := show G500 11 = tk2_503 from (e508)) (pc0 := pc1) (e_pc0 := show G500 46 = pc1 from ((hF506.1 46 rfl).trans ((hF481.1 46 rfl).trans (ex_pc1)))) (ec := ec1) (e_ec := show ecn A501 (G500 31) = ec1 from ec521) (i_LT := (LT_ext (((hF506.1 3 rfl).trans ((hF481.1 3 rfl).trans (hFx.1 3 rfl)))) (((hF506.2 3 rfl).trans ((hF481.2 3 rfl).trans (hFx.2 3 rfl)))) (((hF506.2 4 rfl).trans ((hF481.2 4 rfl).trans (hFx.2 4 rfl)))) i_LT)) (i_SV := (SW_sv sf517 ((show G500 29 = vi1 from ((hF506.1 29 rfl).trans ((hF481.1 29 rfl).trans (ex_vi1)))).trans (by omega)))) (i_PQ := sf518) (hvb := hvb)   (p_0 := by omega) (p_1 := by omega) (p_2 := by omega) (p_3 := by omega) (p_4 := by omega) (p_5 := by omega) (p_6 := by omega) (p_7 := by omega) (p_8 := (wQ_eq sf520 (by omega) (by omega) (by omega))) (p_9 := (VT_eq sf519 (by omega)))) (fun o V' hq => ?_)
              obtain ⟨G532, A533, ln2_534, at2_535, fk2_536, nd2_537, sy2_538, na2_539, vi2_540, lf2_541, pc2_542, ec2_543, rfl, rfl, hW544, hF545, hQ546, hQ547, hQ548, hQ549, e550, e551, e552, e553, e554, e555, e556, e557, e558, e559, p560, p561, p562, p563, q564⟩ := hq
              have hF565 := Fr_tr hF515 hF545 (Fr_sub (by decide)) (Fr_sub (by decide))
              have sf566 : PZ A533 := PZ_ext (hF545.2 36 rfl) sf516
              have sf567 : SW (Vs) (sb) (vi1) A533 := SW_fx hQ548 (by omega) sf517
              have sf568 : PQ (Vs) (sb) (pb) (fun _ => 0) A533 := PQ_fxq sf518 hQ547 (by omega) hQ549 (by omega)
              have sf569 : VT (Vs) A533 (sb) := VT_fx hQ547 (by omega) sf519
              have sf570 : wQ A533 (pc1).toNat (nd1) (sb) := wQ_fx (fun k j hk hj => hQ546 k j hk (by omega)) (Fx_su hQ547 (by omega)) (Fx_su hQ549 (by omega)) sf520
              have bln2_534 : (0 : Int) ≤ ln2_534 ∧ ln2_534 ≤ 3000 := e550 ▸ hW544.1 9
              have bat2_535 : (0 : Int) ≤ at2_535 ∧ at2_535 ≤ 3002 := e551 ▸ hW544.1 10
              have bfk2_536 : (0 : Int) ≤ fk2_536 ∧ fk2_536 ≤ 6 := e552 ▸ hW544.1 16
              have bnd2_537 : (0 : Int) ≤ nd2_537 ∧ nd2_537 ≤ 6999 := e553 ▸ hW544.1 31
              have bsy2_538 : (0 : Int) ≤ sy2_538 ∧ sy2_538 ≤ 202 := e554 ▸ hW544.1 19
              have bna2_539 : (0 : Int) ≤ na2_539 ∧ na2_539 ≤ 200 := e555 ▸ hW544.1 28
              have bvi2_540 : (0 : Int) ≤ vi2_540 ∧ vi2_540 ≤ 202 := e556 ▸ hW544.1 29
              have blf2_541 : (0 : Int) ≤ lf2_541 ∧ lf2_541 ≤ 3000 := e557 ▸ hW544.2 3 _
              have bpc2_542 : (0 : Int) ≤ pc2_542 ∧ pc2_542 ≤ 24 := e558 ▸ hW544.1 46
              refine .inl ⟨rfl, ?_⟩
              rcases q564 with a571 | ⟨a572, a573, a574, a575, a576, a577, a578, a579, a580, a581, a582, a583, a584⟩
              · have _q : True := trivial
                refine jx_go (tg := 40) rfl rfl ?_
                refine jx_ld (pc' := 41) (l' := L530) (st' := [.int (i32 (1))]) rfl (jl_iloadn gL530_1) ?_
                refine jx_if_eq (pc' := 44) (tg := 74) rfl rfl rfl (by decide) (by decide) (fun h585 => ?_) (fun h585 => ?_)
                · have _q := h585
                  exact absurd h585 (by omega)
                · have _q := h585
                  refine jx_ld (pc' := 45) (l' := L530) (st' := [.ref 66]) rfl (jl_aloadn gL530_0) ?_
                  refine jx_ar (pc' := 46) (st' := [.int (i32 (0)), .ref 66]) rfl rfl rfl rfl ?_
                  have b586 : (-1 : Int) ≤ A 5 (ln2_534).toNat ∧ A 5 (ln2_534).toNat ≤ 15 := hW.2 5 _
                  refine jx_vr (pc' := 49) (as := [.int (i32 (0))]) (st := []) rfl rfl rfl rfl ⟨rfl, rfl, Nat.le_of_ble_eq_true rfl⟩ rfl rfl (c_needLevel (dd := d) (hd := by omega) (hW := hW544) (lv := 0) (ln := ln2_534) (e_ln := show G532 9 = ln2_534 from (e550)) (li := li) (e_li := show G532 3 = li from ((hF545.1 3 rfl).trans ((hF506.1 3 rfl).trans ((hF481.1 3 rfl).trans ((hFx.1 3 rfl).trans (e_li)))))) (fk := fk2_536) (e_fk := show G532 16 = fk2_536 from (e552)) (ll := A 5 (ln2_534).toNat) (e_ll := show A533 5 (ln2_534).toNat = A 5 (ln2_534).toNat from (congrFun ((hF545.2 5 rfl).trans ((hF506.2 5 rfl).trans ((hF481.2 5 rfl).trans (hFx.2 5 rfl)))) _))  (h_lv := ⟨(by decide), (by decide)⟩)  ) (fun o V' hq => ?_)
                  obtain ⟨G587, A588, r589, fk2_590, rfl, rfl, hW591, hF592, b593, e594, q595⟩ := hq
                  have hF596 := Fr_tr hF565 hF592 (Fr_sub (by decide)) (Fr_sub (by decide))
                  have sf597 : PZ A588 := (show A588 = A533 from funext (fun k => hF592.2 k rfl)) ▸ sf566
                  have sf598 : SW (Vs) (sb) (vi1) A588 := (show A588 = A533 from funext (fun k => hF592.2 k rfl)) ▸ sf567
                  have sf599 : PQ (Vs) (sb) (pb) (fun _ => 0) A588 := (show A588 = A533 from funext (fun k => hF592.2 k rfl)) ▸ sf568
                  have sf600 : VT (Vs) A588 (sb) := (show A588 = A533 from funext (fun k => hF592.2 k rfl)) ▸ sf569
                  have sf601 : wQ A588 (pc1).toNat (nd1) (sb) := (show A588 = A533 from funext (fun k => hF592.2 k rfl)) ▸ sf570
                  have ec602 : ecn A588 (G587 31) = ec2_543 := (ecn_f (hF592.2 15 rfl) (hF592.1 31 rfl)).trans e559
                  have bfk2_590 : (0 : Int) ≤ fk2_590 ∧ fk2_590 ≤ 6 := e594 ▸ hW591.1 16
                  refine .inr ⟨_, rfl, ?_⟩
                  rcases q595 with ⟨rfl, a603, a604, a605, a606⟩ | ⟨rfl, a607⟩
                  · have _q : True := trivial
                    exfalso
                    omega
                  · have _q : True := trivial
                    refine jx_if_eq (pc' := 52) (tg := 74) rfl rfl rfl (by decide) (by decide) (fun h608 => ?_) (fun h608 => ?_)
                    · have _q := h608
                      refine jx_ld (pc' := 75) (l' := L530) (st' := [.ref 66]) rfl (jl_aloadn gL530_0) ?_
                      refine jx_vr (pc' := 78) (as := []) (st := []) rfl rfl rfl rfl ⟨rfl, rfl, Nat.le_of_ble_eq_true rfl⟩ rfl rfl (c_bad (dd := d) (hd := by omega) (hW := hW591)  (fk := fk2_590) (e_fk := show G587 16 = fk2_590 from (e594))    ) (fun o V' hq => ?_)
                      obtain ⟨r609, rfl, rfl, b610, q611⟩ := hq
                      refine .inr ⟨_, rfl, ?_⟩
                      rcases q611 with ⟨rfl, a612⟩ | ⟨rfl, a613⟩
                      · have _q : True := trivial
                        refine jx_if_eq (pc' := 81) (tg := 82) rfl rfl rfl (by decide) (by decide) (fun h614 => ?_) (fun h614 => ?_)
                        · have _q := h614
                          exact absurd h614 (by omega)
                        · have _q := h614
                          refine jx_rt (v := none) rfl rfl rfl rfl rfl rfl ?_
                          exact ⟨_, _, ln2_534, fk2_590, nd2_537, sy2_538, na2_539, vi2_540, pc2_542, lk, ec2_543, rfl, rfl, hW591, hF596, ((hF592.1 9 rfl).trans (e550)), (e594), ((hF592.1 31 rfl).trans (e553)), ((hF592.1 19 rfl).trans (e554)), ((hF592.1 28 rfl).trans (e555)), ((hF592.1 29 rfl).trans (e556)), ((hF592.1 46 rfl).trans (e558)), ((hF592.1 52 rfl).trans ((hF545.1 52 rfl).trans ((hF506.1 52 rfl).trans ((hF481.1 52 rfl).trans (fx_52))))), ec602, by first | exact Or.inl (by omega)⟩
                      · have _q : True := trivial
                        exfalso
                        omega
                    · have _q := h608
                      exact absurd h608 (by omega)
              · have _q : True := trivial
                refine jx_go (tg := 40) rfl rfl ?_
                exact ih40 _ (by omega) L530 G532 A533 (1) (ln2_534) (fk2_536) (nd2_537) (sy2_538) (na2_539) (vi2_540) (lf2_541) (pc2_542) (ec2_543) rfl gL530_0 gL530_1 hW544 hF565 ((e550)) ((e552)) ((e553)) ((e554)) ((e555)) ((e556)) ((e557)) ((e558)) (e559) (((hF545.1 52 rfl).trans ((hF506.1 52 rfl).trans ((hF481.1 52 rfl).trans (fx_52))))) (by omega) (by omega) (by omega) (by omega) (by omega) (by omega) (by omega) ((TP_mk (VB_u hvb (by omega) (by omega)) a581 a582 a583 a580 (by omega) (by omega) (by omega) (by omega) (by omega) (by omega) (by omega) (by omega))) (sf566) (by omega) (by omega)
          · have _q : True := trivial
            refine jx_ld (pc' := 63) (l' := jSto1 L 1 (.int (i32 (0)))) (st' := []) rfl rfl ?_
            obtain ⟨L615, eL615⟩ : ∃ q, q = jSto1 L 1 (.int (i32 (0))) := ⟨_, rfl⟩
            rw [← eL615]
            have gL615_0 : jGet L615 0 = some (.ref 66) := eL615 ▸ jg_ne (by decide) gL_0 rfl
            have gL615_1 : jGet L615 1 = some (.int (i32 (0))) := eL615 ▸ jg_eq
            refine jx_ld (pc' := 64) (l' := L615) (st' := [.int (i32 (0))]) rfl (jl_iloadn gL615_1) ?_
            refine jx_if_eq (pc' := 67) (tg := 40) rfl rfl rfl (by decide) (by decide) (fun h616 => ?_) (fun h616 => ?_)
            · have _q := h616
              refine jx_ld (pc' := 41) (l' := L615) (st' := [.int (i32 (0))]) rfl (jl_iloadn gL615_1) ?_
              refine jx_if_eq (pc' := 44) (tg := 74) rfl rfl rfl (by decide) (by decide) (fun h617 => ?_) (fun h617 => ?_)
              · have _q := h617
                have z618 := tz_f (tk2_503)
                exact c_readProgram_w_at_74 (X := X) (d := d) (c0 := c0) (c1 := c1) (G := G) (A := A) (T := T) (ln := ln) (li := li) (fk := fk) (nd := nd) (sy := sy) (na := na) (vi := vi) (lf := lf) (pc := pc) (lk := lk) (ec := ec) (hd := hd) (hW := hW) (e_ln := e_ln) (e_li := e_li) (e_fk := e_fk) (e_nd := e_nd) (e_sy := e_sy) (e_na := e_na) (e_vi := e_vi) (e_lf := e_lf) (e_pc := e_pc) (e_lk := e_lk) (e_ec := e_ec) (i_LT := i_LT) (p_0 := p_0) (p_1 := p_1) (p_2 := p_2) (p_3 := p_3) (p_4 := p_4) (p_5 := p_5) (p_6 := p_6) (p_7 := p_7) (p_8 := p_8) (p_9 := p_9) L615 G500 A501 (ln1) (at2_502) (tk2_503) (fk2_479) (op2_504) (nd1) (sy1) (na1) (vi1) (lf1) (A 4 (ln1).toNat) (pc1) (ec1) gL615_0 hW505 hF515 (((hF506.1 9 rfl).trans ((hF481.1 9 rfl).trans (ex_ln1)))) ((e507)) ((e508)) (((hF506.1 16 rfl).trans (e483))) ((e509)) (((hF506.1 31 rfl).trans ((hF481.1 31 rfl).trans (ex_nd1)))) (((hF506.1 19 rfl).trans ((hF481.1 19 rfl).trans (ex_sy1)))) (((hF506.1 28 rfl).trans ((hF481.1 28 rfl).trans (ex_na1)))) (((hF506.1 29 rfl).trans ((hF481.1 29 rfl).trans (ex_vi1)))) ((congrFun ((hF506.2 3 rfl).trans (hF481.2 3 rfl)) _).trans (ex_lf1)) ((congrFun ((hF506.2 4 rfl).trans ((hF481.2 4 rfl).trans (hFx.2 4 rfl))) _)) (((hF506.1 46 rfl).trans ((hF481.1 46 rfl).trans (ex_pc1)))) (ec521) (((hF506.1 52 rfl).trans ((hF481.1 52 rfl).trans (fx_52)))) (by omega) (by omega) (by omega) (by omega) (by omega) (by omega) (by omega) (by omega) (by omega) (by omega) (by omega) (sf516) ((TP_mk (VB_eq hvb (by omega)) sf517 sf518 sf519 sf520 (by omega) (by omega) (by omega) (by omega) (by omega) (by omega) (by omega) (by omega))) (by omega)
              · have _q := h617
                exact absurd h617 (by omega)
            · have _q := h616
              exact absurd h616 (by omega)
      · have _q : True := trivial
        refine jx_if_eq (pc' := 52) (tg := 74) rfl rfl rfl (by decide) (by decide) (fun h619 => ?_) (fun h619 => ?_)
        · have _q := h619
          refine jx_ld (pc' := 75) (l' := L) (st' := [.ref 66]) rfl (jl_aloadn gL_0) ?_
          refine jx_vr (pc' := 78) (as := []) (st := []) rfl rfl rfl rfl ⟨rfl, rfl, Nat.le_of_ble_eq_true rfl⟩ rfl rfl (c_bad (dd := d) (hd := by omega) (hW := hW480)  (fk := fk2_479) (e_fk := show G476 16 = fk2_479 from (e483))    ) (fun o V' hq => ?_)
          obtain ⟨r620, rfl, rfl, b621, q622⟩ := hq
          refine .inr ⟨_, rfl, ?_⟩
          rcases q622 with ⟨rfl, a623⟩ | ⟨rfl, a624⟩
          · have _q : True := trivial
            refine jx_if_eq (pc' := 81) (tg := 82) rfl rfl rfl (by decide) (by decide) (fun h625 => ?_) (fun h625 => ?_)
            · have _q := h625
              exact absurd h625 (by omega)
            · have _q := h625
              refine jx_rt (v := none) rfl rfl rfl rfl rfl rfl ?_
              exact ⟨_, _, ln1, fk2_479, nd1, sy1, na1, vi1, pc1, lk, ec1, rfl, rfl, hW480, hF485, ((hF481.1 9 rfl).trans (ex_ln1)), (e483), ((hF481.1 31 rfl).trans (ex_nd1)), ((hF481.1 19 rfl).trans (ex_sy1)), ((hF481.1 28 rfl).trans (ex_na1)), ((hF481.1 29 rfl).trans (ex_vi1)), ((hF481.1 46 rfl).trans (ex_pc1)), ((hF481.1 52 rfl).trans (fx_52)), ec491, by first | exact Or.inl (by omega)⟩
          · have _q : True := trivial
            exfalso
            omega
        · have _q := h619
          exact absurd h619 (by omega)
set_option maxRecDepth 20000 in
set_option maxHeartbeats 4000000 in
theorem c_readProgram_w {X : jX} {dd : Nat} {c0 c1 : jC} {G : Nat → Int} {A : Nat → Nat → Int} {T : jH} {ln li fk nd sy na vi lf pc lk ec : Int} (hd : 8 * 18 + 82 ≤ dd) (hW : Wk G A) (e_ln : G 9 = ln) (e_li : G 3 = li) (e_fk : G 16 = fk) (e_nd : G 31 = nd) (e_sy : G 19 = sy) (e_na : G 28 = na) (e_vi : G 29 = vi) (e_lf : A 3 (ln).toNat = lf) (e_pc : G 46 = pc) (e_lk : G 52 = lk) (e_ec : ecn A (G 31) = ec) (i_LT : LT G A) (p_0 : fk = 0) (p_1 : ln = 0) (p_2 : nd = 1) (p_3 : sy = 0) (p_4 : na = 0) (p_5 : vi = 0) (p_6 : pc = 0) (p_7 : lk = 0) (p_8 : PZ A) (p_9 : ec = 0) : wk X dd 312 [.ref 66] (rV c0 c1 G A T) (fun o V' => ∃ (G' : Nat → Int) (A' : Nat → Nat → Int) (ln2 : Int) (fk2 : Int) (nd2 : Int) (sy2 : Int) (na2 : Int) (vi2 : Int) (pc2 : Int) (lk2 : Int) (ec2 : Int), V' = rV c0 c1 G' A' T ∧ o = .inl none ∧ Wk G' A' ∧ Fr [9, 10, 11, 12, 13, 14, 15, 16, 17, 18, 19, 28, 29, 31, 46, 52] [6, 7, 8, 9, 10, 11, 12, 14, 15, 16, 17, 18, 19, 20, 21, 22, 23, 24, 28, 29, 30, 31, 34, 35, 36] G A G' A' ∧ G' 9 = ln2 ∧ G' 16 = fk2 ∧ G' 31 = nd2 ∧ G' 19 = sy2 ∧ G' 28 = na2 ∧ G' 29 = vi2 ∧ G' 46 = pc2 ∧ G' 52 = lk2 ∧ ecn A' (G' 31) = ec2 ∧ (((1 ≤ fk2)) ∨ ((fk2 = 0) ∧ (TT A' (pc2) (nd2) (sy2) (lk2)) ∧ (nd2 + 5 * ec2 ≤ 6050)))) := by
  obtain ⟨d, rfl⟩ : ∃ d, dd = d + 1 := ⟨dd - 1, by omega⟩
  refine wk_of (e := jm312) rfl (Nat.le_of_ble_eq_true rfl) ?_
  show wj X d jm312 (0, [(0, .ref 66)], [], rV c0 c1 G A T) _
  have hF0 : Fr [9, 10, 11, 12, 13, 14, 15, 16, 17, 18, 19, 28, 29, 31, 46, 52] [6, 7, 8, 9, 10, 11, 12, 14, 15, 16, 17, 18, 19, 20, 21, 22, 23, 24, 28, 29, 30, 31, 34, 35, 36] G A G A := Fr_rf
  have b_ln : (0 : Int) ≤ ln ∧ ln ≤ 3000 := e_ln ▸ hW.1 9
  have b_li : (0 : Int) ≤ li ∧ li ≤ 3000 := e_li ▸ hW.1 3
  have b_fk : (0 : Int) ≤ fk ∧ fk ≤ 6 := e_fk ▸ hW.1 16
  have b_nd : (0 : Int) ≤ nd ∧ nd ≤ 6999 := e_nd ▸ hW.1 31
  have b_sy : (0 : Int) ≤ sy ∧ sy ≤ 202 := e_sy ▸ hW.1 19
  have b_na : (0 : Int) ≤ na ∧ na ≤ 200 := e_na ▸ hW.1 28
  have b_vi : (0 : Int) ≤ vi ∧ vi ≤ 202 := e_vi ▸ hW.1 29
  have b_lf : (0 : Int) ≤ lf ∧ lf ≤ 3000 := e_lf ▸ hW.2 3 _
  have b_pc : (0 : Int) ≤ pc ∧ pc ≤ 24 := e_pc ▸ hW.1 46
  have b_lk : (0 : Int) ≤ lk ∧ lk ≤ 12 := e_lk ▸ hW.1 52
  refine jx_ld (pc' := 1) (l' := [(0, .ref 66)]) (st' := [.ref 66]) rfl (jl_aloadn rfl) ?_
  refine jx_hp (pc' := 4) (st' := [.ref 27, .ref 66]) rfl rfl rfl rfl rfl rfl ?_
  refine jx_st (pc' := 7) (as := [.ref 27]) (st := [.ref 66]) rfl rfl ⟨rfl, Nat.le_of_ble_eq_true rfl⟩ rfl rfl rfl (c_nameOf (dd := d) (hd := by omega) (s := 27)    (q_s := rfl) (l_s := by decide) (n_s := by decide) ) (fun o V' hq => ?_)
  obtain ⟨r626, rfl, rfl, -⟩ := hq
  refine .inr ⟨_, rfl, ?_⟩
  refine jx_ar (pc' := 9) (st' := [.int (i32 (12)), .long (r626), .ref 66]) rfl rfl rfl rfl ?_
  refine jx_ar (pc' := 10) (st' := [.int (i32 (0)), .int (i32 (12)), .long (r626), .ref 66]) rfl rfl rfl rfl ?_
  refine jx_vr (pc' := 13) (as := [.long (r626), .int (i32 (12)), .int (i32 (0))]) (st := []) rfl rfl rfl rfl ⟨rfl, rfl, Nat.le_of_ble_eq_true rfl⟩ rfl rfl (c_symbol (dd := d) (hd := by omega) (hW := hW) (nm := r626) (kind := 12) (many := 0) (sy := sy) (e_sy := show G 19 = sy from (e_sy))  (h_kind := ⟨(by decide), (by decide)⟩) (h_many := ⟨(by decide), (by decide)⟩)  (p_0 := by omega) (p_1 := by omega)) (fun o V' hq => ?_)
  obtain ⟨G628, A629, r630, sy2_631, yk2_632, rfl, rfl, hW633, hF634, hQ635, b636, e637, e638, p639, p640, p641, p642, -⟩ := hq
  have hF644 := Fr_tr hF0 hF634 (Fr_sub (by decide)) (Fr_sub (by decide))
  have sf645 : PZ A629 := PZ_ext (hF634.2 36 rfl) p_8
  have ec646 : ecn A629 (G628 31) = ec := (ecn_f (hF634.2 15 rfl) (hF634.1 31 rfl)).trans e_ec
  have bsy2_631 : (0 : Int) ≤ sy2_631 ∧ sy2_631 ≤ 202 := e637 ▸ hW633.1 19
  have byk2_632 : (0 : Int) ≤ yk2_632 ∧ yk2_632 ≤ 14 := e638 ▸ hW633.2 7 _
  refine .inr ⟨_, rfl, ?_⟩
  refine jx_ar (pc' := 14) (st' := []) rfl rfl rfl rfl ?_
  refine jx_ld (pc' := 15) (l' := [(0, .ref 66)]) (st' := [.ref 66]) rfl (jl_aloadn rfl) ?_
  refine jx_hp (pc' := 18) (st' := [.ref 28, .ref 66]) rfl rfl rfl rfl rfl rfl ?_
  refine jx_st (pc' := 21) (as := [.ref 28]) (st := [.ref 66]) rfl rfl ⟨rfl, Nat.le_of_ble_eq_true rfl⟩ rfl rfl rfl (c_nameOf (dd := d) (hd := by omega) (s := 28)    (q_s := rfl) (l_s := by decide) (n_s := by decide) ) (fun o V' hq => ?_)
  obtain ⟨r647, rfl, rfl, -⟩ := hq
  refine .inr ⟨_, rfl, ?_⟩
  refine jx_ar (pc' := 23) (st' := [.int (i32 (13)), .long (r647), .ref 66]) rfl rfl rfl rfl ?_
  refine jx_ar (pc' := 24) (st' := [.int (i32 (0)), .int (i32 (13)), .long (r647), .ref 66]) rfl rfl rfl rfl ?_
  refine jx_vr (pc' := 27) (as := [.long (r647), .int (i32 (13)), .int (i32 (0))]) (st := []) rfl rfl rfl rfl ⟨rfl, rfl, Nat.le_of_ble_eq_true rfl⟩ rfl rfl (c_symbol (dd := d) (hd := by omega) (hW := hW633) (nm := r647) (kind := 13) (many := 0) (sy := sy2_631) (e_sy := show G628 19 = sy2_631 from (e637))  (h_kind := ⟨(by decide), (by decide)⟩) (h_many := ⟨(by decide), (by decide)⟩)  (p_0 := by omega) (p_1 := by omega)) (fun o V' hq => ?_)
  obtain ⟨G649, A650, r651, sy2_652, yk2_653, rfl, rfl, hW654, hF655, hQ656, b657, e658, e659, p660, p661, p662, p663, -⟩ := hq
  have hF665 := Fr_tr hF644 hF655 (Fr_sub (by decide)) (Fr_sub (by decide))
  have sf666 : PZ A650 := PZ_ext (hF655.2 36 rfl) sf645
  have sf667 : YD A650 (sy) (12) (0) := YD_fx (by omega) (by omega) hQ656 p642
  have ec668 : ecn A650 (G649 31) = ec := (ecn_f (hF655.2 15 rfl) (hF655.1 31 rfl)).trans ec646
  have bsy2_652 : (0 : Int) ≤ sy2_652 ∧ sy2_652 ≤ 202 := e658 ▸ hW654.1 19
  have byk2_653 : (0 : Int) ≤ yk2_653 ∧ yk2_653 ≤ 14 := e659 ▸ hW654.2 7 _
  refine .inr ⟨_, rfl, ?_⟩
  refine jx_ar (pc' := 28) (st' := []) rfl rfl rfl rfl ?_
  refine jx_ld (pc' := 29) (l' := [(0, .ref 66)]) (st' := [.ref 66]) rfl (jl_aloadn rfl) ?_
  refine jx_ar (pc' := 30) (st' := [.int (i32 (0)), .ref 66]) rfl rfl rfl rfl ?_
  refine jx_vr (pc' := 33) (as := [.int (i32 (0))]) (st := []) rfl rfl rfl rfl ⟨rfl, rfl, Nat.le_of_ble_eq_true rfl⟩ rfl rfl (c_show (dd := d) (hd := by omega) (hW := hW654) (s := 0) (vi := vi) (e_vi := show G649 29 = vi from ((hF655.1 29 rfl).trans ((hF634.1 29 rfl).trans (e_vi))))  (h_s := ⟨(by decide), (by decide)⟩)  (p_0 := by omega) (p_1 := by omega)) (fun o V' hq => ?_)
  obtain ⟨G669, A670, vi2_671, sv2_672, rfl, rfl, hW673, hF674, hQ675, e676, e677, p678, p679, -⟩ := hq
  have hF681 := Fr_tr hF665 hF674 (Fr_sub (by decide)) (Fr_sub (by decide))
  have sf682 : PZ A670 := PZ_ext (hF674.2 36 rfl) sf666
  have sf683 : YD A670 (sy) (12) (0) := YD_fx (by omega) (by omega) (Sg_fr (sb := sy + 1) hF674 (by decide)) sf667
  have sf684 : YD A670 (sy2_631) (13) (0) := YD_fx (by omega) (by omega) (Sg_fr (sb := sy2_631 + 1) hF674 (by decide)) p663
  have ec685 : ecn A670 (G669 31) = ec := (ecn_f (hF674.2 15 rfl) (hF674.1 31 rfl)).trans ec668
  have bvi2_671 : (0 : Int) ≤ vi2_671 ∧ vi2_671 ≤ 202 := e676 ▸ hW673.1 29
  have bsv2_672 : (0 : Int) ≤ sv2_672 ∧ sv2_672 ≤ 201 := e677 ▸ hW673.2 14 _
  refine .inl ⟨rfl, ?_⟩
  refine jx_ld (pc' := 34) (l' := [(0, .ref 66)]) (st' := [.ref 66]) rfl (jl_aloadn rfl) ?_
  have _q : True := trivial
  refine jx_ar (pc' := 35) (st' := [.int (i32 (1)), .ref 66]) rfl rfl rfl rfl ?_
  refine jx_vr (pc' := 38) (as := [.int (i32 (1))]) (st := []) rfl rfl rfl rfl ⟨rfl, rfl, Nat.le_of_ble_eq_true rfl⟩ rfl rfl (c_show (dd := d) (hd := by omega) (hW := hW673) (s := 1) (vi := vi2_671) (e_vi := show G669 29 = vi2_671 from (e676))  (h_s := ⟨(by decide), (by decide)⟩)  (p_0 := by omega) (p_1 := by omega)) (fun o V' hq => ?_)
  obtain ⟨G686, A687, vi2_688, sv2_689, rfl, rfl, hW690, hF691, hQ692, e693, e694, p695, p696, -⟩ := hq
  have hF698 := Fr_tr hF681 hF691 (Fr_sub (by decide)) (Fr_sub (by decide))
  have k699 : A687 14 (vi).toNat = sv2_672 := (hQ692 14 _ rfl (by omega)).trans (show A670 14 (vi).toNat = sv2_672 from (e677))
  have sf700 : PZ A687 := PZ_ext (hF691.2 36 rfl) sf682
  have sf701 : YD A687 (sy) (12) (0) := YD_fx (by omega) (by omega) (Sg_fr (sb := sy + 1) hF691 (by decide)) sf683
  have sf702 : YD A687 (sy2_631) (13) (0) := YD_fx (by omega) (by omega) (Sg_fr (sb := sy2_631 + 1) hF691 (by decide)) sf684
  have ec703 : ecn A687 (G686 31) = ec := (ecn_f (hF691.2 15 rfl) (hF691.1 31 rfl)).trans ec685
  have bvi2_688 : (0 : Int) ≤ vi2_688 ∧ vi2_688 ≤ 202 := e693 ▸ hW690.1 29
  have bsv2_689 : (0 : Int) ≤ sv2_689 ∧ sv2_689 ≤ 201 := e694 ▸ hW690.2 14 _
  refine .inl ⟨rfl, ?_⟩
  refine jx_ar (pc' := 39) (st' := [.int (i32 (1))]) rfl rfl rfl rfl ?_
  refine jx_ld (pc' := 40) (l' := jSto1 [(0, .ref 66)] 1 (.int (i32 (1)))) (st' := []) rfl rfl ?_
  obtain ⟨L704, eL704⟩ : ∃ q, q = jSto1 [(0, .ref 66)] 1 (.int (i32 (1))) := ⟨_, rfl⟩
  rw [← eL704]
  have gL704_0 : jGet L704 0 = some (.ref 66) := eL704 ▸ jg_ne (by decide) (rfl : jGet [(0, .ref 66)] 0 = some (.ref 66)) rfl
  have gL704_1 : jGet L704 1 = some (.int (i32 (1))) := eL704 ▸ jg_eq
  exact c_readProgram_w_at_40 (X := X) (d := d) (c0 := c0) (c1 := c1) (G := G) (A := A) (T := T) (ln := ln) (li := li) (fk := fk) (nd := nd) (sy := sy) (na := na) (vi := vi) (lf := lf) (pc := pc) (lk := lk) (ec := ec) (hd := hd) (hW := hW) (e_ln := e_ln) (e_li := e_li) (e_fk := e_fk) (e_nd := e_nd) (e_sy := e_sy) (e_na := e_na) (e_vi := e_vi) (e_lf := e_lf) (e_pc := e_pc) (e_lk := e_lk) (e_ec := e_ec) (i_LT := i_LT) (p_0 := p_0) (p_1 := p_1) (p_2 := p_2) (p_3 := p_3) (p_4 := p_4) (p_5 := p_5) (p_6 := p_6) (p_7 := p_7) (p_8 := p_8) (p_9 := p_9) _ L704 G686 A687 (1) (ln) (fk) (nd) (sy2_652) (na) (vi2_688) (lf) (pc) (ec) rfl gL704_0 gL704_1 hW690 hF698 (((hF691.1 9 rfl).trans ((hF674.1 9 rfl).trans ((hF655.1 9 rfl).trans ((hF634.1 9 rfl).trans (e_ln)))))) (((hF691.1 16 rfl).trans ((hF674.1 16 rfl).trans ((hF655.1 16 rfl).trans ((hF634.1 16 rfl).trans (e_fk)))))) (((hF691.1 31 rfl).trans ((hF674.1 31 rfl).trans ((hF655.1 31 rfl).trans ((hF634.1 31 rfl).trans (e_nd)))))) (((hF691.1 19 rfl).trans ((hF674.1 19 rfl).trans (e658)))) (((hF691.1 28 rfl).trans ((hF674.1 28 rfl).trans ((hF655.1 28 rfl).trans ((hF634.1 28 rfl).trans (e_na)))))) ((e693)) ((congrFun ((hF691.2 3 rfl).trans ((hF674.2 3 rfl).trans ((hF655.2 3 rfl).trans (hF634.2 3 rfl)))) _).trans (e_lf)) (((hF691.1 46 rfl).trans ((hF674.1 46 rfl).trans ((hF655.1 46 rfl).trans ((hF634.1 46 rfl).trans (e_pc)))))) (ec703) (((hF691.1 52 rfl).trans ((hF674.1 52 rfl).trans ((hF655.1 52 rfl).trans ((hF634.1 52 rfl).trans (e_lk)))))) (by omega) (by omega) (by omega) (by omega) (by omega) (by omega) (by omega) ((TP_init sf701 (by omega) sf702 (by omega) (show A687 14 (vi).toNat = sv2_672 from (k699)) (by omega) (by omega) (show A687 14 (vi2_671).toNat = sv2_689 from (e694)) (by omega) (by omega) (by omega) (by omega) (by omega) (by omega))) (sf700) (by omega) (by omega)
