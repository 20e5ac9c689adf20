set_option maxRecDepth 20000 in
set_option maxHeartbeats 4000000 in
theorem c_readPlaced_w_at_19 {X : jX} {d : Nat} {Vs : Nat → Prop} {sb pb : Int} (hvb : VB Vs sb) {c0 c1 : jC} {G : Nat → Int} {A : Nat → Nat → Int} {T : jH} {ln li at0 fk nd sy na vi le op0 tk0 ec : Int} (hd : 8 * 18 + 81 ≤ d + 1) (hW : Wk G A) (e_ln : G 9 = ln) (e_li : G 3 = li) (e_at0 : G 10 = at0) (e_fk : G 16 = fk) (e_nd : G 31 = nd) (e_sy : G 19 = sy) (e_na : G 28 = na) (e_vi : G 29 = vi) (e_le : A 4 (ln).toNat = le) (e_op0 : G 15 = op0) (e_tk0 : G 11 = tk0) (e_ec : ecn A (G 31) = ec) (i_LT : LT G A) (i_SV : SV Vs sb G A) (i_PQ : PQ Vs sb pb G A) (p_0 : fk = 0) (p_1 : 1 ≤ nd) (p_2 : ln < li) (p_3 : at0 ≤ le) (p_4 : nd ≤ 2 * at0 - tz tk0 + 30) (p_5 : sy ≤ na + 2) (p_6 : vi ≤ sy) (p_7 : sb ≤ sy) (p_8 : PZ A) (p_9 : nd + 5 * ec ≤ 2 * at0 - tz tk0 + 35) : ∀ (m : Nat) (L : jL) (Gx : Nat → Int) (Ax : Nat → Nat → Int) (many ln1 at1 fk1 nd1 sy1 na1 lf1 ec1 : Int), (li - ln1).toNat = m → jGet L 0 = some (.ref 66) → jGet L 1 = some (.int (i32 many)) → Wk Gx Ax → Fr [9, 10, 11, 12, 13, 14, 15, 16, 17, 18, 19, 28, 29, 31] [6, 7, 8, 9, 10, 11, 12, 14, 15, 16, 17, 18, 19, 20, 21, 22, 23, 24, 28, 36] G A Gx Ax → Pf nd A Ax → Fx sr (sy) A Ax → Fx [14] (vi) A Ax → Gx 9 = ln1 → Gx 10 = at1 → Gx 16 = fk1 → Gx 31 = nd1 → Gx 19 = sy1 → Gx 28 = na1 → Ax 3 (ln1).toNat = lf1 → ecn Ax (Gx 31) = ec1 → Gx 29 = vi → ((-2147483648 : Int) ≤ many ∧ many ≤ 2147483647) → (fk1 = 0) → (at0 ≤ at1) → (nd ≤ nd1) → (sy ≤ sy1) → (sy1 ≤ na1 + 2) → (vi ≤ sy1) → (ln ≤ ln1) → (ln1 ≤ li) → (nd1 ≤ 2 * at1 + 31) → (at1 < lf1 ∨ li ≤ ln1) → (0 ≤ many ∧ many ≤ ln1) → (wB Ax Vs pb (nd) (nd1) (sy) (sy1)) → (nd1 + 5 * ec1 ≤ 2 * at1 + 31 + 5) → (NdM Ax (nd) (nd1) (sy)) → wj X d jm311 (19, L, [], rV c0 c1 Gx Ax T) (fun o V_q => ∃ (G_q : Nat → Int) (A_q : Nat → Nat → Int) (ln2 : Int) (at2 : Int) (fk2 : Int) (nd2 : Int) (sy2 : Int) (na2 : Int) (vi2 : Int) (lf2 : Int) (ec2 : Int), V_q = rV c0 c1 G_q A_q T ∧ o = .inl none ∧ Wk G_q A_q ∧ Fr [9, 10, 11, 12, 13, 14, 15, 16, 17, 18, 19, 28, 29, 31] [6, 7, 8, 9, 10, 11, 12, 14, 15, 16, 17, 18, 19, 20, 21, 22, 23, 24, 28, 36] G A G_q A_q ∧ Pf nd A A_q ∧ Fx sr (sy) A A_q ∧ Fx [14] (vi) A A_q ∧ G_q 9 = ln2 ∧ G_q 10 = at2 ∧ G_q 16 = fk2 ∧ G_q 31 = nd2 ∧ G_q 19 = sy2 ∧ G_q 28 = na2 ∧ G_q 29 = vi2 ∧ A_q 3 (ln2).toNat = lf2 ∧ ecn A_q (G_q 31) = ec2 ∧ (nd ≤ nd2) ∧ (sy ≤ sy2) ∧ (sy2 ≤ na2 + 2) ∧ (vi2 = vi) ∧ (ln ≤ ln2) ∧ (ln2 ≤ li) ∧ (((1 ≤ fk2)) ∨ ((fk2 = 0) ∧ (wB A_q Vs pb (nd) (nd2) (sy) (sy2)) ∧ (NdM A_q (nd) (nd2) (sy)) ∧ (nd2 + 5 * ec2 ≤ 6055)))) := by
  have hF0 : Fr [9, 10, 11, 12, 13, 14, 15, 16, 17, 18, 19, 28, 29, 31] [6, 7, 8, 9, 10, 11, 12, 14, 15, 16, 17, 18, 19, 20, 21, 22, 23, 24, 28, 36] G A G A := Fr_rf
  have hP0 : Pf nd A A := Pf_rf
  have hS0 : Fx sr (sy) A A := Fx_rf
  have hV0 : Fx [14] (vi) A A := Fx_rf
  have b_ln : (0 : Int) ≤ ln ∧ ln ≤ 3000 := e_ln ▸ hW.1 9
  have b_li : (0 : Int) ≤ li ∧ li ≤ 3000 := e_li ▸ hW.1 3
  have b_at0 : (0 : Int) ≤ at0 ∧ at0 ≤ 3002 := e_at0 ▸ hW.1 10
  have b_fk : (0 : Int) ≤ fk ∧ fk ≤ 6 := e_fk ▸ hW.1 16
  have b_nd : (0 : Int) ≤ nd ∧ nd ≤ 6999 := e_nd ▸ hW.1 31
  have b_sy : (0 : Int) ≤ sy ∧ sy ≤ 202 := e_sy ▸ hW.1 19
  have b_na : (0 : Int) ≤ na ∧ na ≤ 200 := e_na ▸ hW.1 28
  have b_vi : (0 : Int) ≤ vi ∧ vi ≤ 202 := e_vi ▸ hW.1 29
  have b_le : (0 : Int) ≤ le ∧ le ≤ 3000 := e_le ▸ hW.2 4 _
  have b_op0 : (-2147483648 : Int) ≤ op0 ∧ op0 ≤ 2147483647 := e_op0 ▸ hW.1 15
  have z_tk0 := tz_f tk0
  have b_tk0 : (0 : Int) ≤ tk0 ∧ tk0 ≤ 5 := e_tk0 ▸ hW.1 11
  intro m
  induction m using Nat.strongRecOn with
  | ind m ih19 =>
    intro L Gx Ax many ln1 at1 fk1 nd1 sy1 na1 lf1 ec1 hm gL_0 gL_1 hWx hFx hPx hSx hVx ex_ln1 ex_at1 ex_fk1 ex_nd1 ex_sy1 ex_na1 ex_lf1 ex_ec1 fx_29 rx_many iv_0 iv_1 iv_2 iv_3 iv_4 iv_5 iv_6 iv_7 iv_8 iv_9 iv_10 iv_11 iv_12 iv_13
    have b_ln1 : (0 : Int) ≤ ln1 ∧ ln1 ≤ 3000 := ex_ln1 ▸ hWx.1 9
    have b_at1 : (0 : Int) ≤ at1 ∧ at1 ≤ 3002 := ex_at1 ▸ hWx.1 10
    have b_fk1 : (0 : Int) ≤ fk1 ∧ fk1 ≤ 6 := ex_fk1 ▸ hWx.1 16
    have b_nd1 : (0 : Int) ≤ nd1 ∧ nd1 ≤ 6999 := ex_nd1 ▸ hWx.1 31
    have b_sy1 : (0 : Int) ≤ sy1 ∧ sy1 ≤ 202 := ex_sy1 ▸ hWx.1 19
    have b_na1 : (0 : Int) ≤ na1 ∧ na1 ≤ 200 := ex_na1 ▸ hWx.1 28
    refine jx_ld (pc_q := 20) (l_q := L) (st_q := [.ref 66]) rfl (jl_aloadn gL_0) ?_
    refine jx_ar (pc_q := 21) (st_q := [.int (i32 (0)), .ref 66]) rfl rfl rfl rfl ?_
    have b1 : (-1 : Int) ≤ A 5 (ln1).toNat ∧ A 5 (ln1).toNat ≤ 15 := hW.2 5 _
    refine jx_vr (pc_q := 24) (as := [.int (i32 (0))]) (st := []) rfl rfl rfl rfl ⟨rfl, rfl, Nat.le_of_ble_eq_true rfl⟩ rfl rfl (c_isBelow (dd := d) (hd := by omega) (hW := hWx) (lv := 0) (ln := ln1) (e_ln := show Gx 9 = ln1 from (ex_ln1)) (li := li) (e_li := show Gx 3 = li from ((hFx.1 3 rfl).trans (e_li))) (fk := fk1) (e_fk := show Gx 16 = fk1 from (ex_fk1)) (ll := A 5 (ln1).toNat) (e_ll := show Ax 5 (ln1).toNat = A 5 (ln1).toNat from (congrFun (hFx.2 5 rfl) _))  (h_lv := ⟨(by decide), (by decide)⟩)  (p_0 := by omega)) (fun o V_q hq => ?_)
    obtain ⟨G2, A3, r4, fk2_5, rfl, rfl, hW6, hF7, b8, e9, q10⟩ := hq
    have hF11 := Fr_tr hFx hF7 (Fr_sub (by decide)) (Fr_sub (by decide))
    have hP12 := Pf_f hPx hF7 (by decide)
    have hS13 := Fx_f hSx hF7 (by decide)
    have hV14 := Fx_f hVx hF7 (by decide)
    have sf15 : wB A3 Vs pb (nd) (nd1) (sy) (sy1) := (show A3 = Ax from funext (fun k => hF7.2 k rfl)) ▸ iv_11
    have sf16 : NdM A3 (nd) (nd1) (sy) := NdM_f hF7 (by decide) iv_13
    have ec17 : ecn A3 (G2 31) = ec1 := (ecn_f (hF7.2 15 rfl) (hF7.1 31 rfl)).trans ex_ec1
    have bfk2_5 : (0 : Int) ≤ fk2_5 ∧ fk2_5 ≤ 6 := e9 ▸ hW6.1 16
    refine .inr ⟨_, rfl, ?_⟩
    rcases q10 with ⟨rfl, a18, a19, a20, a21⟩ | ⟨rfl, a22⟩ | ⟨rfl, a23, a24, a25⟩
    · have _q : True := trivial
      have b26 : (0 : Int) ≤ A 4 (ln1).toNat ∧ A 4 (ln1).toNat ≤ 3000 := hW.2 4 _
      have lt27 : lf1 < A 4 (ln1).toNat := LT_at (LT_ext (((hF7.1 3 rfl).trans (hFx.1 3 rfl))) (((hF7.2 3 rfl).trans (hFx.2 3 rfl))) (((hF7.2 4 rfl).trans (hFx.2 4 rfl))) i_LT) (show G2 3 = li from ((hF7.1 3 rfl).trans ((hFx.1 3 rfl).trans (e_li)))) (show A3 3 (ln1).toNat = lf1 from (congrFun (hF7.2 3 rfl) _).trans (ex_lf1)) (show A3 4 (ln1).toNat = A 4 (ln1).toNat from (congrFun ((hF7.2 4 rfl).trans (hFx.2 4 rfl)) _)) (by omega) (by omega)
      refine jx_if_eq (pc_q := 27) (tg := 125) rfl rfl rfl (by decide) (by decide) (fun h28 => ?_) (fun h28 => ?_)
      · have _q := h28
        exact absurd h28 (by omega)
      · have _q := h28
        refine jx_ld (pc_q := 28) (l_q := L) (st_q := [.ref 66]) rfl (jl_aloadn gL_0) ?_
        refine jx_vr (pc_q := 31) (as := []) (st := []) rfl rfl rfl rfl ⟨rfl, rfl, Nat.le_of_ble_eq_true rfl⟩ rfl rfl (c_openLine (dd := d) (hd := by omega) (hW := hW6)  (ln := ln1) (e_ln := show G2 9 = ln1 from ((hF7.1 9 rfl).trans (ex_ln1))) (le := A 4 (ln1).toNat) (e_le := show A3 4 (ln1).toNat = A 4 (ln1).toNat from (congrFun ((hF7.2 4 rfl).trans (hFx.2 4 rfl)) _)) (lf := lf1) (e_lf := show A3 3 (ln1).toNat = lf1 from (congrFun (hF7.2 3 rfl) _).trans (ex_lf1))    (p_0 := by omega)) (fun o V_q hq => ?_)
        obtain ⟨G29, A30, at2_31, tk2_32, op2_33, rfl, rfl, hW34, hF35, e36, e37, e38, p39, p40, p41, p42, -⟩ := hq
        have hF44 := Fr_tr hF11 hF35 (Fr_sub (by decide)) (Fr_sub (by decide))
        have hP45 := Pf_f hP12 hF35 (by decide)
        have hS46 := Fx_f hS13 hF35 (by decide)
        have hV47 := Fx_f hV14 hF35 (by decide)
        have sf48 : wB A30 Vs pb (nd) (nd1) (sy) (sy1) := (show A30 = A3 from funext (fun k => hF35.2 k rfl)) ▸ sf15
        have sf49 : NdM A30 (nd) (nd1) (sy) := NdM_f hF35 (by decide) sf16
        have ec50 : ecn A30 (G29 31) = ec1 := (ecn_f (hF35.2 15 rfl) (hF35.1 31 rfl)).trans ec17
        have bat2_31 : (0 : Int) ≤ at2_31 ∧ at2_31 ≤ 3002 := e36 ▸ hW34.1 10
        have ztk2_32 := tz_b tk2_32
        have btk2_32 : (0 : Int) ≤ tk2_32 ∧ tk2_32 ≤ 5 := e37 ▸ hW34.1 11
        have bop2_33 : (-2147483648 : Int) ≤ op2_33 ∧ op2_33 ≤ 2147483647 := e38 ▸ hW34.1 15
        refine .inl ⟨rfl, ?_⟩
        have pz51 : lf1 + tz tk2_32 ≤ at2_31 := by omega
        refine jx_ld (pc_q := 32) (l_q := L) (st_q := [.ref 66]) rfl (jl_aloadn gL_0) ?_
        refine jx_ld (pc_q := 33) (l_q := L) (st_q := [.ref 66, .ref 66]) rfl (jl_aloadn gL_0) ?_
        refine jx_ar (pc_q := 35) (st_q := [.int (i32 (20)), .ref 66, .ref 66]) rfl rfl rfl rfl ?_
        have b52 : (-2147483648 : Int) ≤ G29 13 ∧ G29 13 ≤ 2147483647 := hW34.1 13
        refine jx_vr (pc_q := 38) (as := [.int (i32 (20))]) (st := [.ref 66]) rfl rfl rfl rfl ⟨rfl, rfl, Nat.le_of_ble_eq_true rfl⟩ rfl rfl (c_isKey (dd := d) (hd := by omega) (hW := hW34) (k := 20) (tk := tk2_32) (e_tk := show G29 11 = tk2_32 from (e37)) (tn := G29 13) (e_tn := show G29 13 = G29 13 from rfl)  (h_k := ⟨(by decide), (by decide)⟩)  ) (fun o V_q hq => ?_)
        obtain ⟨r53, rfl, rfl, b54, q55⟩ := hq
        refine .inr ⟨_, rfl, ?_⟩
        rcases q55 with ⟨rfl, a56, a57, a58⟩ | rfl
        · have _q : True := trivial
          refine jx_vr (pc_q := 41) (as := [.int (i32 (1))]) (st := []) rfl rfl rfl rfl ⟨rfl, rfl, Nat.le_of_ble_eq_true rfl⟩ rfl rfl (c_need (dd := d) (hd := by omega) (hW := hW34) (g := 1) (ln := ln1) (e_ln := show G29 9 = ln1 from ((hF35.1 9 rfl).trans ((hF7.1 9 rfl).trans (ex_ln1)))) (le := A 4 (ln1).toNat) (e_le := show A30 4 (ln1).toNat = A 4 (ln1).toNat from (congrFun ((hF35.2 4 rfl).trans ((hF7.2 4 rfl).trans (hFx.2 4 rfl))) _)) (at0 := at2_31) (e_at0 := show G29 10 = at2_31 from (e36)) (fk := fk2_5) (e_fk := show G29 16 = fk2_5 from ((hF35.1 16 rfl).trans (e9))) (tk0 := tk2_32) (e_tk0 := show G29 11 = tk2_32 from (e37))  (h_g := ⟨(by decide), (by decide)⟩)  (p_0 := by omega)) (fun o V_q hq => ?_)
          obtain ⟨G59, A60, at2_61, tk2_62, fk2_63, rfl, rfl, hW64, hF65, e66, e67, e68, p69, p70, q71⟩ := hq
          have hF72 := Fr_tr hF44 hF65 (Fr_sub (by decide)) (Fr_sub (by decide))
          have hP73 := Pf_f hP45 hF65 (by decide)
          have hS74 := Fx_f hS46 hF65 (by decide)
          have hV75 := Fx_f hV47 hF65 (by decide)
          have sf76 : wB A60 Vs pb (nd) (nd1) (sy) (sy1) := (show A60 = A30 from funext (fun k => hF65.2 k rfl)) ▸ sf48
          have sf77 : NdM A60 (nd) (nd1) (sy) := NdM_f hF65 (by decide) sf49
          have ec78 : ecn A60 (G59 31) = ec1 := (ecn_f (hF65.2 15 rfl) (hF65.1 31 rfl)).trans ec50
          have bat2_61 : (0 : Int) ≤ at2_61 ∧ at2_61 ≤ 3002 := e66 ▸ hW64.1 10
          have ztk2_62 := tz_b tk2_62
          have btk2_62 : (0 : Int) ≤ tk2_62 ∧ tk2_62 ≤ 5 := e67 ▸ hW64.1 11
          have bfk2_63 : (0 : Int) ≤ fk2_63 ∧ fk2_63 ≤ 6 := e68 ▸ hW64.1 16
          refine .inl ⟨rfl, ?_⟩
          rcases q71 with ⟨a79, a80, a81, a82⟩ | ⟨a83, a84, a85, a86⟩
          · have _q : True := trivial
            refine jx_ld (pc_q := 42) (l_q := L) (st_q := [.ref 66]) rfl (jl_aloadn gL_0) ?_
            refine jx_vr (pc_q := 45) (as := []) (st := []) rfl rfl rfl rfl ⟨rfl, rfl, Nat.le_of_ble_eq_true rfl⟩ rfl rfl (c_bad (dd := d) (hd := by omega) (hW := hW64)  (fk := fk2_63) (e_fk := show G59 16 = fk2_63 from (e68))    ) (fun o V_q hq => ?_)
            obtain ⟨r87, rfl, rfl, b88, q89⟩ := hq
            refine .inr ⟨_, rfl, ?_⟩
            rcases q89 with ⟨rfl, a90⟩ | ⟨rfl, a91⟩
            · have _q : True := trivial
              refine jx_if_ne (pc_q := 48) (tg := 89) rfl rfl rfl (by decide) (by decide) (fun h92 => ?_) (fun h92 => ?_)
              · have _q := h92
                refine jx_ld (pc_q := 90) (l_q := L) (st_q := [.ref 66]) rfl (jl_aloadn gL_0) ?_
                refine jx_ar (pc_q := 91) (st_q := [.int (i32 (0)), .ref 66]) rfl rfl rfl rfl ?_
                refine jx_ar (pc_q := 92) (st_q := [.int (i32 (5)), .int (i32 (0)), .ref 66]) rfl rfl rfl rfl ?_
                have b93 : (-2147483648 : Int) ≤ G59 13 ∧ G59 13 ≤ 2147483647 := hW64.1 13
                refine jx_vr (pc_q := 95) (as := [.int (i32 (0)), .int (i32 (5))]) (st := []) rfl rfl rfl rfl ⟨rfl, rfl, Nat.le_of_ble_eq_true rfl⟩ rfl rfl (c_needNumber2 (dd := d) (hd := by omega) (hW := hW64) (lo := 0) (hi := 5) (ln := ln1) (e_ln := show G59 9 = ln1 from ((hF65.1 9 rfl).trans ((hF35.1 9 rfl).trans ((hF7.1 9 rfl).trans (ex_ln1))))) (le := A 4 (ln1).toNat) (e_le := show A60 4 (ln1).toNat = A 4 (ln1).toNat from (congrFun ((hF65.2 4 rfl).trans ((hF35.2 4 rfl).trans ((hF7.2 4 rfl).trans (hFx.2 4 rfl)))) _)) (at0 := at2_61) (e_at0 := show G59 10 = at2_61 from (e66)) (fk := fk2_63) (e_fk := show G59 16 = fk2_63 from (e68)) (tk0 := tk2_62) (e_tk0 := show G59 11 = tk2_62 from (e67)) (tn := G59 13) (e_tn := show G59 13 = G59 13 from rfl)  (h_lo := ⟨(by decide), (by decide)⟩) (h_hi := ⟨(by decide), (by decide)⟩)  (p_0 := by omega)) (fun o V_q hq => ?_)
                obtain ⟨G94, A95, r96, at2_97, tk2_98, fk2_99, rfl, rfl, hW100, hF101, b102, e103, e104, e105, p106, p107, q108⟩ := hq
                have hF109 := Fr_tr hF72 hF101 (Fr_sub (by decide)) (Fr_sub (by decide))
                have hP110 := Pf_f hP73 hF101 (by decide)
                have hS111 := Fx_f hS74 hF101 (by decide)
                have hV112 := Fx_f hV75 hF101 (by decide)
                have sf113 : wB A95 Vs pb (nd) (nd1) (sy) (sy1) := (show A95 = A60 from funext (fun k => hF101.2 k rfl)) ▸ sf76
                have sf114 : NdM A95 (nd) (nd1) (sy) := NdM_f hF101 (by decide) sf77
                have ec115 : ecn A95 (G94 31) = ec1 := (ecn_f (hF101.2 15 rfl) (hF101.1 31 rfl)).trans ec78
                have bat2_97 : (0 : Int) ≤ at2_97 ∧ at2_97 ≤ 3002 := e103 ▸ hW100.1 10
                have ztk2_98 := tz_b tk2_98
                have btk2_98 : (0 : Int) ≤ tk2_98 ∧ tk2_98 ≤ 5 := e104 ▸ hW100.1 11
                have bfk2_99 : (0 : Int) ≤ fk2_99 ∧ fk2_99 ≤ 6 := e105 ▸ hW100.1 16
                refine .inr ⟨_, rfl, ?_⟩
                rcases q108 with ⟨a116, a117, a118, a119⟩ | ⟨a120, a121, a122, a123, a124, a125, a126⟩
                · have _q : True := trivial
                  refine jx_ld (pc_q := 96) (l_q := jSto1 L 2 (.int (i32 (r96)))) (st_q := []) rfl rfl ?_
                  obtain ⟨L127, eL127⟩ : ∃ q, q = jSto1 L 2 (.int (i32 (r96))) := ⟨_, rfl⟩
                  rw [← eL127]
                  have gL127_0 : jGet L127 0 = some (.ref 66) := eL127 ▸ jg_ne (by decide) gL_0 rfl
                  have gL127_1 : jGet L127 1 = some (.int (i32 (many))) := eL127 ▸ jg_ne (by decide) gL_1 rfl
                  have gL127_2 : jGet L127 2 = some (.int (i32 (r96))) := eL127 ▸ jg_eq
                  refine jx_ld (pc_q := 97) (l_q := L127) (st_q := [.ref 66]) rfl (jl_aloadn gL127_0) ?_
                  refine jx_vr (pc_q := 100) (as := []) (st := []) rfl rfl rfl rfl ⟨rfl, rfl, Nat.le_of_ble_eq_true rfl⟩ rfl rfl (c_endLine (dd := d) (hd := by omega) (hW := hW100)  (ln := ln1) (e_ln := show G94 9 = ln1 from ((hF101.1 9 rfl).trans ((hF65.1 9 rfl).trans ((hF35.1 9 rfl).trans ((hF7.1 9 rfl).trans (ex_ln1)))))) (li := li) (e_li := show G94 3 = li from ((hF101.1 3 rfl).trans ((hF65.1 3 rfl).trans ((hF35.1 3 rfl).trans ((hF7.1 3 rfl).trans ((hFx.1 3 rfl).trans (e_li))))))) (fk := fk2_99) (e_fk := show G94 16 = fk2_99 from (e105)) (tk0 := tk2_98) (e_tk0 := show G94 11 = tk2_98 from (e104))    (p_0 := by omega)) (fun o V_q hq => ?_)
                  obtain ⟨G128, A129, ln2_130, fk2_131, rfl, rfl, hW132, hF133, e134, e135, q136⟩ := hq
                  have hF137 := Fr_tr hF109 hF133 (Fr_sub (by decide)) (Fr_sub (by decide))
                  have hP138 := Pf_f hP110 hF133 (by decide)
                  have hS139 := Fx_f hS111 hF133 (by decide)
                  have hV140 := Fx_f hV112 hF133 (by decide)
                  have sf141 : wB A129 Vs pb (nd) (nd1) (sy) (sy1) := (show A129 = A95 from funext (fun k => hF133.2 k rfl)) ▸ sf113
                  have sf142 : NdM A129 (nd) (nd1) (sy) := NdM_f hF133 (by decide) sf114
                  have ec143 : ecn A129 (G128 31) = ec1 := (ecn_f (hF133.2 15 rfl) (hF133.1 31 rfl)).trans ec115
                  have bln2_130 : (0 : Int) ≤ ln2_130 ∧ ln2_130 ≤ 3000 := e134 ▸ hW132.1 9
                  have bfk2_131 : (0 : Int) ≤ fk2_131 ∧ fk2_131 ≤ 6 := e135 ▸ hW132.1 16
                  refine .inl ⟨rfl, ?_⟩
                  rcases q136 with ⟨a144, a145, a146, a147, a148⟩ | ⟨a149, a150⟩
                  · have _q : True := trivial
                    exfalso
                    omega
                  · have _q : True := trivial
                    refine jx_ld (pc_q := 101) (l_q := L127) (st_q := [.ref 66]) rfl (jl_aloadn gL127_0) ?_
                    refine jx_vr (pc_q := 104) (as := []) (st := []) rfl rfl rfl rfl ⟨rfl, rfl, Nat.le_of_ble_eq_true rfl⟩ rfl rfl (c_bad (dd := d) (hd := by omega) (hW := hW132)  (fk := fk2_131) (e_fk := show G128 16 = fk2_131 from (e135))    ) (fun o V_q hq => ?_)
                    obtain ⟨r151, rfl, rfl, b152, q153⟩ := hq
                    refine .inr ⟨_, rfl, ?_⟩
                    rcases q153 with ⟨rfl, a154⟩ | ⟨rfl, a155⟩
                    · have _q : True := trivial
                      refine jx_if_eq (pc_q := 107) (tg := 108) rfl rfl rfl (by decide) (by decide) (fun h156 => ?_) (fun h156 => ?_)
                      · have _q := h156
                        exact absurd h156 (by omega)
                      · have _q := h156
                        refine jx_rt (v := none) rfl rfl rfl rfl rfl rfl ?_
                        exact ⟨_, _, ln2_130, at2_97, fk2_131, nd1, sy1, na1, vi, A 3 (ln2_130).toNat, ec1, rfl, rfl, hW132, hF137, hP138, hS139, hV140, (e134), ((hF133.1 10 rfl).trans (e103)), (e135), ((hF133.1 31 rfl).trans ((hF101.1 31 rfl).trans ((hF65.1 31 rfl).trans ((hF35.1 31 rfl).trans ((hF7.1 31 rfl).trans (ex_nd1)))))), ((hF133.1 19 rfl).trans ((hF101.1 19 rfl).trans ((hF65.1 19 rfl).trans ((hF35.1 19 rfl).trans ((hF7.1 19 rfl).trans (ex_sy1)))))), ((hF133.1 28 rfl).trans ((hF101.1 28 rfl).trans ((hF65.1 28 rfl).trans ((hF35.1 28 rfl).trans ((hF7.1 28 rfl).trans (ex_na1)))))), ((hF133.1 29 rfl).trans ((hF101.1 29 rfl).trans ((hF65.1 29 rfl).trans ((hF35.1 29 rfl).trans ((hF7.1 29 rfl).trans (fx_29)))))), (congrFun ((hF133.2 3 rfl).trans ((hF101.2 3 rfl).trans ((hF65.2 3 rfl).trans ((hF35.2 3 rfl).trans ((hF7.2 3 rfl).trans (hFx.2 3 rfl)))))) _), ec143, by omega, by omega, by omega, by omega, by omega, by omega, by first | exact Or.inl (by omega)⟩
                    · have _q : True := trivial
                      exfalso
                      omega
                · have _q : True := trivial
                  exfalso
                  omega
              · have _q := h92
                exact absurd h92 (by omega)
            · have _q : True := trivial
              exfalso
              omega
          · have _q : True := trivial
            have pz157 : at2_31 + tz tk2_62 ≤ at2_61 := by omega
            refine jx_ld (pc_q := 42) (l_q := L) (st_q := [.ref 66]) rfl (jl_aloadn gL_0) ?_
            refine jx_vr (pc_q := 45) (as := []) (st := []) rfl rfl rfl rfl ⟨rfl, rfl, Nat.le_of_ble_eq_true rfl⟩ rfl rfl (c_bad (dd := d) (hd := by omega) (hW := hW64)  (fk := fk2_63) (e_fk := show G59 16 = fk2_63 from (e68))    ) (fun o V_q hq => ?_)
            obtain ⟨r158, rfl, rfl, b159, q160⟩ := hq
            refine .inr ⟨_, rfl, ?_⟩
            rcases q160 with ⟨rfl, a161⟩ | ⟨rfl, a162⟩
            · have _q : True := trivial
              exfalso
              omega
            · have _q : True := trivial
              refine jx_if_ne (pc_q := 48) (tg := 89) rfl rfl rfl (by decide) (by decide) (fun h163 => ?_) (fun h163 => ?_)
              · have _q := h163
                exact absurd h163 (by omega)
              · have _q := h163
                refine jx_ld (pc_q := 49) (l_q := L) (st_q := [.ref 66]) rfl (jl_aloadn gL_0) ?_
                have z164 := tz_f (tk2_62)
                refine jr_get (pc_q := 52) (i := 11) (v := .int (i32 (tk2_62))) rfl rfl (by decide) (rFv_eq (by decide) (show G59 11 = tk2_62 from (e67))) rfl ?_
                refine jx_ar (pc_q := 53) (st_q := [.int (i32 (3)), .int (i32 (tk2_62))]) rfl rfl rfl rfl ?_
                refine jx_icmp_ne (pc_q := 56) (tg := 89) rfl rfl rfl (Int.le_trans (by decide : (-2147483648 : Int) ≤ 0) btk2_62.1) (Int.le_trans btk2_62.2 (by decide : (5 : Int) ≤ 2147483647)) (by decide) (by decide) (fun h165 => ?_) (fun h165 => ?_)
                · have _q := h165
                  refine jx_ld (pc_q := 90) (l_q := L) (st_q := [.ref 66]) rfl (jl_aloadn gL_0) ?_
                  refine jx_ar (pc_q := 91) (st_q := [.int (i32 (0)), .ref 66]) rfl rfl rfl rfl ?_
                  refine jx_ar (pc_q := 92) (st_q := [.int (i32 (5)), .int (i32 (0)), .ref 66]) rfl rfl rfl rfl ?_
                  have b166 : (-2147483648 : Int) ≤ G59 13 ∧ G59 13 ≤ 2147483647 := hW64.1 13
                  refine jx_vr (pc_q := 95) (as := [.int (i32 (0)), .int (i32 (5))]) (st := []) rfl rfl rfl rfl ⟨rfl, rfl, Nat.le_of_ble_eq_true rfl⟩ rfl rfl (c_needNumber2 (dd := d) (hd := by omega) (hW := hW64) (lo := 0) (hi := 5) (ln := ln1) (e_ln := show G59 9 = ln1 from ((hF65.1 9 rfl).trans ((hF35.1 9 rfl).trans ((hF7.1 9 rfl).trans (ex_ln1))))) (le := A 4 (ln1).toNat) (e_le := show A60 4 (ln1).toNat = A 4 (ln1).toNat from (congrFun ((hF65.2 4 rfl).trans ((hF35.2 4 rfl).trans ((hF7.2 4 rfl).trans (hFx.2 4 rfl)))) _)) (at0 := at2_61) (e_at0 := show G59 10 = at2_61 from (e66)) (fk := fk2_63) (e_fk := show G59 16 = fk2_63 from (e68)) (tk0 := tk2_62) (e_tk0 := show G59 11 = tk2_62 from (e67)) (tn := G59 13) (e_tn := show G59 13 = G59 13 from rfl)  (h_lo := ⟨(by decide), (by decide)⟩) (h_hi := ⟨(by decide), (by decide)⟩)  (p_0 := by omega)) (fun o V_q hq => ?_)
                  obtain ⟨G167, A168, r169, at2_170, tk2_171, fk2_172, rfl, rfl, hW173, hF174, b175, e176, e177, e178, p179, p180, q181⟩ := hq
                  have hF182 := Fr_tr hF72 hF174 (Fr_sub (by decide)) (Fr_sub (by decide))
                  have hP183 := Pf_f hP73 hF174 (by decide)
                  have hS184 := Fx_f hS74 hF174 (by decide)
                  have hV185 := Fx_f hV75 hF174 (by decide)
                  have sf186 : wB A168 Vs pb (nd) (nd1) (sy) (sy1) := (show A168 = A60 from funext (fun k => hF174.2 k rfl)) ▸ sf76
                  have sf187 : NdM A168 (nd) (nd1) (sy) := NdM_f hF174 (by decide) sf77
                  have ec188 : ecn A168 (G167 31) = ec1 := (ecn_f (hF174.2 15 rfl) (hF174.1 31 rfl)).trans ec78
                  have bat2_170 : (0 : Int) ≤ at2_170 ∧ at2_170 ≤ 3002 := e176 ▸ hW173.1 10
                  have ztk2_171 := tz_b tk2_171
                  have btk2_171 : (0 : Int) ≤ tk2_171 ∧ tk2_171 ≤ 5 := e177 ▸ hW173.1 11
                  have bfk2_172 : (0 : Int) ≤ fk2_172 ∧ fk2_172 ≤ 6 := e178 ▸ hW173.1 16
                  refine .inr ⟨_, rfl, ?_⟩
                  rcases q181 with ⟨a189, a190, a191, a192⟩ | ⟨a193, a194, a195, a196, a197, a198, a199⟩
                  · have _q : True := trivial
                    refine jx_ld (pc_q := 96) (l_q := jSto1 L 2 (.int (i32 (r169)))) (st_q := []) rfl rfl ?_
                    obtain ⟨L200, eL200⟩ : ∃ q, q = jSto1 L 2 (.int (i32 (r169))) := ⟨_, rfl⟩
                    rw [← eL200]
                    have gL200_0 : jGet L200 0 = some (.ref 66) := eL200 ▸ jg_ne (by decide) gL_0 rfl
                    have gL200_1 : jGet L200 1 = some (.int (i32 (many))) := eL200 ▸ jg_ne (by decide) gL_1 rfl
                    have gL200_2 : jGet L200 2 = some (.int (i32 (r169))) := eL200 ▸ jg_eq
                    refine jx_ld (pc_q := 97) (l_q := L200) (st_q := [.ref 66]) rfl (jl_aloadn gL200_0) ?_
                    refine jx_vr (pc_q := 100) (as := []) (st := []) rfl rfl rfl rfl ⟨rfl, rfl, Nat.le_of_ble_eq_true rfl⟩ rfl rfl (c_endLine (dd := d) (hd := by omega) (hW := hW173)  (ln := ln1) (e_ln := show G167 9 = ln1 from ((hF174.1 9 rfl).trans ((hF65.1 9 rfl).trans ((hF35.1 9 rfl).trans ((hF7.1 9 rfl).trans (ex_ln1)))))) (li := li) (e_li := show G167 3 = li from ((hF174.1 3 rfl).trans ((hF65.1 3 rfl).trans ((hF35.1 3 rfl).trans ((hF7.1 3 rfl).trans ((hFx.1 3 rfl).trans (e_li))))))) (fk := fk2_172) (e_fk := show G167 16 = fk2_172 from (e178)) (tk0 := tk2_171) (e_tk0 := show G167 11 = tk2_171 from (e177))    (p_0 := by omega)) (fun o V_q hq => ?_)
                    obtain ⟨G201, A202, ln2_203, fk2_204, rfl, rfl, hW205, hF206, e207, e208, q209⟩ := hq
                    have hF210 := Fr_tr hF182 hF206 (Fr_sub (by decide)) (Fr_sub (by decide))
                    have hP211 := Pf_f hP183 hF206 (by decide)
                    have hS212 := Fx_f hS184 hF206 (by decide)
                    have hV213 := Fx_f hV185 hF206 (by decide)
                    have sf214 : wB A202 Vs pb (nd) (nd1) (sy) (sy1) := (show A202 = A168 from funext (fun k => hF206.2 k rfl)) ▸ sf186
                    have sf215 : NdM A202 (nd) (nd1) (sy) := NdM_f hF206 (by decide) sf187
                    have ec216 : ecn A202 (G201 31) = ec1 := (ecn_f (hF206.2 15 rfl) (hF206.1 31 rfl)).trans ec188
                    have bln2_203 : (0 : Int) ≤ ln2_203 ∧ ln2_203 ≤ 3000 := e207 ▸ hW205.1 9
                    have bfk2_204 : (0 : Int) ≤ fk2_204 ∧ fk2_204 ≤ 6 := e208 ▸ hW205.1 16
                    refine .inl ⟨rfl, ?_⟩
                    rcases q209 with ⟨a217, a218, a219, a220, a221⟩ | ⟨a222, a223⟩
                    · have _q : True := trivial
                      exfalso
                      omega
                    · have _q : True := trivial
                      refine jx_ld (pc_q := 101) (l_q := L200) (st_q := [.ref 66]) rfl (jl_aloadn gL200_0) ?_
                      refine jx_vr (pc_q := 104) (as := []) (st := []) rfl rfl rfl rfl ⟨rfl, rfl, Nat.le_of_ble_eq_true rfl⟩ rfl rfl (c_bad (dd := d) (hd := by omega) (hW := hW205)  (fk := fk2_204) (e_fk := show G201 16 = fk2_204 from (e208))    ) (fun o V_q hq => ?_)
                      obtain ⟨r224, rfl, rfl, b225, q226⟩ := hq
                      refine .inr ⟨_, rfl, ?_⟩
                      rcases q226 with ⟨rfl, a227⟩ | ⟨rfl, a228⟩
                      · have _q : True := trivial
                        refine jx_if_eq (pc_q := 107) (tg := 108) rfl rfl rfl (by decide) (by decide) (fun h229 => ?_) (fun h229 => ?_)
                        · have _q := h229
                          exact absurd h229 (by omega)
                        · have _q := h229
                          refine jx_rt (v := none) rfl rfl rfl rfl rfl rfl ?_
                          exact ⟨_, _, ln2_203, at2_170, fk2_204, nd1, sy1, na1, vi, A 3 (ln2_203).toNat, ec1, rfl, rfl, hW205, hF210, hP211, hS212, hV213, (e207), ((hF206.1 10 rfl).trans (e176)), (e208), ((hF206.1 31 rfl).trans ((hF174.1 31 rfl).trans ((hF65.1 31 rfl).trans ((hF35.1 31 rfl).trans ((hF7.1 31 rfl).trans (ex_nd1)))))), ((hF206.1 19 rfl).trans ((hF174.1 19 rfl).trans ((hF65.1 19 rfl).trans ((hF35.1 19 rfl).trans ((hF7.1 19 rfl).trans (ex_sy1)))))), ((hF206.1 28 rfl).trans ((hF174.1 28 rfl).trans ((hF65.1 28 rfl).trans ((hF35.1 28 rfl).trans ((hF7.1 28 rfl).trans (ex_na1)))))), ((hF206.1 29 rfl).trans ((hF174.1 29 rfl).trans ((hF65.1 29 rfl).trans ((hF35.1 29 rfl).trans ((hF7.1 29 rfl).trans (fx_29)))))), (congrFun ((hF206.2 3 rfl).trans ((hF174.2 3 rfl).trans ((hF65.2 3 rfl).trans ((hF35.2 3 rfl).trans ((hF7.2 3 rfl).trans (hFx.2 3 rfl)))))) _), ec216, by omega, by omega, by omega, by omega, by omega, by omega, by first | exact Or.inl (by omega)⟩
                      · have _q : True := trivial
                        exfalso
                        omega
                  · have _q : True := trivial
                    have pz230 : at2_61 + tz tk2_171 ≤ at2_170 := by omega
                    refine jx_ld (pc_q := 96) (l_q := jSto1 L 2 (.int (i32 (r169)))) (st_q := []) rfl rfl ?_
                    obtain ⟨L231, eL231⟩ : ∃ q, q = jSto1 L 2 (.int (i32 (r169))) := ⟨_, rfl⟩
                    rw [← eL231]
                    have gL231_0 : jGet L231 0 = some (.ref 66) := eL231 ▸ jg_ne (by decide) gL_0 rfl
                    have gL231_1 : jGet L231 1 = some (.int (i32 (many))) := eL231 ▸ jg_ne (by decide) gL_1 rfl
                    have gL231_2 : jGet L231 2 = some (.int (i32 (r169))) := eL231 ▸ jg_eq
                    refine jx_ld (pc_q := 97) (l_q := L231) (st_q := [.ref 66]) rfl (jl_aloadn gL231_0) ?_
                    refine jx_vr (pc_q := 100) (as := []) (st := []) rfl rfl rfl rfl ⟨rfl, rfl, Nat.le_of_ble_eq_true rfl⟩ rfl rfl (c_endLine (dd := d) (hd := by omega) (hW := hW173)  (ln := ln1) (e_ln := show G167 9 = ln1 from ((hF174.1 9 rfl).trans ((hF65.1 9 rfl).trans ((hF35.1 9 rfl).trans ((hF7.1 9 rfl).trans (ex_ln1)))))) (li := li) (e_li := show G167 3 = li from ((hF174.1 3 rfl).trans ((hF65.1 3 rfl).trans ((hF35.1 3 rfl).trans ((hF7.1 3 rfl).trans ((hFx.1 3 rfl).trans (e_li))))))) (fk := fk2_172) (e_fk := show G167 16 = fk2_172 from (e178)) (tk0 := tk2_171) (e_tk0 := show G167 11 = tk2_171 from (e177))    (p_0 := by omega)) (fun o V_q hq => ?_)
                    obtain ⟨G232, A233, ln2_234, fk2_235, rfl, rfl, hW236, hF237, e238, e239, q240⟩ := hq
                    have hF241 := Fr_tr hF182 hF237 (Fr_sub (by decide)) (Fr_sub (by decide))
                    have hP242 := Pf_f hP183 hF237 (by decide)
                    have hS243 := Fx_f hS184 hF237 (by decide)
                    have hV244 := Fx_f hV185 hF237 (by decide)
                    have sf245 : wB A233 Vs pb (nd) (nd1) (sy) (sy1) := (show A233 = A168 from funext (fun k => hF237.2 k rfl)) ▸ sf186
                    have sf246 : NdM A233 (nd) (nd1) (sy) := NdM_f hF237 (by decide) sf187
                    have ec247 : ecn A233 (G232 31) = ec1 := (ecn_f (hF237.2 15 rfl) (hF237.1 31 rfl)).trans ec188
                    have bln2_234 : (0 : Int) ≤ ln2_234 ∧ ln2_234 ≤ 3000 := e238 ▸ hW236.1 9
                    have bfk2_235 : (0 : Int) ≤ fk2_235 ∧ fk2_235 ≤ 6 := e239 ▸ hW236.1 16
                    refine .inl ⟨rfl, ?_⟩
                    rcases q240 with ⟨a248, a249, a250, a251, a252⟩ | ⟨a253, a254⟩
                    · have _q : True := trivial
                      have b255 : (0 : Int) ≤ A 3 (ln2_234).toNat ∧ A 3 (ln2_234).toNat ≤ 3000 := hW.2 3 _
                      have lt256 : ln2_234 < li → A 4 (ln1).toNat < A 3 (ln2_234).toNat := fun hh => LT_nx (LT_ext (((hF237.1 3 rfl).trans ((hF174.1 3 rfl).trans ((hF65.1 3 rfl).trans ((hF35.1 3 rfl).trans ((hF7.1 3 rfl).trans (hFx.1 3 rfl))))))) (((hF237.2 3 rfl).trans ((hF174.2 3 rfl).trans ((hF65.2 3 rfl).trans ((hF35.2 3 rfl).trans ((hF7.2 3 rfl).trans (hFx.2 3 rfl))))))) (((hF237.2 4 rfl).trans ((hF174.2 4 rfl).trans ((hF65.2 4 rfl).trans ((hF35.2 4 rfl).trans ((hF7.2 4 rfl).trans (hFx.2 4 rfl))))))) i_LT) (show G232 3 = li from ((hF237.1 3 rfl).trans ((hF174.1 3 rfl).trans ((hF65.1 3 rfl).trans ((hF35.1 3 rfl).trans ((hF7.1 3 rfl).trans ((hFx.1 3 rfl).trans (e_li)))))))) (show A233 4 (ln1).toNat = A 4 (ln1).toNat from (congrFun ((hF237.2 4 rfl).trans ((hF174.2 4 rfl).trans ((hF65.2 4 rfl).trans ((hF35.2 4 rfl).trans ((hF7.2 4 rfl).trans (hFx.2 4 rfl)))))) _)) (show A233 3 (ln2_234).toNat = A 3 (ln2_234).toNat from (congrFun ((hF237.2 3 rfl).trans ((hF174.2 3 rfl).trans ((hF65.2 3 rfl).trans ((hF35.2 3 rfl).trans ((hF7.2 3 rfl).trans (hFx.2 3 rfl)))))) _)) (show ln2_234 = ln1 + 1 by omega) (by omega) hh
                      refine jx_ld (pc_q := 101) (l_q := L231) (st_q := [.ref 66]) rfl (jl_aloadn gL231_0) ?_
                      refine jx_vr (pc_q := 104) (as := []) (st := []) rfl rfl rfl rfl ⟨rfl, rfl, Nat.le_of_ble_eq_true rfl⟩ rfl rfl (c_bad (dd := d) (hd := by omega) (hW := hW236)  (fk := fk2_235) (e_fk := show G232 16 = fk2_235 from (e239))    ) (fun o V_q hq => ?_)
                      obtain ⟨r257, rfl, rfl, b258, q259⟩ := hq
                      refine .inr ⟨_, rfl, ?_⟩
                      rcases q259 with ⟨rfl, a260⟩ | ⟨rfl, a261⟩
                      · have _q : True := trivial
                        exfalso
                        omega
                      · have _q : True := trivial
                        refine jx_if_eq (pc_q := 107) (tg := 108) rfl rfl rfl (by decide) (by decide) (fun h262 => ?_) (fun h262 => ?_)
                        · have _q := h262
                          refine jx_ld (pc_q := 109) (l_q := L231) (st_q := [.ref 66]) rfl (jl_aloadn gL231_0) ?_
                          refine jr_get (pc_q := 112) (i := 55) (v := .ref 103) rfl rfl (by decide) rfl rfl ?_
                          refine jx_ld (pc_q := 113) (l_q := L231) (st_q := [.int (i32 (r169)), .ref 103]) rfl (jl_iloadn gL231_2) ?_
                          refine jx_ld (pc_q := 114) (l_q := L231) (st_q := [.ref 66, .int (i32 (r169)), .ref 103]) rfl (jl_aloadn gL231_0) ?_
                          refine jx_ar (pc_q := 115) (st_q := [.int (i32 (2)), .ref 66, .int (i32 (r169)), .ref 103]) rfl rfl rfl rfl ?_
                          refine jx_vr (pc_q := 118) (as := [.int (i32 (2))]) (st := [.int (i32 (r169)), .ref 103]) rfl rfl rfl rfl ⟨rfl, rfl, Nat.le_of_ble_eq_true rfl⟩ rfl rfl (RPw_all X 18 (dd := d) (hd := by omega) (hW := hW236) (lv := 2) (at0 := at2_170) (ln := ln2_234) (e_ln := show G232 9 = ln2_234 from (e238)) (li := li) (e_li := show G232 3 = li from ((hF237.1 3 rfl).trans ((hF174.1 3 rfl).trans ((hF65.1 3 rfl).trans ((hF35.1 3 rfl).trans ((hF7.1 3 rfl).trans ((hFx.1 3 rfl).trans (e_li)))))))) (fk := fk2_235) (e_fk := show G232 16 = fk2_235 from (e239)) (nd := nd1) (e_nd := show G232 31 = nd1 from ((hF237.1 31 rfl).trans ((hF174.1 31 rfl).trans ((hF65.1 31 rfl).trans ((hF35.1 31 rfl).trans ((hF7.1 31 rfl).trans (ex_nd1))))))) (sy := sy1) (e_sy := show G232 19 = sy1 from ((hF237.1 19 rfl).trans ((hF174.1 19 rfl).trans ((hF65.1 19 rfl).trans ((hF35.1 19 rfl).trans ((hF7.1 19 rfl).trans (ex_sy1))))))) (na := na1) (e_na := show G232 28 = na1 from ((hF237.1 28 rfl).trans ((hF174.1 28 rfl).trans ((hF65.1 28 rfl).trans ((hF35.1 28 rfl).trans ((hF7.1 28 rfl).trans (ex_na1))))))) (vi := vi) (e_vi := show G232 29 = vi from ((hF237.1 29 rfl).trans ((hF174.1 29 rfl).trans ((hF65.1 29 rfl).trans ((hF35.1 29 rfl).trans ((hF7.1 29 rfl).trans (fx_29))))))) (lf := A 3 (ln2_234).toNat) (e_lf := show A233 3 (ln2_234).toNat = A 3 (ln2_234).toNat from (congrFun ((hF237.2 3 rfl).trans ((hF174.2 3 rfl).trans ((hF65.2 3 rfl).trans ((hF35.2 3 rfl).trans ((hF7.2 3 rfl).trans (hFx.2 3 rfl)))))) _)) (ac := at2_170) (e_ac := show G232 10 = at2_170 from ((hF237.1 10 rfl).trans (e176))) (ec := ec1) (e_ec := show ecn A233 (G232 31) = ec1 from ec247) (i_LT := (LT_ext (((hF237.1 3 rfl).trans ((hF174.1 3 rfl).trans ((hF65.1 3 rfl).trans ((hF35.1 3 rfl).trans ((hF7.1 3 rfl).trans (hFx.1 3 rfl))))))) (((hF237.2 3 rfl).trans ((hF174.2 3 rfl).trans ((hF65.2 3 rfl).trans ((hF35.2 3 rfl).trans ((hF7.2 3 rfl).trans (hFx.2 3 rfl))))))) (((hF237.2 4 rfl).trans ((hF174.2 4 rfl).trans ((hF65.2 4 rfl).trans ((hF35.2 4 rfl).trans ((hF7.2 4 rfl).trans (hFx.2 4 rfl))))))) i_LT)) (i_SV := (SV_fx i_SV e_vi (show G232 29 = vi from ((hF237.1 29 rfl).trans ((hF174.1 29 rfl).trans ((hF65.1 29 rfl).trans ((hF35.1 29 rfl).trans ((hF7.1 29 rfl).trans (fx_29))))))) (by omega) hV244)) (i_PQ := (PQ_fx i_PQ hS243 (by omega) (hF241.2 29 rfl) (hF241.2 30 rfl))) (hvb := hvb) (h_lv := ⟨(by decide), (by decide)⟩)  (p_0 := by omega) (p_1 := by omega) (p_2 := by omega) (p_3 := by omega) (p_4 := by omega) (p_5 := by omega) (p_6 := by omega) (p_7 := by omega) (p_8 := by omega) (p_9 := by omega) (p_10 := by omega)) (fun o V_q hq => ?_)
                          obtain ⟨G263, A264, r265, ln2_266, at2_267, fk2_268, nd2_269, sy2_270, na2_271, vi2_272, lf2_273, ec2_274, rfl, rfl, hW275, hF276, hQ277, hQ278, hQ279, b280, e281, e282, e283, e284, e285, e286, e287, e288, e289, p290, p291, p292, p293, p294, p295, p296, p297, p298, q299⟩ := hq
                          have hF300 := Fr_tr hF241 hF276 (Fr_sub (by decide)) (Fr_sub (by decide))
                          have hP301 := Pf_tr hP242 hQ277 (by omega)
                          have hS302 := Fx_tr hS243 hQ278 (by omega)
                          have hV303 := Fx_tr hV244 hQ279 (by omega)
                          have sf304 : wB A264 Vs pb (nd) (nd1) (sy) (sy1) := wB_fx (fun k j hk hj => hQ277 k j hk (by omega)) (Fx_su hQ278 (by omega)) (Qg_fx (Fx_f (w := pb) Fx_rf hF276 (by decide)) (by omega)) (hF276.2 36 rfl) (by omega) sf245
                          have sf305 : NdM A264 (nd) (nd1) (sy) := NdM_pf hQ277 (by omega) (by omega) sf246
                          have bln2_266 : (0 : Int) ≤ ln2_266 ∧ ln2_266 ≤ 3000 := e281 ▸ hW275.1 9
                          have bat2_267 : (0 : Int) ≤ at2_267 ∧ at2_267 ≤ 3002 := e282 ▸ hW275.1 10
                          have bfk2_268 : (0 : Int) ≤ fk2_268 ∧ fk2_268 ≤ 6 := e283 ▸ hW275.1 16
                          have bnd2_269 : (0 : Int) ≤ nd2_269 ∧ nd2_269 ≤ 6999 := e284 ▸ hW275.1 31
                          have bsy2_270 : (0 : Int) ≤ sy2_270 ∧ sy2_270 ≤ 202 := e285 ▸ hW275.1 19
                          have bna2_271 : (0 : Int) ≤ na2_271 ∧ na2_271 ≤ 200 := e286 ▸ hW275.1 28
                          have bvi2_272 : (0 : Int) ≤ vi2_272 ∧ vi2_272 ≤ 202 := e287 ▸ hW275.1 29
                          have blf2_273 : (0 : Int) ≤ lf2_273 ∧ lf2_273 ≤ 3000 := e288 ▸ hW275.2 3 _
                          refine .inr ⟨_, rfl, ?_⟩
                          rcases q299 with ⟨a306, a307⟩ | ⟨a308, a309, a310, a311, a312, a313, a314, a315, a316, a317⟩
                          · have _q : True := trivial
                            refine jr_st (pc_q := 119) (i := 36) (m := 6) (z := r169) (y := r265) rfl (by decide) rfl (by decide) (by omega) (by omega) rfl ?_
                            have hW319 : Wk G263 (uA A264 36 (r169).toNat (r265)) := Wk_a hW275 (show (-2147483648 : Int) ≤ r265 by omega) (show r265 ≤ (2147483647 : Int) by omega)
                            have hF320 := Fr_a (z := r265) (k := 36) (n := (r169).toNat) hF300 (by decide)
                            obtain ⟨A318, eA318⟩ : ∃ q, q = uA A264 36 (r169).toNat (r265) := ⟨_, rfl⟩
                            rw [← eA318]
                            rw [← eA318] at hW319 hF320
                            have q321 : A318 36 (r169).toNat = r265 := by rw [eA318]; exact uA_eq
                            have hP322 : Pf nd A A318 := eA318 ▸ Pf_n hP301 rfl
                            have hS323 : Fx sr (sy) A A318 := eA318 ▸ Fx_n hS302 rfl
                            have hV324 : Fx [14] (vi) A A318 := eA318 ▸ Fx_n hV303 rfl
                            have sf325 : NdM A318 (nd) (nd1) (sy) := NdM_st eA318 (by decide) sf305
                            have ec326 : ecn A318 (G263 31) = ec2_274 := (ecn_e ((congrFun eA318 15).trans (uA_ne (by decide)))).trans e289
                            refine jx_inc (pc_q := 122) (l_q := jSto1 L231 1 (.int (i32 ((many + (1)))))) (x := many) rfl gL231_1 (by decide) rfl rfl ?_
                            obtain ⟨L327, eL327⟩ : ∃ q, q = jSto1 L231 1 (.int (i32 ((many + (1))))) := ⟨_, rfl⟩
                            rw [← eL327]
                            have gL327_0 : jGet L327 0 = some (.ref 66) := eL327 ▸ jg_ne (by decide) gL231_0 rfl
                            have gL327_2 : jGet L327 2 = some (.int (i32 (r169))) := eL327 ▸ jg_ne (by decide) gL231_2 rfl
                            have gL327_1 : jGet L327 1 = some (.int (i32 ((many + (1))))) := eL327 ▸ jg_eq
                            refine jx_go (tg := 19) rfl rfl ?_
                            refine jx_ld (pc_q := 20) (l_q := L327) (st_q := [.ref 66]) rfl (jl_aloadn gL327_0) ?_
                            refine jx_ar (pc_q := 21) (st_q := [.int (i32 (0)), .ref 66]) rfl rfl rfl rfl ?_
                            have b328 : (-1 : Int) ≤ A 5 (ln2_266).toNat ∧ A 5 (ln2_266).toNat ≤ 15 := hW.2 5 _
                            refine jx_vr (pc_q := 24) (as := [.int (i32 (0))]) (st := []) rfl rfl rfl rfl ⟨rfl, rfl, Nat.le_of_ble_eq_true rfl⟩ rfl rfl (c_isBelow (dd := d) (hd := by omega) (hW := hW319) (lv := 0) (ln := ln2_266) (e_ln := show G263 9 = ln2_266 from (e281)) (li := li) (e_li := show G263 3 = li from ((hF276.1 3 rfl).trans ((hF237.1 3 rfl).trans ((hF174.1 3 rfl).trans ((hF65.1 3 rfl).trans ((hF35.1 3 rfl).trans ((hF7.1 3 rfl).trans ((hFx.1 3 rfl).trans (e_li))))))))) (fk := fk2_268) (e_fk := show G263 16 = fk2_268 from (e283)) (ll := A 5 (ln2_266).toNat) (e_ll := show A318 5 (ln2_266).toNat = A 5 (ln2_266).toNat from (congrFun (((congrFun eA318 5).trans (uA_ne (by decide))).trans ((hF276.2 5 rfl).trans ((hF237.2 5 rfl).trans ((hF174.2 5 rfl).trans ((hF65.2 5 rfl).trans ((hF35.2 5 rfl).trans ((hF7.2 5 rfl).trans (hFx.2 5 rfl)))))))) _))  (h_lv := ⟨(by decide), (by decide)⟩)  (p_0 := by omega)) (fun o V_q hq => ?_)
                            obtain ⟨G329, A330, r331, fk2_332, rfl, rfl, hW333, hF334, b335, e336, q337⟩ := hq
                            have hF338 := Fr_tr hF320 hF334 (Fr_sub (by decide)) (Fr_sub (by decide))
                            have hP339 := Pf_f hP322 hF334 (by decide)
                            have hS340 := Fx_f hS323 hF334 (by decide)
                            have hV341 := Fx_f hV324 hF334 (by decide)
                            have sf342 : NdM A330 (nd) (nd1) (sy) := NdM_f hF334 (by decide) sf325
                            have ec343 : ecn A330 (G329 31) = ec2_274 := (ecn_f (hF334.2 15 rfl) (hF334.1 31 rfl)).trans ec326
                            have bfk2_332 : (0 : Int) ≤ fk2_332 ∧ fk2_332 ≤ 6 := e336 ▸ hW333.1 16
                            refine .inr ⟨_, rfl, ?_⟩
                            rcases q337 with ⟨rfl, a344, a345, a346, a347⟩ | ⟨rfl, a348⟩ | ⟨rfl, a349, a350, a351⟩
                            · have _q : True := trivial
                              exfalso
                              omega
                            · have _q : True := trivial
                              refine jx_if_eq (pc_q := 27) (tg := 125) rfl rfl rfl (by decide) (by decide) (fun h352 => ?_) (fun h352 => ?_)
                              · have _q := h352
                                refine jx_ld (pc_q := 126) (l_q := L327) (st_q := [.ref 66]) rfl (jl_aloadn gL327_0) ?_
                                refine jx_vr (pc_q := 129) (as := []) (st := []) rfl rfl rfl rfl ⟨rfl, rfl, Nat.le_of_ble_eq_true rfl⟩ rfl rfl (c_bad (dd := d) (hd := by omega) (hW := hW333)  (fk := fk2_332) (e_fk := show G329 16 = fk2_332 from (e336))    ) (fun o V_q hq => ?_)
                                obtain ⟨r353, rfl, rfl, b354, q355⟩ := hq
                                refine .inr ⟨_, rfl, ?_⟩
                                rcases q355 with ⟨rfl, a356⟩ | ⟨rfl, a357⟩
                                · have _q : True := trivial
                                  refine jx_if_ne (pc_q := 132) (tg := 142) rfl rfl rfl (by decide) (by decide) (fun h358 => ?_) (fun h358 => ?_)
                                  · have _q := h358
                                    refine jx_rt (v := none) rfl rfl rfl rfl rfl rfl ?_
                                    exact ⟨_, _, ln2_266, at2_267, fk2_332, nd2_269, sy2_270, na2_271, vi2_272, lf2_273, ec2_274, rfl, rfl, hW333, hF338, hP339, hS340, hV341, ((hF334.1 9 rfl).trans (e281)), ((hF334.1 10 rfl).trans (e282)), (e336), ((hF334.1 31 rfl).trans (e284)), ((hF334.1 19 rfl).trans (e285)), ((hF334.1 28 rfl).trans (e286)), ((hF334.1 29 rfl).trans (e287)), (congrFun ((hF334.2 3 rfl).trans ((congrFun eA318 3).trans (uA_ne (by decide)))) _).trans (e288), ec343, by omega, by omega, by omega, by omega, by omega, by omega, by first | exact Or.inl (by omega)⟩
                                  · have _q := h358
                                    exact absurd h358 (by omega)
                                · have _q : True := trivial
                                  exfalso
                                  omega
                              · have _q := h352
                                exact absurd h352 (by omega)
                            · have _q : True := trivial
                              exfalso
                              omega
                          · have _q : True := trivial
                            refine jr_st (pc_q := 119) (i := 36) (m := 6) (z := r169) (y := r265) rfl (by decide) rfl (by decide) (by omega) (by omega) rfl ?_
                            have hW360 : Wk G263 (uA A264 36 (r169).toNat (r265)) := Wk_a hW275 (show (-2147483648 : Int) ≤ r265 by omega) (show r265 ≤ (2147483647 : Int) by omega)
                            have hF361 := Fr_a (z := r265) (k := 36) (n := (r169).toNat) hF300 (by decide)
                            obtain ⟨A359, eA359⟩ : ∃ q, q = uA A264 36 (r169).toNat (r265) := ⟨_, rfl⟩
                            rw [← eA359]
                            rw [← eA359] at hW360 hF361
                            have q362 : A359 36 (r169).toNat = r265 := by rw [eA359]; exact uA_eq
                            have hP363 : Pf nd A A359 := eA359 ▸ Pf_n hP301 rfl
                            have hS364 : Fx sr (sy) A A359 := eA359 ▸ Fx_n hS302 rfl
                            have hV365 : Fx [14] (vi) A A359 := eA359 ▸ Fx_n hV303 rfl
                            have sf366 : wB A359 Vs pb (nd) (nd2_269) (sy) (sy2_270) := wB_add eA359 sf304 (by omega) (by omega) (by omega) a314 (by omega) (by omega) rfl (by omega) (by omega) (by omega) (by omega) rfl
                            have sf367 : NdM A359 (nd) (nd1) (sy) := NdM_st eA359 (by decide) sf305
                            have sf368 : wP A359 (sy2_270) pb (18) (Vs) (r265) (nd1) (nd2_269) (sy1) (sy2_270) := wP_ag (Sg_ne eA359 rfl) (Qg_ne eA359 rfl) (by omega) (by omega) (Ax_ag (Ag_ne eA359 rfl)) a314
                            have sf369 : NX A359 (r265) := NX_r eA359 (by decide) a315
                            have sf370 : NdM A359 (nd1) (nd2_269) (sy1) := NdM_st eA359 (by decide) a317
                            have ec371 : ecn A359 (G263 31) = ec2_274 := (ecn_e ((congrFun eA359 15).trans (uA_ne (by decide)))).trans e289
                            refine jx_inc (pc_q := 122) (l_q := jSto1 L231 1 (.int (i32 ((many + (1)))))) (x := many) rfl gL231_1 (by decide) rfl rfl ?_
                            obtain ⟨L372, eL372⟩ : ∃ q, q = jSto1 L231 1 (.int (i32 ((many + (1))))) := ⟨_, rfl⟩
                            rw [← eL372]
                            have gL372_0 : jGet L372 0 = some (.ref 66) := eL372 ▸ jg_ne (by decide) gL231_0 rfl
                            have gL372_2 : jGet L372 2 = some (.int (i32 (r169))) := eL372 ▸ jg_ne (by decide) gL231_2 rfl
                            have gL372_1 : jGet L372 1 = some (.int (i32 ((many + (1))))) := eL372 ▸ jg_eq
                            refine jx_go (tg := 19) rfl rfl ?_
                            exact ih19 _ (by omega) L372 G263 A359 ((many + (1))) (ln2_266) (at2_267) (fk2_268) (nd2_269) (sy2_270) (na2_271) (lf2_273) (ec2_274) rfl gL372_0 gL372_1 hW360 hF361 hP363 hS364 hV365 ((e281)) ((e282)) ((e283)) ((e284)) ((e285)) ((e286)) ((congrFun ((congrFun eA359 3).trans (uA_ne (by decide))) _).trans (e288)) (ec371) (Eq.trans (show G263 29 = vi2_272 from (e287)) (by omega)) (by omega) (by omega) (by omega) (by omega) (by omega) (by omega) (by omega) (by omega) (by omega) (by omega) (by omega) (by omega) (sf366) (by omega) ((NdM_w (NdM_app (sy := sy) sf367 sf370 (by omega) (by omega) (by omega)) (by omega) (by omega) (by omega)))
                        · have _q := h262
                          exact absurd h262 (by omega)
                    · have _q : True := trivial
                      refine jx_ld (pc_q := 101) (l_q := L231) (st_q := [.ref 66]) rfl (jl_aloadn gL231_0) ?_
                      refine jx_vr (pc_q := 104) (as := []) (st := []) rfl rfl rfl rfl ⟨rfl, rfl, Nat.le_of_ble_eq_true rfl⟩ rfl rfl (c_bad (dd := d) (hd := by omega) (hW := hW236)  (fk := fk2_235) (e_fk := show G232 16 = fk2_235 from (e239))    ) (fun o V_q hq => ?_)
                      obtain ⟨r373, rfl, rfl, b374, q375⟩ := hq
                      refine .inr ⟨_, rfl, ?_⟩
                      rcases q375 with ⟨rfl, a376⟩ | ⟨rfl, a377⟩
                      · have _q : True := trivial
                        refine jx_if_eq (pc_q := 107) (tg := 108) rfl rfl rfl (by decide) (by decide) (fun h378 => ?_) (fun h378 => ?_)
                        · have _q := h378
                          exact absurd h378 (by omega)
                        · have _q := h378
                          refine jx_rt (v := none) rfl rfl rfl rfl rfl rfl ?_
                          exact ⟨_, _, ln2_234, at2_170, fk2_235, nd1, sy1, na1, vi, A 3 (ln2_234).toNat, ec1, rfl, rfl, hW236, hF241, hP242, hS243, hV244, (e238), ((hF237.1 10 rfl).trans (e176)), (e239), ((hF237.1 31 rfl).trans ((hF174.1 31 rfl).trans ((hF65.1 31 rfl).trans ((hF35.1 31 rfl).trans ((hF7.1 31 rfl).trans (ex_nd1)))))), ((hF237.1 19 rfl).trans ((hF174.1 19 rfl).trans ((hF65.1 19 rfl).trans ((hF35.1 19 rfl).trans ((hF7.1 19 rfl).trans (ex_sy1)))))), ((hF237.1 28 rfl).trans ((hF174.1 28 rfl).trans ((hF65.1 28 rfl).trans ((hF35.1 28 rfl).trans ((hF7.1 28 rfl).trans (ex_na1)))))), ((hF237.1 29 rfl).trans ((hF174.1 29 rfl).trans ((hF65.1 29 rfl).trans ((hF35.1 29 rfl).trans ((hF7.1 29 rfl).trans (fx_29)))))), (congrFun ((hF237.2 3 rfl).trans ((hF174.2 3 rfl).trans ((hF65.2 3 rfl).trans ((hF35.2 3 rfl).trans ((hF7.2 3 rfl).trans (hFx.2 3 rfl)))))) _), ec247, by omega, by omega, by omega, by omega, by omega, by omega, by first | exact Or.inl (by omega)⟩
                      · have _q : True := trivial
                        exfalso
                        omega
                · have _q := h165
                  refine jx_ld (pc_q := 57) (l_q := L) (st_q := [.ref 66]) rfl (jl_aloadn gL_0) ?_
                  have b379 : (-2147483648 : Int) ≤ G59 13 ∧ G59 13 ≤ 2147483647 := hW64.1 13
                  refine jr_get (pc_q := 60) (i := 13) (v := .int (i32 (G59 13))) rfl rfl (by decide) rfl rfl ?_
                  refine jx_ar (pc_q := 61) (st_q := [.int (i32 (0)), .int (i32 (G59 13))]) rfl rfl rfl rfl ?_
                  refine jx_ar (pc_q := 62) (st_q := [.int (i32 (5)), .int (i32 (0)), .int (i32 (G59 13))]) rfl rfl rfl rfl ?_
                  refine jx_st (pc_q := 65) (as := [.int (i32 (G59 13)), .int (i32 (0)), .int (i32 (5))]) (st := []) rfl rfl ⟨rfl, Nat.le_of_ble_eq_true rfl⟩ rfl rfl rfl (c_in (dd := d) (hd := by omega) (v := G59 13) (a := 0) (b := 5)   (h_v := ⟨(Int.le_trans (by decide : (-2147483648 : Int) ≤ -2147483648) b379.1), (Int.le_trans b379.2 (by decide : (2147483647 : Int) ≤ 2147483647))⟩) (h_a := ⟨(by decide), (by decide)⟩) (h_b := ⟨(by decide), (by decide)⟩)  ) (fun o V_q hq => ?_)
                  obtain ⟨r380, rfl, rfl, b381, q382⟩ := hq
                  refine .inr ⟨_, rfl, ?_⟩
                  rcases q382 with ⟨rfl, a383, a384⟩ | ⟨rfl, a385⟩
                  · have _q : True := trivial
                    refine jx_if_eq (pc_q := 68) (tg := 89) rfl rfl rfl (by decide) (by decide) (fun h386 => ?_) (fun h386 => ?_)
                    · have _q := h386
                      exact absurd h386 (by omega)
                    · have _q := h386
                      refine jx_ld (pc_q := 69) (l_q := L) (st_q := [.ref 66]) rfl (jl_aloadn gL_0) ?_
                      refine jr_get (pc_q := 72) (i := 55) (v := .ref 103) rfl rfl (by decide) rfl rfl ?_
                      refine jx_ld (pc_q := 73) (l_q := L) (st_q := [.ref 66, .ref 103]) rfl (jl_aloadn gL_0) ?_
                      refine jr_get (pc_q := 76) (i := 13) (v := .int (i32 (G59 13))) rfl rfl (by decide) rfl rfl ?_
                      have _q : True := trivial
                      have b387 : (-2147483648 : Int) ≤ Ax 36 (G59 13).toNat ∧ Ax 36 (G59 13).toNat ≤ 2147483647 := hWx.2 36 _
                      refine jr_ldv (pc_q := 77) (i := 36) (m := 6) (z := G59 13) (y := Ax 36 (G59 13).toNat) rfl (by decide) rfl (by decide) (by omega) (by omega) rfl (show A60 36 (G59 13).toNat = Ax 36 (G59 13).toNat from (congrFun ((hF65.2 36 rfl).trans ((hF35.2 36 rfl).trans (hF7.2 36 rfl))) _)) ?_
                      refine jx_if_le (pc_q := 80) (tg := 89) rfl rfl rfl (Int.le_trans (by decide : (-2147483648 : Int) ≤ -2147483648) b387.1) (Int.le_trans b387.2 (by decide : (2147483647 : Int) ≤ 2147483647)) (fun h388 => ?_) (fun h388 => ?_)
                      · have _q := h388
                        refine jx_ld (pc_q := 90) (l_q := L) (st_q := [.ref 66]) rfl (jl_aloadn gL_0) ?_
                        refine jx_ar (pc_q := 91) (st_q := [.int (i32 (0)), .ref 66]) rfl rfl rfl rfl ?_
                        refine jx_ar (pc_q := 92) (st_q := [.int (i32 (5)), .int (i32 (0)), .ref 66]) rfl rfl rfl rfl ?_
                        refine jx_vr (pc_q := 95) (as := [.int (i32 (0)), .int (i32 (5))]) (st := []) rfl rfl rfl rfl ⟨rfl, rfl, Nat.le_of_ble_eq_true rfl⟩ rfl rfl (c_needNumber2 (dd := d) (hd := by omega) (hW := hW64) (lo := 0) (hi := 5) (ln := ln1) (e_ln := show G59 9 = ln1 from ((hF65.1 9 rfl).trans ((hF35.1 9 rfl).trans ((hF7.1 9 rfl).trans (ex_ln1))))) (le := A 4 (ln1).toNat) (e_le := show A60 4 (ln1).toNat = A 4 (ln1).toNat from (congrFun ((hF65.2 4 rfl).trans ((hF35.2 4 rfl).trans ((hF7.2 4 rfl).trans (hFx.2 4 rfl)))) _)) (at0 := at2_61) (e_at0 := show G59 10 = at2_61 from (e66)) (fk := fk2_63) (e_fk := show G59 16 = fk2_63 from (e68)) (tk0 := tk2_62) (e_tk0 := show G59 11 = tk2_62 from (e67)) (tn := G59 13) (e_tn := show G59 13 = G59 13 from rfl)  (h_lo := ⟨(by decide), (by decide)⟩) (h_hi := ⟨(by decide), (by decide)⟩)  (p_0 := by omega)) (fun o V_q hq => ?_)
                        obtain ⟨G389, A390, r391, at2_392, tk2_393, fk2_394, rfl, rfl, hW395, hF396, b397, e398, e399, e400, p401, p402, q403⟩ := hq
                        have hF404 := Fr_tr hF72 hF396 (Fr_sub (by decide)) (Fr_sub (by decide))
                        have hP405 := Pf_f hP73 hF396 (by decide)
                        have hS406 := Fx_f hS74 hF396 (by decide)
                        have hV407 := Fx_f hV75 hF396 (by decide)
                        have sf408 : wB A390 Vs pb (nd) (nd1) (sy) (sy1) := (show A390 = A60 from funext (fun k => hF396.2 k rfl)) ▸ sf76
                        have sf409 : NdM A390 (nd) (nd1) (sy) := NdM_f hF396 (by decide) sf77
                        have ec410 : ecn A390 (G389 31) = ec1 := (ecn_f (hF396.2 15 rfl) (hF396.1 31 rfl)).trans ec78
                        have bat2_392 : (0 : Int) ≤ at2_392 ∧ at2_392 ≤ 3002 := e398 ▸ hW395.1 10
                        have ztk2_393 := tz_b tk2_393
                        have btk2_393 : (0 : Int) ≤ tk2_393 ∧ tk2_393 ≤ 5 := e399 ▸ hW395.1 11
                        have bfk2_394 : (0 : Int) ≤ fk2_394 ∧ fk2_394 ≤ 6 := e400 ▸ hW395.1 16
                        refine .inr ⟨_, rfl, ?_⟩
                        rcases q403 with ⟨a411, a412, a413, a414⟩ | ⟨a415, a416, a417, a418, a419, a420, a421⟩
                        · have _q : True := trivial
                          refine jx_ld (pc_q := 96) (l_q := jSto1 L 2 (.int (i32 (r391)))) (st_q := []) rfl rfl ?_
                          obtain ⟨L422, eL422⟩ : ∃ q, q = jSto1 L 2 (.int (i32 (r391))) := ⟨_, rfl⟩
                          rw [← eL422]
                          have gL422_0 : jGet L422 0 = some (.ref 66) := eL422 ▸ jg_ne (by decide) gL_0 rfl
                          have gL422_1 : jGet L422 1 = some (.int (i32 (many))) := eL422 ▸ jg_ne (by decide) gL_1 rfl
                          have gL422_2 : jGet L422 2 = some (.int (i32 (r391))) := eL422 ▸ jg_eq
                          refine jx_ld (pc_q := 97) (l_q := L422) (st_q := [.ref 66]) rfl (jl_aloadn gL422_0) ?_
                          refine jx_vr (pc_q := 100) (as := []) (st := []) rfl rfl rfl rfl ⟨rfl, rfl, Nat.le_of_ble_eq_true rfl⟩ rfl rfl (c_endLine (dd := d) (hd := by omega) (hW := hW395)  (ln := ln1) (e_ln := show G389 9 = ln1 from ((hF396.1 9 rfl).trans ((hF65.1 9 rfl).trans ((hF35.1 9 rfl).trans ((hF7.1 9 rfl).trans (ex_ln1)))))) (li := li) (e_li := show G389 3 = li from ((hF396.1 3 rfl).trans ((hF65.1 3 rfl).trans ((hF35.1 3 rfl).trans ((hF7.1 3 rfl).trans ((hFx.1 3 rfl).trans (e_li))))))) (fk := fk2_394) (e_fk := show G389 16 = fk2_394 from (e400)) (tk0 := tk2_393) (e_tk0 := show G389 11 = tk2_393 from (e399))    (p_0 := by omega)) (fun o V_q hq => ?_)
                          obtain ⟨G423, A424, ln2_425, fk2_426, rfl, rfl, hW427, hF428, e429, e430, q431⟩ := hq
                          have hF432 := Fr_tr hF404 hF428 (Fr_sub (by decide)) (Fr_sub (by decide))
                          have hP433 := Pf_f hP405 hF428 (by decide)
                          have hS434 := Fx_f hS406 hF428 (by decide)
                          have hV435 := Fx_f hV407 hF428 (by decide)
                          have sf436 : wB A424 Vs pb (nd) (nd1) (sy) (sy1) := (show A424 = A390 from funext (fun k => hF428.2 k rfl)) ▸ sf408
                          have sf437 : NdM A424 (nd) (nd1) (sy) := NdM_f hF428 (by decide) sf409
                          have ec438 : ecn A424 (G423 31) = ec1 := (ecn_f (hF428.2 15 rfl) (hF428.1 31 rfl)).trans ec410
                          have bln2_425 : (0 : Int) ≤ ln2_425 ∧ ln2_425 ≤ 3000 := e429 ▸ hW427.1 9
                          have bfk2_426 : (0 : Int) ≤ fk2_426 ∧ fk2_426 ≤ 6 := e430 ▸ hW427.1 16
                          refine .inl ⟨rfl, ?_⟩
                          rcases q431 with ⟨a439, a440, a441, a442, a443⟩ | ⟨a444, a445⟩
                          · have _q : True := trivial
                            exfalso
                            omega
                          · have _q : True := trivial
                            refine jx_ld (pc_q := 101) (l_q := L422) (st_q := [.ref 66]) rfl (jl_aloadn gL422_0) ?_
                            refine jx_vr (pc_q := 104) (as := []) (st := []) rfl rfl rfl rfl ⟨rfl, rfl, Nat.le_of_ble_eq_true rfl⟩ rfl rfl (c_bad (dd := d) (hd := by omega) (hW := hW427)  (fk := fk2_426) (e_fk := show G423 16 = fk2_426 from (e430))    ) (fun o V_q hq => ?_)
                            obtain ⟨r446, rfl, rfl, b447, q448⟩ := hq
                            refine .inr ⟨_, rfl, ?_⟩
                            rcases q448 with ⟨rfl, a449⟩ | ⟨rfl, a450⟩
                            · have _q : True := trivial
                              refine jx_if_eq (pc_q := 107) (tg := 108) rfl rfl rfl (by decide) (by decide) (fun h451 => ?_) (fun h451 => ?_)
                              · have _q := h451
                                exact absurd h451 (by omega)
                              · have _q := h451
                                refine jx_rt (v := none) rfl rfl rfl rfl rfl rfl ?_
                                exact ⟨_, _, ln2_425, at2_392, fk2_426, nd1, sy1, na1, vi, A 3 (ln2_425).toNat, ec1, rfl, rfl, hW427, hF432, hP433, hS434, hV435, (e429), ((hF428.1 10 rfl).trans (e398)), (e430), ((hF428.1 31 rfl).trans ((hF396.1 31 rfl).trans ((hF65.1 31 rfl).trans ((hF35.1 31 rfl).trans ((hF7.1 31 rfl).trans (ex_nd1)))))), ((hF428.1 19 rfl).trans ((hF396.1 19 rfl).trans ((hF65.1 19 rfl).trans ((hF35.1 19 rfl).trans ((hF7.1 19 rfl).trans (ex_sy1)))))), ((hF428.1 28 rfl).trans ((hF396.1 28 rfl).trans ((hF65.1 28 rfl).trans ((hF35.1 28 rfl).trans ((hF7.1 28 rfl).trans (ex_na1)))))), ((hF428.1 29 rfl).trans ((hF396.1 29 rfl).trans ((hF65.1 29 rfl).trans ((hF35.1 29 rfl).trans ((hF7.1 29 rfl).trans (fx_29)))))), (congrFun ((hF428.2 3 rfl).trans ((hF396.2 3 rfl).trans ((hF65.2 3 rfl).trans ((hF35.2 3 rfl).trans ((hF7.2 3 rfl).trans (hFx.2 3 rfl)))))) _), ec438, by omega, by omega, by omega, by omega, by omega, by omega, by first | exact Or.inl (by omega)⟩
                            · have _q : True := trivial
                              exfalso
                              omega
                        · have _q : True := trivial
                          have pz452 : at2_61 + tz tk2_393 ≤ at2_392 := by omega
                          refine jx_ld (pc_q := 96) (l_q := jSto1 L 2 (.int (i32 (r391)))) (st_q := []) rfl rfl ?_
                          obtain ⟨L453, eL453⟩ : ∃ q, q = jSto1 L 2 (.int (i32 (r391))) := ⟨_, rfl⟩
                          rw [← eL453]
                          have gL453_0 : jGet L453 0 = some (.ref 66) := eL453 ▸ jg_ne (by decide) gL_0 rfl
                          have gL453_1 : jGet L453 1 = some (.int (i32 (many))) := eL453 ▸ jg_ne (by decide) gL_1 rfl
                          have gL453_2 : jGet L453 2 = some (.int (i32 (r391))) := eL453 ▸ jg_eq
                          refine jx_ld (pc_q := 97) (l_q := L453) (st_q := [.ref 66]) rfl (jl_aloadn gL453_0) ?_
                          refine jx_vr (pc_q := 100) (as := []) (st := []) rfl rfl rfl rfl ⟨rfl, rfl, Nat.le_of_ble_eq_true rfl⟩ rfl rfl (c_endLine (dd := d) (hd := by omega) (hW := hW395)  (ln := ln1) (e_ln := show G389 9 = ln1 from ((hF396.1 9 rfl).trans ((hF65.1 9 rfl).trans ((hF35.1 9 rfl).trans ((hF7.1 9 rfl).trans (ex_ln1)))))) (li := li) (e_li := show G389 3 = li from ((hF396.1 3 rfl).trans ((hF65.1 3 rfl).trans ((hF35.1 3 rfl).trans ((hF7.1 3 rfl).trans ((hFx.1 3 rfl).trans (e_li))))))) (fk := fk2_394) (e_fk := show G389 16 = fk2_394 from (e400)) (tk0 := tk2_393) (e_tk0 := show G389 11 = tk2_393 from (e399))    (p_0 := by omega)) (fun o V_q hq => ?_)
                          obtain ⟨G454, A455, ln2_456, fk2_457, rfl, rfl, hW458, hF459, e460, e461, q462⟩ := hq
                          have hF463 := Fr_tr hF404 hF459 (Fr_sub (by decide)) (Fr_sub (by decide))
                          have hP464 := Pf_f hP405 hF459 (by decide)
                          have hS465 := Fx_f hS406 hF459 (by decide)
                          have hV466 := Fx_f hV407 hF459 (by decide)
                          have sf467 : wB A455 Vs pb (nd) (nd1) (sy) (sy1) := (show A455 = A390 from funext (fun k => hF459.2 k rfl)) ▸ sf408
                          have sf468 : NdM A455 (nd) (nd1) (sy) := NdM_f hF459 (by decide) sf409
                          have ec469 : ecn A455 (G454 31) = ec1 := (ecn_f (hF459.2 15 rfl) (hF459.1 31 rfl)).trans ec410
                          have bln2_456 : (0 : Int) ≤ ln2_456 ∧ ln2_456 ≤ 3000 := e460 ▸ hW458.1 9
                          have bfk2_457 : (0 : Int) ≤ fk2_457 ∧ fk2_457 ≤ 6 := e461 ▸ hW458.1 16
                          refine .inl ⟨rfl, ?_⟩
                          rcases q462 with ⟨a470, a471, a472, a473, a474⟩ | ⟨a475, a476⟩
                          · have _q : True := trivial
                            have b477 : (0 : Int) ≤ A 3 (ln2_456).toNat ∧ A 3 (ln2_456).toNat ≤ 3000 := hW.2 3 _
                            have lt478 : ln2_456 < li → A 4 (ln1).toNat < A 3 (ln2_456).toNat := fun hh => LT_nx (LT_ext (((hF459.1 3 rfl).trans ((hF396.1 3 rfl).trans ((hF65.1 3 rfl).trans ((hF35.1 3 rfl).trans ((hF7.1 3 rfl).trans (hFx.1 3 rfl))))))) (((hF459.2 3 rfl).trans ((hF396.2 3 rfl).trans ((hF65.2 3 rfl).trans ((hF35.2 3 rfl).trans ((hF7.2 3 rfl).trans (hFx.2 3 rfl))))))) (((hF459.2 4 rfl).trans ((hF396.2 4 rfl).trans ((hF65.2 4 rfl).trans ((hF35.2 4 rfl).trans ((hF7.2 4 rfl).trans (hFx.2 4 rfl))))))) i_LT) (show G454 3 = li from ((hF459.1 3 rfl).trans ((hF396.1 3 rfl).trans ((hF65.1 3 rfl).trans ((hF35.1 3 rfl).trans ((hF7.1 3 rfl).trans ((hFx.1 3 rfl).trans (e_li)))))))) (show A455 4 (ln1).toNat = A 4 (ln1).toNat from (congrFun ((hF459.2 4 rfl).trans ((hF396.2 4 rfl).trans ((hF65.2 4 rfl).trans ((hF35.2 4 rfl).trans ((hF7.2 4 rfl).trans (hFx.2 4 rfl)))))) _)) (show A455 3 (ln2_456).toNat = A 3 (ln2_456).toNat from (congrFun ((hF459.2 3 rfl).trans ((hF396.2 3 rfl).trans ((hF65.2 3 rfl).trans ((hF35.2 3 rfl).trans ((hF7.2 3 rfl).trans (hFx.2 3 rfl)))))) _)) (show ln2_456 = ln1 + 1 by omega) (by omega) hh
                            refine jx_ld (pc_q := 101) (l_q := L453) (st_q := [.ref 66]) rfl (jl_aloadn gL453_0) ?_
                            refine jx_vr (pc_q := 104) (as := []) (st := []) rfl rfl rfl rfl ⟨rfl, rfl, Nat.le_of_ble_eq_true rfl⟩ rfl rfl (c_bad (dd := d) (hd := by omega) (hW := hW458)  (fk := fk2_457) (e_fk := show G454 16 = fk2_457 from (e461))    ) (fun o V_q hq => ?_)
                            obtain ⟨r479, rfl, rfl, b480, q481⟩ := hq
                            refine .inr ⟨_, rfl, ?_⟩
                            rcases q481 with ⟨rfl, a482⟩ | ⟨rfl, a483⟩
                            · have _q : True := trivial
                              exfalso
                              omega
                            · have _q : True := trivial
                              refine jx_if_eq (pc_q := 107) (tg := 108) rfl rfl rfl (by decide) (by decide) (fun h484 => ?_) (fun h484 => ?_)
                              · have _q := h484
                                refine jx_ld (pc_q := 109) (l_q := L453) (st_q := [.ref 66]) rfl (jl_aloadn gL453_0) ?_
                                refine jr_get (pc_q := 112) (i := 55) (v := .ref 103) rfl rfl (by decide) rfl rfl ?_
                                refine jx_ld (pc_q := 113) (l_q := L453) (st_q := [.int (i32 (r391)), .ref 103]) rfl (jl_iloadn gL453_2) ?_
                                refine jx_ld (pc_q := 114) (l_q := L453) (st_q := [.ref 66, .int (i32 (r391)), .ref 103]) rfl (jl_aloadn gL453_0) ?_
                                refine jx_ar (pc_q := 115) (st_q := [.int (i32 (2)), .ref 66, .int (i32 (r391)), .ref 103]) rfl rfl rfl rfl ?_
                                refine jx_vr (pc_q := 118) (as := [.int (i32 (2))]) (st := [.int (i32 (r391)), .ref 103]) rfl rfl rfl rfl ⟨rfl, rfl, Nat.le_of_ble_eq_true rfl⟩ rfl rfl (RPw_all X 18 (dd := d) (hd := by omega) (hW := hW458) (lv := 2) (at0 := at2_392) (ln := ln2_456) (e_ln := show G454 9 = ln2_456 from (e460)) (li := li) (e_li := show G454 3 = li from ((hF459.1 3 rfl).trans ((hF396.1 3 rfl).trans ((hF65.1 3 rfl).trans ((hF35.1 3 rfl).trans ((hF7.1 3 rfl).trans ((hFx.1 3 rfl).trans (e_li)))))))) (fk := fk2_457) (e_fk := show G454 16 = fk2_457 from (e461)) (nd := nd1) (e_nd := show G454 31 = nd1 from ((hF459.1 31 rfl).trans ((hF396.1 31 rfl).trans ((hF65.1 31 rfl).trans ((hF35.1 31 rfl).trans ((hF7.1 31 rfl).trans (ex_nd1))))))) (sy := sy1) (e_sy := show G454 19 = sy1 from ((hF459.1 19 rfl).trans ((hF396.1 19 rfl).trans ((hF65.1 19 rfl).trans ((hF35.1 19 rfl).trans ((hF7.1 19 rfl).trans (ex_sy1))))))) (na := na1) (e_na := show G454 28 = na1 from ((hF459.1 28 rfl).trans ((hF396.1 28 rfl).trans ((hF65.1 28 rfl).trans ((hF35.1 28 rfl).trans ((hF7.1 28 rfl).trans (ex_na1))))))) (vi := vi) (e_vi := show G454 29 = vi from ((hF459.1 29 rfl).trans ((hF396.1 29 rfl).trans ((hF65.1 29 rfl).trans ((hF35.1 29 rfl).trans ((hF7.1 29 rfl).trans (fx_29))))))) (lf := A 3 (ln2_456).toNat) (e_lf := show A455 3 (ln2_456).toNat = A 3 (ln2_456).toNat from (congrFun ((hF459.2 3 rfl).trans ((hF396.2 3 rfl).trans ((hF65.2 3 rfl).trans ((hF35.2 3 rfl).trans ((hF7.2 3 rfl).trans (hFx.2 3 rfl)))))) _)) (ac := at2_392) (e_ac := show G454 10 = at2_392 from ((hF459.1 10 rfl).trans (e398))) (ec := ec1) (e_ec := show ecn A455 (G454 31) = ec1 from ec469) (i_LT := (LT_ext (((hF459.1 3 rfl).trans ((hF396.1 3 rfl).trans ((hF65.1 3 rfl).trans ((hF35.1 3 rfl).trans ((hF7.1 3 rfl).trans (hFx.1 3 rfl))))))) (((hF459.2 3 rfl).trans ((hF396.2 3 rfl).trans ((hF65.2 3 rfl).trans ((hF35.2 3 rfl).trans ((hF7.2 3 rfl).trans (hFx.2 3 rfl))))))) (((hF459.2 4 rfl).trans ((hF396.2 4 rfl).trans ((hF65.2 4 rfl).trans ((hF35.2 4 rfl).trans ((hF7.2 4 rfl).trans (hFx.2 4 rfl))))))) i_LT)) (i_SV := (SV_fx i_SV e_vi (show G454 29 = vi from ((hF459.1 29 rfl).trans ((hF396.1 29 rfl).trans ((hF65.1 29 rfl).trans ((hF35.1 29 rfl).trans ((hF7.1 29 rfl).trans (fx_29))))))) (by omega) hV466)) (i_PQ := (PQ_fx i_PQ hS465 (by omega) (hF463.2 29 rfl) (hF463.2 30 rfl))) (hvb := hvb) (h_lv := ⟨(by decide), (by decide)⟩)  (p_0 := by omega) (p_1 := by omega) (p_2 := by omega) (p_3 := by omega) (p_4 := by omega) (p_5 := by omega) (p_6 := by omega) (p_7 := by omega) (p_8 := by omega) (p_9 := by omega) (p_10 := by omega)) (fun o V_q hq => ?_)
                                obtain ⟨G485, A486, r487, ln2_488, at2_489, fk2_490, nd2_491, sy2_492, na2_493, vi2_494, lf2_495, ec2_496, rfl, rfl, hW497, hF498, hQ499, hQ500, hQ501, b502, e503, e504, e505, e506, e507, e508, e509, e510, e511, p512, p513, p514, p515, p516, p517, p518, p519, p520, q521⟩ := hq
                                have hF522 := Fr_tr hF463 hF498 (Fr_sub (by decide)) (Fr_sub (by decide))
                                have hP523 := Pf_tr hP464 hQ499 (by omega)
                                have hS524 := Fx_tr hS465 hQ500 (by omega)
                                have hV525 := Fx_tr hV466 hQ501 (by omega)
                                have sf526 : wB A486 Vs pb (nd) (nd1) (sy) (sy1) := wB_fx (fun k j hk hj => hQ499 k j hk (by omega)) (Fx_su hQ500 (by omega)) (Qg_fx (Fx_f (w := pb) Fx_rf hF498 (by decide)) (by omega)) (hF498.2 36 rfl) (by omega) sf467
                                have sf527 : NdM A486 (nd) (nd1) (sy) := NdM_pf hQ499 (by omega) (by omega) sf468
                                have bln2_488 : (0 : Int) ≤ ln2_488 ∧ ln2_488 ≤ 3000 := e503 ▸ hW497.1 9
                                have bat2_489 : (0 : Int) ≤ at2_489 ∧ at2_489 ≤ 3002 := e504 ▸ hW497.1 10
                                have bfk2_490 : (0 : Int) ≤ fk2_490 ∧ fk2_490 ≤ 6 := e505 ▸ hW497.1 16
                                have bnd2_491 : (0 : Int) ≤ nd2_491 ∧ nd2_491 ≤ 6999 := e506 ▸ hW497.1 31
                                have bsy2_492 : (0 : Int) ≤ sy2_492 ∧ sy2_492 ≤ 202 := e507 ▸ hW497.1 19
                                have bna2_493 : (0 : Int) ≤ na2_493 ∧ na2_493 ≤ 200 := e508 ▸ hW497.1 28
                                have bvi2_494 : (0 : Int) ≤ vi2_494 ∧ vi2_494 ≤ 202 := e509 ▸ hW497.1 29
                                have blf2_495 : (0 : Int) ≤ lf2_495 ∧ lf2_495 ≤ 3000 := e510 ▸ hW497.2 3 _
                                refine .inr ⟨_, rfl, ?_⟩
                                rcases q521 with ⟨a528, a529⟩ | ⟨a530, a531, a532, a533, a534, a535, a536, a537, a538, a539⟩
                                · have _q : True := trivial
                                  refine jr_st (pc_q := 119) (i := 36) (m := 6) (z := r391) (y := r487) rfl (by decide) rfl (by decide) (by omega) (by omega) rfl ?_
                                  have hW541 : Wk G485 (uA A486 36 (r391).toNat (r487)) := Wk_a hW497 (show (-2147483648 : Int) ≤ r487 by omega) (show r487 ≤ (2147483647 : Int) by omega)
                                  have hF542 := Fr_a (z := r487) (k := 36) (n := (r391).toNat) hF522 (by decide)
                                  obtain ⟨A540, eA540⟩ : ∃ q, q = uA A486 36 (r391).toNat (r487) := ⟨_, rfl⟩
                                  rw [← eA540]
                                  rw [← eA540] at hW541 hF542
                                  have q543 : A540 36 (r391).toNat = r487 := by rw [eA540]; exact uA_eq
                                  have hP544 : Pf nd A A540 := eA540 ▸ Pf_n hP523 rfl
                                  have hS545 : Fx sr (sy) A A540 := eA540 ▸ Fx_n hS524 rfl
                                  have hV546 : Fx [14] (vi) A A540 := eA540 ▸ Fx_n hV525 rfl
                                  have sf547 : NdM A540 (nd) (nd1) (sy) := NdM_st eA540 (by decide) sf527
                                  have ec548 : ecn A540 (G485 31) = ec2_496 := (ecn_e ((congrFun eA540 15).trans (uA_ne (by decide)))).trans e511
                                  refine jx_inc (pc_q := 122) (l_q := jSto1 L453 1 (.int (i32 ((many + (1)))))) (x := many) rfl gL453_1 (by decide) rfl rfl ?_
                                  obtain ⟨L549, eL549⟩ : ∃ q, q = jSto1 L453 1 (.int (i32 ((many + (1))))) := ⟨_, rfl⟩
                                  rw [← eL549]
                                  have gL549_0 : jGet L549 0 = some (.ref 66) := eL549 ▸ jg_ne (by decide) gL453_0 rfl
                                  have gL549_2 : jGet L549 2 = some (.int (i32 (r391))) := eL549 ▸ jg_ne (by decide) gL453_2 rfl
                                  have gL549_1 : jGet L549 1 = some (.int (i32 ((many + (1))))) := eL549 ▸ jg_eq
                                  refine jx_go (tg := 19) rfl rfl ?_
                                  refine jx_ld (pc_q := 20) (l_q := L549) (st_q := [.ref 66]) rfl (jl_aloadn gL549_0) ?_
                                  refine jx_ar (pc_q := 21) (st_q := [.int (i32 (0)), .ref 66]) rfl rfl rfl rfl ?_
                                  have b550 : (-1 : Int) ≤ A 5 (ln2_488).toNat ∧ A 5 (ln2_488).toNat ≤ 15 := hW.2 5 _
                                  refine jx_vr (pc_q := 24) (as := [.int (i32 (0))]) (st := []) rfl rfl rfl rfl ⟨rfl, rfl, Nat.le_of_ble_eq_true rfl⟩ rfl rfl (c_isBelow (dd := d) (hd := by omega) (hW := hW541) (lv := 0) (ln := ln2_488) (e_ln := show G485 9 = ln2_488 from (e503)) (li := li) (e_li := show G485 3 = li from ((hF498.1 3 rfl).trans ((hF459.1 3 rfl).trans ((hF396.1 3 rfl).trans ((hF65.1 3 rfl).trans ((hF35.1 3 rfl).trans ((hF7.1 3 rfl).trans ((hFx.1 3 rfl).trans (e_li))))))))) (fk := fk2_490) (e_fk := show G485 16 = fk2_490 from (e505)) (ll := A 5 (ln2_488).toNat) (e_ll := show A540 5 (ln2_488).toNat = A 5 (ln2_488).toNat from (congrFun (((congrFun eA540 5).trans (uA_ne (by decide))).trans ((hF498.2 5 rfl).trans ((hF459.2 5 rfl).trans ((hF396.2 5 rfl).trans ((hF65.2 5 rfl).trans ((hF35.2 5 rfl).trans ((hF7.2 5 rfl).trans (hFx.2 5 rfl)))))))) _))  (h_lv := ⟨(by decide), (by decide)⟩)  (p_0 := by omega)) (fun o V_q hq => ?_)
                                  obtain ⟨G551, A552, r553, fk2_554, rfl, rfl, hW555, hF556, b557, e558, q559⟩ := hq
                                  have hF560 := Fr_tr hF542 hF556 (Fr_sub (by decide)) (Fr_sub (by decide))
                                  have hP561 := Pf_f hP544 hF556 (by decide)
                                  have hS562 := Fx_f hS545 hF556 (by decide)
                                  have hV563 := Fx_f hV546 hF556 (by decide)
                                  have sf564 : NdM A552 (nd) (nd1) (sy) := NdM_f hF556 (by decide) sf547
                                  have ec565 : ecn A552 (G551 31) = ec2_496 := (ecn_f (hF556.2 15 rfl) (hF556.1 31 rfl)).trans ec548
                                  have bfk2_554 : (0 : Int) ≤ fk2_554 ∧ fk2_554 ≤ 6 := e558 ▸ hW555.1 16
                                  refine .inr ⟨_, rfl, ?_⟩
                                  rcases q559 with ⟨rfl, a566, a567, a568, a569⟩ | ⟨rfl, a570⟩ | ⟨rfl, a571, a572, a573⟩
                                  · have _q : True := trivial
                                    exfalso
                                    omega
                                  · have _q : True := trivial
                                    refine jx_if_eq (pc_q := 27) (tg := 125) rfl rfl rfl (by decide) (by decide) (fun h574 => ?_) (fun h574 => ?_)
                                    · have _q := h574
                                      refine jx_ld (pc_q := 126) (l_q := L549) (st_q := [.ref 66]) rfl (jl_aloadn gL549_0) ?_
                                      refine jx_vr (pc_q := 129) (as := []) (st := []) rfl rfl rfl rfl ⟨rfl, rfl, Nat.le_of_ble_eq_true rfl⟩ rfl rfl (c_bad (dd := d) (hd := by omega) (hW := hW555)  (fk := fk2_554) (e_fk := show G551 16 = fk2_554 from (e558))    ) (fun o V_q hq => ?_)
                                      obtain ⟨r575, rfl, rfl, b576, q577⟩ := hq
                                      refine .inr ⟨_, rfl, ?_⟩
                                      rcases q577 with ⟨rfl, a578⟩ | ⟨rfl, a579⟩
                                      · have _q : True := trivial
                                        refine jx_if_ne (pc_q := 132) (tg := 142) rfl rfl rfl (by decide) (by decide) (fun h580 => ?_) (fun h580 => ?_)
                                        · have _q := h580
                                          refine jx_rt (v := none) rfl rfl rfl rfl rfl rfl ?_
                                          exact ⟨_, _, ln2_488, at2_489, fk2_554, nd2_491, sy2_492, na2_493, vi2_494, lf2_495, ec2_496, rfl, rfl, hW555, hF560, hP561, hS562, hV563, ((hF556.1 9 rfl).trans (e503)), ((hF556.1 10 rfl).trans (e504)), (e558), ((hF556.1 31 rfl).trans (e506)), ((hF556.1 19 rfl).trans (e507)), ((hF556.1 28 rfl).trans (e508)), ((hF556.1 29 rfl).trans (e509)), (congrFun ((hF556.2 3 rfl).trans ((congrFun eA540 3).trans (uA_ne (by decide)))) _).trans (e510), ec565, by omega, by omega, by omega, by omega, by omega, by omega, by first | exact Or.inl (by omega)⟩
                                        · have _q := h580
                                          exact absurd h580 (by omega)
                                      · have _q : True := trivial
                                        exfalso
                                        omega
                                    · have _q := h574
                                      exact absurd h574 (by omega)
                                  · have _q : True := trivial
                                    exfalso
                                    omega
                                · have _q : True := trivial
                                  refine jr_st (pc_q := 119) (i := 36) (m := 6) (z := r391) (y := r487) rfl (by decide) rfl (by decide) (by omega) (by omega) rfl ?_
                                  have hW582 : Wk G485 (uA A486 36 (r391).toNat (r487)) := Wk_a hW497 (show (-2147483648 : Int) ≤ r487 by omega) (show r487 ≤ (2147483647 : Int) by omega)
                                  have hF583 := Fr_a (z := r487) (k := 36) (n := (r391).toNat) hF522 (by decide)
                                  obtain ⟨A581, eA581⟩ : ∃ q, q = uA A486 36 (r391).toNat (r487) := ⟨_, rfl⟩
                                  rw [← eA581]
                                  rw [← eA581] at hW582 hF583
                                  have q584 : A581 36 (r391).toNat = r487 := by rw [eA581]; exact uA_eq
                                  have hP585 : Pf nd A A581 := eA581 ▸ Pf_n hP523 rfl
                                  have hS586 : Fx sr (sy) A A581 := eA581 ▸ Fx_n hS524 rfl
                                  have hV587 : Fx [14] (vi) A A581 := eA581 ▸ Fx_n hV525 rfl
                                  have sf588 : wB A581 Vs pb (nd) (nd2_491) (sy) (sy2_492) := wB_add eA581 sf526 (by omega) (by omega) (by rw [show A486 36 (r391).toNat = Ax 36 (r391).toNat from (congrFun ((hF498.2 36 rfl).trans ((hF459.2 36 rfl).trans ((hF396.2 36 rfl).trans ((hF65.2 36 rfl).trans ((hF35.2 36 rfl).trans (hF7.2 36 rfl)))))) _)]; rw [show r391 = G59 13 by omega]; omega) a536 (by omega) (by omega) rfl (by omega) (by omega) (by omega) (by omega) rfl
                                  have sf589 : NdM A581 (nd) (nd1) (sy) := NdM_st eA581 (by decide) sf527
                                  have sf590 : wP A581 (sy2_492) pb (18) (Vs) (r487) (nd1) (nd2_491) (sy1) (sy2_492) := wP_ag (Sg_ne eA581 rfl) (Qg_ne eA581 rfl) (by omega) (by omega) (Ax_ag (Ag_ne eA581 rfl)) a536
                                  have sf591 : NX A581 (r487) := NX_r eA581 (by decide) a537
                                  have sf592 : NdM A581 (nd1) (nd2_491) (sy1) := NdM_st eA581 (by decide) a539
                                  have ec593 : ecn A581 (G485 31) = ec2_496 := (ecn_e ((congrFun eA581 15).trans (uA_ne (by decide)))).trans e511
                                  refine jx_inc (pc_q := 122) (l_q := jSto1 L453 1 (.int (i32 ((many + (1)))))) (x := many) rfl gL453_1 (by decide) rfl rfl ?_
                                  obtain ⟨L594, eL594⟩ : ∃ q, q = jSto1 L453 1 (.int (i32 ((many + (1))))) := ⟨_, rfl⟩
                                  rw [← eL594]
                                  have gL594_0 : jGet L594 0 = some (.ref 66) := eL594 ▸ jg_ne (by decide) gL453_0 rfl
                                  have gL594_2 : jGet L594 2 = some (.int (i32 (r391))) := eL594 ▸ jg_ne (by decide) gL453_2 rfl
                                  have gL594_1 : jGet L594 1 = some (.int (i32 ((many + (1))))) := eL594 ▸ jg_eq
                                  refine jx_go (tg := 19) rfl rfl ?_
                                  exact ih19 _ (by omega) L594 G485 A581 ((many + (1))) (ln2_488) (at2_489) (fk2_490) (nd2_491) (sy2_492) (na2_493) (lf2_495) (ec2_496) rfl gL594_0 gL594_1 hW582 hF583 hP585 hS586 hV587 ((e503)) ((e504)) ((e505)) ((e506)) ((e507)) ((e508)) ((congrFun ((congrFun eA581 3).trans (uA_ne (by decide))) _).trans (e510)) (ec593) (Eq.trans (show G485 29 = vi2_494 from (e509)) (by omega)) (by omega) (by omega) (by omega) (by omega) (by omega) (by omega) (by omega) (by omega) (by omega) (by omega) (by omega) (by omega) (sf588) (by omega) ((NdM_w (NdM_app (sy := sy) sf589 sf592 (by omega) (by omega) (by omega)) (by omega) (by omega) (by omega)))
                              · have _q := h484
                                exact absurd h484 (by omega)
                          · have _q : True := trivial
                            refine jx_ld (pc_q := 101) (l_q := L453) (st_q := [.ref 66]) rfl (jl_aloadn gL453_0) ?_
                            refine jx_vr (pc_q := 104) (as := []) (st := []) rfl rfl rfl rfl ⟨rfl, rfl, Nat.le_of_ble_eq_true rfl⟩ rfl rfl (c_bad (dd := d) (hd := by omega) (hW := hW458)  (fk := fk2_457) (e_fk := show G454 16 = fk2_457 from (e461))    ) (fun o V_q hq => ?_)
                            obtain ⟨r595, rfl, rfl, b596, q597⟩ := hq
                            refine .inr ⟨_, rfl, ?_⟩
                            rcases q597 with ⟨rfl, a598⟩ | ⟨rfl, a599⟩
                            · have _q : True := trivial
                              refine jx_if_eq (pc_q := 107) (tg := 108) rfl rfl rfl (by decide) (by decide) (fun h600 => ?_) (fun h600 => ?_)
                              · have _q := h600
                                exact absurd h600 (by omega)
                              · have _q := h600
                                refine jx_rt (v := none) rfl rfl rfl rfl rfl rfl ?_
                                exact ⟨_, _, ln2_456, at2_392, fk2_457, nd1, sy1, na1, vi, A 3 (ln2_456).toNat, ec1, rfl, rfl, hW458, hF463, hP464, hS465, hV466, (e460), ((hF459.1 10 rfl).trans (e398)), (e461), ((hF459.1 31 rfl).trans ((hF396.1 31 rfl).trans ((hF65.1 31 rfl).trans ((hF35.1 31 rfl).trans ((hF7.1 31 rfl).trans (ex_nd1)))))), ((hF459.1 19 rfl).trans ((hF396.1 19 rfl).trans ((hF65.1 19 rfl).trans ((hF35.1 19 rfl).trans ((hF7.1 19 rfl).trans (ex_sy1)))))), ((hF459.1 28 rfl).trans ((hF396.1 28 rfl).trans ((hF65.1 28 rfl).trans ((hF35.1 28 rfl).trans ((hF7.1 28 rfl).trans (ex_na1)))))), ((hF459.1 29 rfl).trans ((hF396.1 29 rfl).trans ((hF65.1 29 rfl).trans ((hF35.1 29 rfl).trans ((hF7.1 29 rfl).trans (fx_29)))))), (congrFun ((hF459.2 3 rfl).trans ((hF396.2 3 rfl).trans ((hF65.2 3 rfl).trans ((hF35.2 3 rfl).trans ((hF7.2 3 rfl).trans (hFx.2 3 rfl)))))) _), ec469, by omega, by omega, by omega, by omega, by omega, by omega, by first | exact Or.inl (by omega)⟩
                            · have _q : True := trivial
                              exfalso
                              omega
                      · have _q := h388
                        refine jx_ld (pc_q := 81) (l_q := L) (st_q := [.ref 66]) rfl (jl_aloadn gL_0) ?_
                        refine jx_ar (pc_q := 82) (st_q := [.int (i32 (1)), .ref 66]) rfl rfl rfl rfl ?_
                        refine jx_ld (pc_q := 83) (l_q := L) (st_q := [.ref 66, .int (i32 (1)), .ref 66]) rfl (jl_aloadn gL_0) ?_
                        have b601 : (-3000 : Int) ≤ G59 12 ∧ G59 12 ≤ 3002 := hW64.1 12
                        refine jr_get (pc_q := 86) (i := 12) (v := .int (i32 (G59 12))) rfl rfl (by decide) rfl rfl ?_
                        refine jx_vr (pc_q := 89) (as := [.int (i32 (1)), .int (i32 (G59 12))]) (st := []) rfl rfl rfl rfl ⟨rfl, rfl, Nat.le_of_ble_eq_true rfl⟩ rfl rfl (c_fail (dd := d) (hd := by omega) (hW := hW64) (kind := 1) (place := G59 12) (fk := fk2_63) (e_fk := show G59 16 = fk2_63 from (e68))  (h_kind := ⟨(by decide), (by decide)⟩) (h_place := ⟨(Int.le_trans (by decide : (-2147483648 : Int) ≤ -3000) b601.1), (Int.le_trans b601.2 (by decide : (3002 : Int) ≤ 2147483647))⟩)  (p_0 := by omega) (p_1 := by omega)) (fun o V_q hq => ?_)
                        obtain ⟨G602, A603, fk2_604, rfl, rfl, hW605, hF606, e607, p608, -⟩ := hq
                        have hF610 := Fr_tr hF72 hF606 (Fr_sub (by decide)) (Fr_sub (by decide))
                        have hP611 := Pf_f hP73 hF606 (by decide)
                        have hS612 := Fx_f hS74 hF606 (by decide)
                        have hV613 := Fx_f hV75 hF606 (by decide)
                        have sf614 : wB A603 Vs pb (nd) (nd1) (sy) (sy1) := (show A603 = A60 from funext (fun k => hF606.2 k rfl)) ▸ sf76
                        have sf615 : NdM A603 (nd) (nd1) (sy) := NdM_f hF606 (by decide) sf77
                        have ec616 : ecn A603 (G602 31) = ec1 := (ecn_f (hF606.2 15 rfl) (hF606.1 31 rfl)).trans ec78
                        have bfk2_604 : (0 : Int) ≤ fk2_604 ∧ fk2_604 ≤ 6 := e607 ▸ hW605.1 16
                        refine .inl ⟨rfl, ?_⟩
                        refine jx_ld (pc_q := 90) (l_q := L) (st_q := [.ref 66]) rfl (jl_aloadn gL_0) ?_
                        refine jx_ar (pc_q := 91) (st_q := [.int (i32 (0)), .ref 66]) rfl rfl rfl rfl ?_
                        refine jx_ar (pc_q := 92) (st_q := [.int (i32 (5)), .int (i32 (0)), .ref 66]) rfl rfl rfl rfl ?_
                        refine jx_vr (pc_q := 95) (as := [.int (i32 (0)), .int (i32 (5))]) (st := []) rfl rfl rfl rfl ⟨rfl, rfl, Nat.le_of_ble_eq_true rfl⟩ rfl rfl (c_needNumber2 (dd := d) (hd := by omega) (hW := hW605) (lo := 0) (hi := 5) (ln := ln1) (e_ln := show G602 9 = ln1 from ((hF606.1 9 rfl).trans ((hF65.1 9 rfl).trans ((hF35.1 9 rfl).trans ((hF7.1 9 rfl).trans (ex_ln1)))))) (le := A 4 (ln1).toNat) (e_le := show A603 4 (ln1).toNat = A 4 (ln1).toNat from (congrFun ((hF606.2 4 rfl).trans ((hF65.2 4 rfl).trans ((hF35.2 4 rfl).trans ((hF7.2 4 rfl).trans (hFx.2 4 rfl))))) _)) (at0 := at2_61) (e_at0 := show G602 10 = at2_61 from ((hF606.1 10 rfl).trans (e66))) (fk := fk2_604) (e_fk := show G602 16 = fk2_604 from (e607)) (tk0 := tk2_62) (e_tk0 := show G602 11 = tk2_62 from ((hF606.1 11 rfl).trans (e67))) (tn := G59 13) (e_tn := show G602 13 = G59 13 from (hF606.1 13 rfl))  (h_lo := ⟨(by decide), (by decide)⟩) (h_hi := ⟨(by decide), (by decide)⟩)  (p_0 := by omega)) (fun o V_q hq => ?_)
                        obtain ⟨G617, A618, r619, at2_620, tk2_621, fk2_622, rfl, rfl, hW623, hF624, b625, e626, e627, e628, p629, p630, q631⟩ := hq
                        have hF632 := Fr_tr hF610 hF624 (Fr_sub (by decide)) (Fr_sub (by decide))
                        have hP633 := Pf_f hP611 hF624 (by decide)
                        have hS634 := Fx_f hS612 hF624 (by decide)
                        have hV635 := Fx_f hV613 hF624 (by decide)
                        have sf636 : wB A618 Vs pb (nd) (nd1) (sy) (sy1) := (show A618 = A603 from funext (fun k => hF624.2 k rfl)) ▸ sf614
                        have sf637 : NdM A618 (nd) (nd1) (sy) := NdM_f hF624 (by decide) sf615
                        have ec638 : ecn A618 (G617 31) = ec1 := (ecn_f (hF624.2 15 rfl) (hF624.1 31 rfl)).trans ec616
                        have bat2_620 : (0 : Int) ≤ at2_620 ∧ at2_620 ≤ 3002 := e626 ▸ hW623.1 10
                        have ztk2_621 := tz_b tk2_621
                        have btk2_621 : (0 : Int) ≤ tk2_621 ∧ tk2_621 ≤ 5 := e627 ▸ hW623.1 11
                        have bfk2_622 : (0 : Int) ≤ fk2_622 ∧ fk2_622 ≤ 6 := e628 ▸ hW623.1 16
                        refine .inr ⟨_, rfl, ?_⟩
                        rcases q631 with ⟨a639, a640, a641, a642⟩ | ⟨a643, a644, a645, a646, a647, a648, a649⟩
                        · have _q : True := trivial
                          refine jx_ld (pc_q := 96) (l_q := jSto1 L 2 (.int (i32 (r619)))) (st_q := []) rfl rfl ?_
                          obtain ⟨L650, eL650⟩ : ∃ q, q = jSto1 L 2 (.int (i32 (r619))) := ⟨_, rfl⟩
                          rw [← eL650]
                          have gL650_0 : jGet L650 0 = some (.ref 66) := eL650 ▸ jg_ne (by decide) gL_0 rfl
                          have gL650_1 : jGet L650 1 = some (.int (i32 (many))) := eL650 ▸ jg_ne (by decide) gL_1 rfl
                          have gL650_2 : jGet L650 2 = some (.int (i32 (r619))) := eL650 ▸ jg_eq
                          refine jx_ld (pc_q := 97) (l_q := L650) (st_q := [.ref 66]) rfl (jl_aloadn gL650_0) ?_
                          refine jx_vr (pc_q := 100) (as := []) (st := []) rfl rfl rfl rfl ⟨rfl, rfl, Nat.le_of_ble_eq_true rfl⟩ rfl rfl (c_endLine (dd := d) (hd := by omega) (hW := hW623)  (ln := ln1) (e_ln := show G617 9 = ln1 from ((hF624.1 9 rfl).trans ((hF606.1 9 rfl).trans ((hF65.1 9 rfl).trans ((hF35.1 9 rfl).trans ((hF7.1 9 rfl).trans (ex_ln1))))))) (li := li) (e_li := show G617 3 = li from ((hF624.1 3 rfl).trans ((hF606.1 3 rfl).trans ((hF65.1 3 rfl).trans ((hF35.1 3 rfl).trans ((hF7.1 3 rfl).trans ((hFx.1 3 rfl).trans (e_li)))))))) (fk := fk2_622) (e_fk := show G617 16 = fk2_622 from (e628)) (tk0 := tk2_621) (e_tk0 := show G617 11 = tk2_621 from (e627))    (p_0 := by omega)) (fun o V_q hq => ?_)
                          obtain ⟨G651, A652, ln2_653, fk2_654, rfl, rfl, hW655, hF656, e657, e658, q659⟩ := hq
                          have hF660 := Fr_tr hF632 hF656 (Fr_sub (by decide)) (Fr_sub (by decide))
                          have hP661 := Pf_f hP633 hF656 (by decide)
                          have hS662 := Fx_f hS634 hF656 (by decide)
                          have hV663 := Fx_f hV635 hF656 (by decide)
                          have sf664 : wB A652 Vs pb (nd) (nd1) (sy) (sy1) := (show A652 = A618 from funext (fun k => hF656.2 k rfl)) ▸ sf636
                          have sf665 : NdM A652 (nd) (nd1) (sy) := NdM_f hF656 (by decide) sf637
                          have ec666 : ecn A652 (G651 31) = ec1 := (ecn_f (hF656.2 15 rfl) (hF656.1 31 rfl)).trans ec638
                          have bln2_653 : (0 : Int) ≤ ln2_653 ∧ ln2_653 ≤ 3000 := e657 ▸ hW655.1 9
                          have bfk2_654 : (0 : Int) ≤ fk2_654 ∧ fk2_654 ≤ 6 := e658 ▸ hW655.1 16
                          refine .inl ⟨rfl, ?_⟩
                          rcases q659 with ⟨a667, a668, a669, a670, a671⟩ | ⟨a672, a673⟩
                          · have _q : True := trivial
                            exfalso
                            omega
                          · have _q : True := trivial
                            refine jx_ld (pc_q := 101) (l_q := L650) (st_q := [.ref 66]) rfl (jl_aloadn gL650_0) ?_
                            refine jx_vr (pc_q := 104) (as := []) (st := []) rfl rfl rfl rfl ⟨rfl, rfl, Nat.le_of_ble_eq_true rfl⟩ rfl rfl (c_bad (dd := d) (hd := by omega) (hW := hW655)  (fk := fk2_654) (e_fk := show G651 16 = fk2_654 from (e658))    ) (fun o V_q hq => ?_)
                            obtain ⟨r674, rfl, rfl, b675, q676⟩ := hq
                            refine .inr ⟨_, rfl, ?_⟩
                            rcases q676 with ⟨rfl, a677⟩ | ⟨rfl, a678⟩
                            · have _q : True := trivial
                              refine jx_if_eq (pc_q := 107) (tg := 108) rfl rfl rfl (by decide) (by decide) (fun h679 => ?_) (fun h679 => ?_)
                              · have _q := h679
                                exact absurd h679 (by omega)
                              · have _q := h679
                                refine jx_rt (v := none) rfl rfl rfl rfl rfl rfl ?_
                                exact ⟨_, _, ln2_653, at2_620, fk2_654, nd1, sy1, na1, vi, A 3 (ln2_653).toNat, ec1, rfl, rfl, hW655, hF660, hP661, hS662, hV663, (e657), ((hF656.1 10 rfl).trans (e626)), (e658), ((hF656.1 31 rfl).trans ((hF624.1 31 rfl).trans ((hF606.1 31 rfl).trans ((hF65.1 31 rfl).trans ((hF35.1 31 rfl).trans ((hF7.1 31 rfl).trans (ex_nd1))))))), ((hF656.1 19 rfl).trans ((hF624.1 19 rfl).trans ((hF606.1 19 rfl).trans ((hF65.1 19 rfl).trans ((hF35.1 19 rfl).trans ((hF7.1 19 rfl).trans (ex_sy1))))))), ((hF656.1 28 rfl).trans ((hF624.1 28 rfl).trans ((hF606.1 28 rfl).trans ((hF65.1 28 rfl).trans ((hF35.1 28 rfl).trans ((hF7.1 28 rfl).trans (ex_na1))))))), ((hF656.1 29 rfl).trans ((hF624.1 29 rfl).trans ((hF606.1 29 rfl).trans ((hF65.1 29 rfl).trans ((hF35.1 29 rfl).trans ((hF7.1 29 rfl).trans (fx_29))))))), (congrFun ((hF656.2 3 rfl).trans ((hF624.2 3 rfl).trans ((hF606.2 3 rfl).trans ((hF65.2 3 rfl).trans ((hF35.2 3 rfl).trans ((hF7.2 3 rfl).trans (hFx.2 3 rfl))))))) _), ec666, by omega, by omega, by omega, by omega, by omega, by omega, by first | exact Or.inl (by omega)⟩
                            · have _q : True := trivial
                              exfalso
                              omega
                        · have _q : True := trivial
                          exfalso
                          omega
                  · have _q : True := trivial
                    refine jx_if_eq (pc_q := 68) (tg := 89) rfl rfl rfl (by decide) (by decide) (fun h680 => ?_) (fun h680 => ?_)
                    · have _q := h680
                      refine jx_ld (pc_q := 90) (l_q := L) (st_q := [.ref 66]) rfl (jl_aloadn gL_0) ?_
                      refine jx_ar (pc_q := 91) (st_q := [.int (i32 (0)), .ref 66]) rfl rfl rfl rfl ?_
                      refine jx_ar (pc_q := 92) (st_q := [.int (i32 (5)), .int (i32 (0)), .ref 66]) rfl rfl rfl rfl ?_
                      refine jx_vr (pc_q := 95) (as := [.int (i32 (0)), .int (i32 (5))]) (st := []) rfl rfl rfl rfl ⟨rfl, rfl, Nat.le_of_ble_eq_true rfl⟩ rfl rfl (c_needNumber2 (dd := d) (hd := by omega) (hW := hW64) (lo := 0) (hi := 5) (ln := ln1) (e_ln := show G59 9 = ln1 from ((hF65.1 9 rfl).trans ((hF35.1 9 rfl).trans ((hF7.1 9 rfl).trans (ex_ln1))))) (le := A 4 (ln1).toNat) (e_le := show A60 4 (ln1).toNat = A 4 (ln1).toNat from (congrFun ((hF65.2 4 rfl).trans ((hF35.2 4 rfl).trans ((hF7.2 4 rfl).trans (hFx.2 4 rfl)))) _)) (at0 := at2_61) (e_at0 := show G59 10 = at2_61 from (e66)) (fk := fk2_63) (e_fk := show G59 16 = fk2_63 from (e68)) (tk0 := tk2_62) (e_tk0 := show G59 11 = tk2_62 from (e67)) (tn := G59 13) (e_tn := show G59 13 = G59 13 from rfl)  (h_lo := ⟨(by decide), (by decide)⟩) (h_hi := ⟨(by decide), (by decide)⟩)  (p_0 := by omega)) (fun o V_q hq => ?_)
                      obtain ⟨G681, A682, r683, at2_684, tk2_685, fk2_686, rfl, rfl, hW687, hF688, b689, e690, e691, e692, p693, p694, q695⟩ := hq
                      have hF696 := Fr_tr hF72 hF688 (Fr_sub (by decide)) (Fr_sub (by decide))
                      have hP697 := Pf_f hP73 hF688 (by decide)
                      have hS698 := Fx_f hS74 hF688 (by decide)
                      have hV699 := Fx_f hV75 hF688 (by decide)
                      have sf700 : wB A682 Vs pb (nd) (nd1) (sy) (sy1) := (show A682 = A60 from funext (fun k => hF688.2 k rfl)) ▸ sf76
                      have sf701 : NdM A682 (nd) (nd1) (sy) := NdM_f hF688 (by decide) sf77
                      have ec702 : ecn A682 (G681 31) = ec1 := (ecn_f (hF688.2 15 rfl) (hF688.1 31 rfl)).trans ec78
                      have bat2_684 : (0 : Int) ≤ at2_684 ∧ at2_684 ≤ 3002 := e690 ▸ hW687.1 10
                      have ztk2_685 := tz_b tk2_685
                      have btk2_685 : (0 : Int) ≤ tk2_685 ∧ tk2_685 ≤ 5 := e691 ▸ hW687.1 11
                      have bfk2_686 : (0 : Int) ≤ fk2_686 ∧ fk2_686 ≤ 6 := e692 ▸ hW687.1 16
                      refine .inr ⟨_, rfl, ?_⟩
                      rcases q695 with ⟨a703, a704, a705, a706⟩ | ⟨a707, a708, a709, a710, a711, a712, a713⟩
                      · have _q : True := trivial
                        refine jx_ld (pc_q := 96) (l_q := jSto1 L 2 (.int (i32 (r683)))) (st_q := []) rfl rfl ?_
                        obtain ⟨L714, eL714⟩ : ∃ q, q = jSto1 L 2 (.int (i32 (r683))) := ⟨_, rfl⟩
                        rw [← eL714]
                        have gL714_0 : jGet L714 0 = some (.ref 66) := eL714 ▸ jg_ne (by decide) gL_0 rfl
                        have gL714_1 : jGet L714 1 = some (.int (i32 (many))) := eL714 ▸ jg_ne (by decide) gL_1 rfl
                        have gL714_2 : jGet L714 2 = some (.int (i32 (r683))) := eL714 ▸ jg_eq
                        refine jx_ld (pc_q := 97) (l_q := L714) (st_q := [.ref 66]) rfl (jl_aloadn gL714_0) ?_
                        refine jx_vr (pc_q := 100) (as := []) (st := []) rfl rfl rfl rfl ⟨rfl, rfl, Nat.le_of_ble_eq_true rfl⟩ rfl rfl (c_endLine (dd := d) (hd := by omega) (hW := hW687)  (ln := ln1) (e_ln := show G681 9 = ln1 from ((hF688.1 9 rfl).trans ((hF65.1 9 rfl).trans ((hF35.1 9 rfl).trans ((hF7.1 9 rfl).trans (ex_ln1)))))) (li := li) (e_li := show G681 3 = li from ((hF688.1 3 rfl).trans ((hF65.1 3 rfl).trans ((hF35.1 3 rfl).trans ((hF7.1 3 rfl).trans ((hFx.1 3 rfl).trans (e_li))))))) (fk := fk2_686) (e_fk := show G681 16 = fk2_686 from (e692)) (tk0 := tk2_685) (e_tk0 := show G681 11 = tk2_685 from (e691))    (p_0 := by omega)) (fun o V_q hq => ?_)
                        obtain ⟨G715, A716, ln2_717, fk2_718, rfl, rfl, hW719, hF720, e721, e722, q723⟩ := hq
                        have hF724 := Fr_tr hF696 hF720 (Fr_sub (by decide)) (Fr_sub (by decide))
                        have hP725 := Pf_f hP697 hF720 (by decide)
                        have hS726 := Fx_f hS698 hF720 (by decide)
                        have hV727 := Fx_f hV699 hF720 (by decide)
                        have sf728 : wB A716 Vs pb (nd) (nd1) (sy) (sy1) := (show A716 = A682 from funext (fun k => hF720.2 k rfl)) ▸ sf700
                        have sf729 : NdM A716 (nd) (nd1) (sy) := NdM_f hF720 (by decide) sf701
                        have ec730 : ecn A716 (G715 31) = ec1 := (ecn_f (hF720.2 15 rfl) (hF720.1 31 rfl)).trans ec702
                        have bln2_717 : (0 : Int) ≤ ln2_717 ∧ ln2_717 ≤ 3000 := e721 ▸ hW719.1 9
                        have bfk2_718 : (0 : Int) ≤ fk2_718 ∧ fk2_718 ≤ 6 := e722 ▸ hW719.1 16
                        refine .inl ⟨rfl, ?_⟩
                        rcases q723 with ⟨a731, a732, a733, a734, a735⟩ | ⟨a736, a737⟩
                        · have _q : True := trivial
                          exfalso
                          omega
                        · have _q : True := trivial
                          refine jx_ld (pc_q := 101) (l_q := L714) (st_q := [.ref 66]) rfl (jl_aloadn gL714_0) ?_
                          refine jx_vr (pc_q := 104) (as := []) (st := []) rfl rfl rfl rfl ⟨rfl, rfl, Nat.le_of_ble_eq_true rfl⟩ rfl rfl (c_bad (dd := d) (hd := by omega) (hW := hW719)  (fk := fk2_718) (e_fk := show G715 16 = fk2_718 from (e722))    ) (fun o V_q hq => ?_)
                          obtain ⟨r738, rfl, rfl, b739, q740⟩ := hq
                          refine .inr ⟨_, rfl, ?_⟩
                          rcases q740 with ⟨rfl, a741⟩ | ⟨rfl, a742⟩
                          · have _q : True := trivial
                            refine jx_if_eq (pc_q := 107) (tg := 108) rfl rfl rfl (by decide) (by decide) (fun h743 => ?_) (fun h743 => ?_)
                            · have _q := h743
                              exact absurd h743 (by omega)
                            · have _q := h743
                              refine jx_rt (v := none) rfl rfl rfl rfl rfl rfl ?_
                              exact ⟨_, _, ln2_717, at2_684, fk2_718, nd1, sy1, na1, vi, A 3 (ln2_717).toNat, ec1, rfl, rfl, hW719, hF724, hP725, hS726, hV727, (e721), ((hF720.1 10 rfl).trans (e690)), (e722), ((hF720.1 31 rfl).trans ((hF688.1 31 rfl).trans ((hF65.1 31 rfl).trans ((hF35.1 31 rfl).trans ((hF7.1 31 rfl).trans (ex_nd1)))))), ((hF720.1 19 rfl).trans ((hF688.1 19 rfl).trans ((hF65.1 19 rfl).trans ((hF35.1 19 rfl).trans ((hF7.1 19 rfl).trans (ex_sy1)))))), ((hF720.1 28 rfl).trans ((hF688.1 28 rfl).trans ((hF65.1 28 rfl).trans ((hF35.1 28 rfl).trans ((hF7.1 28 rfl).trans (ex_na1)))))), ((hF720.1 29 rfl).trans ((hF688.1 29 rfl).trans ((hF65.1 29 rfl).trans ((hF35.1 29 rfl).trans ((hF7.1 29 rfl).trans (fx_29)))))), (congrFun ((hF720.2 3 rfl).trans ((hF688.2 3 rfl).trans ((hF65.2 3 rfl).trans ((hF35.2 3 rfl).trans ((hF7.2 3 rfl).trans (hFx.2 3 rfl)))))) _), ec730, by omega, by omega, by omega, by omega, by omega, by omega, by first | exact Or.inl (by omega)⟩
                          · have _q : True := trivial
                            exfalso
                            omega
                      · have _q : True := trivial
                        have pz744 : at2_61 + tz tk2_685 ≤ at2_684 := by omega
                        refine jx_ld (pc_q := 96) (l_q := jSto1 L 2 (.int (i32 (r683)))) (st_q := []) rfl rfl ?_
                        obtain ⟨L745, eL745⟩ : ∃ q, q = jSto1 L 2 (.int (i32 (r683))) := ⟨_, rfl⟩
                        rw [← eL745]
                        have gL745_0 : jGet L745 0 = some (.ref 66) := eL745 ▸ jg_ne (by decide) gL_0 rfl
                        have gL745_1 : jGet L745 1 = some (.int (i32 (many))) := eL745 ▸ jg_ne (by decide) gL_1 rfl
                        have gL745_2 : jGet L745 2 = some (.int (i32 (r683))) := eL745 ▸ jg_eq
                        refine jx_ld (pc_q := 97) (l_q := L745) (st_q := [.ref 66]) rfl (jl_aloadn gL745_0) ?_
                        refine jx_vr (pc_q := 100) (as := []) (st := []) rfl rfl rfl rfl ⟨rfl, rfl, Nat.le_of_ble_eq_true rfl⟩ rfl rfl (c_endLine (dd := d) (hd := by omega) (hW := hW687)  (ln := ln1) (e_ln := show G681 9 = ln1 from ((hF688.1 9 rfl).trans ((hF65.1 9 rfl).trans ((hF35.1 9 rfl).trans ((hF7.1 9 rfl).trans (ex_ln1)))))) (li := li) (e_li := show G681 3 = li from ((hF688.1 3 rfl).trans ((hF65.1 3 rfl).trans ((hF35.1 3 rfl).trans ((hF7.1 3 rfl).trans ((hFx.1 3 rfl).trans (e_li))))))) (fk := fk2_686) (e_fk := show G681 16 = fk2_686 from (e692)) (tk0 := tk2_685) (e_tk0 := show G681 11 = tk2_685 from (e691))    (p_0 := by omega)) (fun o V_q hq => ?_)
                        obtain ⟨G746, A747, ln2_748, fk2_749, rfl, rfl, hW750, hF751, e752, e753, q754⟩ := hq
                        have hF755 := Fr_tr hF696 hF751 (Fr_sub (by decide)) (Fr_sub (by decide))
                        have hP756 := Pf_f hP697 hF751 (by decide)
                        have hS757 := Fx_f hS698 hF751 (by decide)
                        have hV758 := Fx_f hV699 hF751 (by decide)
                        have sf759 : wB A747 Vs pb (nd) (nd1) (sy) (sy1) := (show A747 = A682 from funext (fun k => hF751.2 k rfl)) ▸ sf700
                        have sf760 : NdM A747 (nd) (nd1) (sy) := NdM_f hF751 (by decide) sf701
                        have ec761 : ecn A747 (G746 31) = ec1 := (ecn_f (hF751.2 15 rfl) (hF751.1 31 rfl)).trans ec702
                        have bln2_748 : (0 : Int) ≤ ln2_748 ∧ ln2_748 ≤ 3000 := e752 ▸ hW750.1 9
                        have bfk2_749 : (0 : Int) ≤ fk2_749 ∧ fk2_749 ≤ 6 := e753 ▸ hW750.1 16
                        refine .inl ⟨rfl, ?_⟩
                        rcases q754 with ⟨a762, a763, a764, a765, a766⟩ | ⟨a767, a768⟩
                        · have _q : True := trivial
                          have b769 : (0 : Int) ≤ A 3 (ln2_748).toNat ∧ A 3 (ln2_748).toNat ≤ 3000 := hW.2 3 _
                          have lt770 : ln2_748 < li → A 4 (ln1).toNat < A 3 (ln2_748).toNat := fun hh => LT_nx (LT_ext (((hF751.1 3 rfl).trans ((hF688.1 3 rfl).trans ((hF65.1 3 rfl).trans ((hF35.1 3 rfl).trans ((hF7.1 3 rfl).trans (hFx.1 3 rfl))))))) (((hF751.2 3 rfl).trans ((hF688.2 3 rfl).trans ((hF65.2 3 rfl).trans ((hF35.2 3 rfl).trans ((hF7.2 3 rfl).trans (hFx.2 3 rfl))))))) (((hF751.2 4 rfl).trans ((hF688.2 4 rfl).trans ((hF65.2 4 rfl).trans ((hF35.2 4 rfl).trans ((hF7.2 4 rfl).trans (hFx.2 4 rfl))))))) i_LT) (show G746 3 = li from ((hF751.1 3 rfl).trans ((hF688.1 3 rfl).trans ((hF65.1 3 rfl).trans ((hF35.1 3 rfl).trans ((hF7.1 3 rfl).trans ((hFx.1 3 rfl).trans (e_li)))))))) (show A747 4 (ln1).toNat = A 4 (ln1).toNat from (congrFun ((hF751.2 4 rfl).trans ((hF688.2 4 rfl).trans ((hF65.2 4 rfl).trans ((hF35.2 4 rfl).trans ((hF7.2 4 rfl).trans (hFx.2 4 rfl)))))) _)) (show A747 3 (ln2_748).toNat = A 3 (ln2_748).toNat from (congrFun ((hF751.2 3 rfl).trans ((hF688.2 3 rfl).trans ((hF65.2 3 rfl).trans ((hF35.2 3 rfl).trans ((hF7.2 3 rfl).trans (hFx.2 3 rfl)))))) _)) (show ln2_748 = ln1 + 1 by omega) (by omega) hh
                          refine jx_ld (pc_q := 101) (l_q := L745) (st_q := [.ref 66]) rfl (jl_aloadn gL745_0) ?_
                          refine jx_vr (pc_q := 104) (as := []) (st := []) rfl rfl rfl rfl ⟨rfl, rfl, Nat.le_of_ble_eq_true rfl⟩ rfl rfl (c_bad (dd := d) (hd := by omega) (hW := hW750)  (fk := fk2_749) (e_fk := show G746 16 = fk2_749 from (e753))    ) (fun o V_q hq => ?_)
                          obtain ⟨r771, rfl, rfl, b772, q773⟩ := hq
                          refine .inr ⟨_, rfl, ?_⟩
                          rcases q773 with ⟨rfl, a774⟩ | ⟨rfl, a775⟩
                          · have _q : True := trivial
                            exfalso
                            omega
                          · have _q : True := trivial
                            refine jx_if_eq (pc_q := 107) (tg := 108) rfl rfl rfl (by decide) (by decide) (fun h776 => ?_) (fun h776 => ?_)
                            · have _q := h776
                              refine jx_ld (pc_q := 109) (l_q := L745) (st_q := [.ref 66]) rfl (jl_aloadn gL745_0) ?_
                              refine jr_get (pc_q := 112) (i := 55) (v := .ref 103) rfl rfl (by decide) rfl rfl ?_
                              refine jx_ld (pc_q := 113) (l_q := L745) (st_q := [.int (i32 (r683)), .ref 103]) rfl (jl_iloadn gL745_2) ?_
                              refine jx_ld (pc_q := 114) (l_q := L745) (st_q := [.ref 66, .int (i32 (r683)), .ref 103]) rfl (jl_aloadn gL745_0) ?_
                              refine jx_ar (pc_q := 115) (st_q := [.int (i32 (2)), .ref 66, .int (i32 (r683)), .ref 103]) rfl rfl rfl rfl ?_
                              refine jx_vr (pc_q := 118) (as := [.int (i32 (2))]) (st := [.int (i32 (r683)), .ref 103]) rfl rfl rfl rfl ⟨rfl, rfl, Nat.le_of_ble_eq_true rfl⟩ rfl rfl (RPw_all X 18 (dd := d) (hd := by omega) (hW := hW750) (lv := 2) (at0 := at2_684) (ln := ln2_748) (e_ln := show G746 9 = ln2_748 from (e752)) (li := li) (e_li := show G746 3 = li from ((hF751.1 3 rfl).trans ((hF688.1 3 rfl).trans ((hF65.1 3 rfl).trans ((hF35.1 3 rfl).trans ((hF7.1 3 rfl).trans ((hFx.1 3 rfl).trans (e_li)))))))) (fk := fk2_749) (e_fk := show G746 16 = fk2_749 from (e753)) (nd := nd1) (e_nd := show G746 31 = nd1 from ((hF751.1 31 rfl).trans ((hF688.1 31 rfl).trans ((hF65.1 31 rfl).trans ((hF35.1 31 rfl).trans ((hF7.1 31 rfl).trans (ex_nd1))))))) (sy := sy1) (e_sy := show G746 19 = sy1 from ((hF751.1 19 rfl).trans ((hF688.1 19 rfl).trans ((hF65.1 19 rfl).trans ((hF35.1 19 rfl).trans ((hF7.1 19 rfl).trans (ex_sy1))))))) (na := na1) (e_na := show G746 28 = na1 from ((hF751.1 28 rfl).trans ((hF688.1 28 rfl).trans ((hF65.1 28 rfl).trans ((hF35.1 28 rfl).trans ((hF7.1 28 rfl).trans (ex_na1))))))) (vi := vi) (e_vi := show G746 29 = vi from ((hF751.1 29 rfl).trans ((hF688.1 29 rfl).trans ((hF65.1 29 rfl).trans ((hF35.1 29 rfl).trans ((hF7.1 29 rfl).trans (fx_29))))))) (lf := A 3 (ln2_748).toNat) (e_lf := show A747 3 (ln2_748).toNat = A 3 (ln2_748).toNat from (congrFun ((hF751.2 3 rfl).trans ((hF688.2 3 rfl).trans ((hF65.2 3 rfl).trans ((hF35.2 3 rfl).trans ((hF7.2 3 rfl).trans (hFx.2 3 rfl)))))) _)) (ac := at2_684) (e_ac := show G746 10 = at2_684 from ((hF751.1 10 rfl).trans (e690))) (ec := ec1) (e_ec := show ecn A747 (G746 31) = ec1 from ec761) (i_LT := (LT_ext (((hF751.1 3 rfl).trans ((hF688.1 3 rfl).trans ((hF65.1 3 rfl).trans ((hF35.1 3 rfl).trans ((hF7.1 3 rfl).trans (hFx.1 3 rfl))))))) (((hF751.2 3 rfl).trans ((hF688.2 3 rfl).trans ((hF65.2 3 rfl).trans ((hF35.2 3 rfl).trans ((hF7.2 3 rfl).trans (hFx.2 3 rfl))))))) (((hF751.2 4 rfl).trans ((hF688.2 4 rfl).trans ((hF65.2 4 rfl).trans ((hF35.2 4 rfl).trans ((hF7.2 4 rfl).trans (hFx.2 4 rfl))))))) i_LT)) (i_SV := (SV_fx i_SV e_vi (show G746 29 = vi from ((hF751.1 29 rfl).trans ((hF688.1 29 rfl).trans ((hF65.1 29 rfl).trans ((hF35.1 29 rfl).trans ((hF7.1 29 rfl).trans (fx_29))))))) (by omega) hV758)) (i_PQ := (PQ_fx i_PQ hS757 (by omega) (hF755.2 29 rfl) (hF755.2 30 rfl))) (hvb := hvb) (h_lv := ⟨(by decide), (by decide)⟩)  (p_0 := by omega) (p_1 := by omega) (p_2 := by omega) (p_3 := by omega) (p_4 := by omega) (p_5 := by omega) (p_6 := by omega) (p_7 := by omega) (p_8 := by omega) (p_9 := by omega) (p_10 := by omega)) (fun o V_q hq => ?_)
                              obtain ⟨G777, A778, r779, ln2_780, at2_781, fk2_782, nd2_783, sy2_784, na2_785, vi2_786, lf2_787, ec2_788, rfl, rfl, hW789, hF790, hQ791, hQ792, hQ793, b794, e795, e796, e797, e798, e799, e800, e801, e802, e803, p804, p805, p806, p807, p808, p809, p810, p811, p812, q813⟩ := hq
                              have hF814 := Fr_tr hF755 hF790 (Fr_sub (by decide)) (Fr_sub (by decide))
                              have hP815 := Pf_tr hP756 hQ791 (by omega)
                              have hS816 := Fx_tr hS757 hQ792 (by omega)
                              have hV817 := Fx_tr hV758 hQ793 (by omega)
                              have sf818 : wB A778 Vs pb (nd) (nd1) (sy) (sy1) := wB_fx (fun k j hk hj => hQ791 k j hk (by omega)) (Fx_su hQ792 (by omega)) (Qg_fx (Fx_f (w := pb) Fx_rf hF790 (by decide)) (by omega)) (hF790.2 36 rfl) (by omega) sf759
                              have sf819 : NdM A778 (nd) (nd1) (sy) := NdM_pf hQ791 (by omega) (by omega) sf760
                              have bln2_780 : (0 : Int) ≤ ln2_780 ∧ ln2_780 ≤ 3000 := e795 ▸ hW789.1 9
                              have bat2_781 : (0 : Int) ≤ at2_781 ∧ at2_781 ≤ 3002 := e796 ▸ hW789.1 10
                              have bfk2_782 : (0 : Int) ≤ fk2_782 ∧ fk2_782 ≤ 6 := e797 ▸ hW789.1 16
                              have bnd2_783 : (0 : Int) ≤ nd2_783 ∧ nd2_783 ≤ 6999 := e798 ▸ hW789.1 31
                              have bsy2_784 : (0 : Int) ≤ sy2_784 ∧ sy2_784 ≤ 202 := e799 ▸ hW789.1 19
                              have bna2_785 : (0 : Int) ≤ na2_785 ∧ na2_785 ≤ 200 := e800 ▸ hW789.1 28
                              have bvi2_786 : (0 : Int) ≤ vi2_786 ∧ vi2_786 ≤ 202 := e801 ▸ hW789.1 29
                              have blf2_787 : (0 : Int) ≤ lf2_787 ∧ lf2_787 ≤ 3000 := e802 ▸ hW789.2 3 _
                              refine .inr ⟨_, rfl, ?_⟩
                              rcases q813 with ⟨a820, a821⟩ | ⟨a822, a823, a824, a825, a826, a827, a828, a829, a830, a831⟩
                              · have _q : True := trivial
                                refine jr_st (pc_q := 119) (i := 36) (m := 6) (z := r683) (y := r779) rfl (by decide) rfl (by decide) (by omega) (by omega) rfl ?_
                                have hW833 : Wk G777 (uA A778 36 (r683).toNat (r779)) := Wk_a hW789 (show (-2147483648 : Int) ≤ r779 by omega) (show r779 ≤ (2147483647 : Int) by omega)
                                have hF834 := Fr_a (z := r779) (k := 36) (n := (r683).toNat) hF814 (by decide)
                                obtain ⟨A832, eA832⟩ : ∃ q, q = uA A778 36 (r683).toNat (r779) := ⟨_, rfl⟩
                                rw [← eA832]
                                rw [← eA832] at hW833 hF834
                                have q835 : A832 36 (r683).toNat = r779 := by rw [eA832]; exact uA_eq
                                have hP836 : Pf nd A A832 := eA832 ▸ Pf_n hP815 rfl
                                have hS837 : Fx sr (sy) A A832 := eA832 ▸ Fx_n hS816 rfl
                                have hV838 : Fx [14] (vi) A A832 := eA832 ▸ Fx_n hV817 rfl
                                have sf839 : NdM A832 (nd) (nd1) (sy) := NdM_st eA832 (by decide) sf819
                                have ec840 : ecn A832 (G777 31) = ec2_788 := (ecn_e ((congrFun eA832 15).trans (uA_ne (by decide)))).trans e803
                                refine jx_inc (pc_q := 122) (l_q := jSto1 L745 1 (.int (i32 ((many + (1)))))) (x := many) rfl gL745_1 (by decide) rfl rfl ?_
                                obtain ⟨L841, eL841⟩ : ∃ q, q = jSto1 L745 1 (.int (i32 ((many + (1))))) := ⟨_, rfl⟩
                                rw [← eL841]
                                have gL841_0 : jGet L841 0 = some (.ref 66) := eL841 ▸ jg_ne (by decide) gL745_0 rfl
                                have gL841_2 : jGet L841 2 = some (.int (i32 (r683))) := eL841 ▸ jg_ne (by decide) gL745_2 rfl
                                have gL841_1 : jGet L841 1 = some (.int (i32 ((many + (1))))) := eL841 ▸ jg_eq
                                refine jx_go (tg := 19) rfl rfl ?_
                                refine jx_ld (pc_q := 20) (l_q := L841) (st_q := [.ref 66]) rfl (jl_aloadn gL841_0) ?_
                                refine jx_ar (pc_q := 21) (st_q := [.int (i32 (0)), .ref 66]) rfl rfl rfl rfl ?_
                                have b842 : (-1 : Int) ≤ A 5 (ln2_780).toNat ∧ A 5 (ln2_780).toNat ≤ 15 := hW.2 5 _
                                refine jx_vr (pc_q := 24) (as := [.int (i32 (0))]) (st := []) rfl rfl rfl rfl ⟨rfl, rfl, Nat.le_of_ble_eq_true rfl⟩ rfl rfl (c_isBelow (dd := d) (hd := by omega) (hW := hW833) (lv := 0) (ln := ln2_780) (e_ln := show G777 9 = ln2_780 from (e795)) (li := li) (e_li := show G777 3 = li from ((hF790.1 3 rfl).trans ((hF751.1 3 rfl).trans ((hF688.1 3 rfl).trans ((hF65.1 3 rfl).trans ((hF35.1 3 rfl).trans ((hF7.1 3 rfl).trans ((hFx.1 3 rfl).trans (e_li))))))))) (fk := fk2_782) (e_fk := show G777 16 = fk2_782 from (e797)) (ll := A 5 (ln2_780).toNat) (e_ll := show A832 5 (ln2_780).toNat = A 5 (ln2_780).toNat from (congrFun (((congrFun eA832 5).trans (uA_ne (by decide))).trans ((hF790.2 5 rfl).trans ((hF751.2 5 rfl).trans ((hF688.2 5 rfl).trans ((hF65.2 5 rfl).trans ((hF35.2 5 rfl).trans ((hF7.2 5 rfl).trans (hFx.2 5 rfl)))))))) _))  (h_lv := ⟨(by decide), (by decide)⟩)  (p_0 := by omega)) (fun o V_q hq => ?_)
                                obtain ⟨G843, A844, r845, fk2_846, rfl, rfl, hW847, hF848, b849, e850, q851⟩ := hq
                                have hF852 := Fr_tr hF834 hF848 (Fr_sub (by decide)) (Fr_sub (by decide))
                                have hP853 := Pf_f hP836 hF848 (by decide)
                                have hS854 := Fx_f hS837 hF848 (by decide)
                                have hV855 := Fx_f hV838 hF848 (by decide)
                                have sf856 : NdM A844 (nd) (nd1) (sy) := NdM_f hF848 (by decide) sf839
                                have ec857 : ecn A844 (G843 31) = ec2_788 := (ecn_f (hF848.2 15 rfl) (hF848.1 31 rfl)).trans ec840
                                have bfk2_846 : (0 : Int) ≤ fk2_846 ∧ fk2_846 ≤ 6 := e850 ▸ hW847.1 16
                                refine .inr ⟨_, rfl, ?_⟩
                                rcases q851 with ⟨rfl, a858, a859, a860, a861⟩ | ⟨rfl, a862⟩ | ⟨rfl, a863, a864, a865⟩
                                · have _q : True := trivial
                                  exfalso
                                  omega
                                · have _q : True := trivial
                                  refine jx_if_eq (pc_q := 27) (tg := 125) rfl rfl rfl (by decide) (by decide) (fun h866 => ?_) (fun h866 => ?_)
                                  · have _q := h866
                                    refine jx_ld (pc_q := 126) (l_q := L841) (st_q := [.ref 66]) rfl (jl_aloadn gL841_0) ?_
                                    refine jx_vr (pc_q := 129) (as := []) (st := []) rfl rfl rfl rfl ⟨rfl, rfl, Nat.le_of_ble_eq_true rfl⟩ rfl rfl (c_bad (dd := d) (hd := by omega) (hW := hW847)  (fk := fk2_846) (e_fk := show G843 16 = fk2_846 from (e850))    ) (fun o V_q hq => ?_)
                                    obtain ⟨r867, rfl, rfl, b868, q869⟩ := hq
                                    refine .inr ⟨_, rfl, ?_⟩
                                    rcases q869 with ⟨rfl, a870⟩ | ⟨rfl, a871⟩
                                    · have _q : True := trivial
                                      refine jx_if_ne (pc_q := 132) (tg := 142) rfl rfl rfl (by decide) (by decide) (fun h872 => ?_) (fun h872 => ?_)
                                      · have _q := h872
                                        refine jx_rt (v := none) rfl rfl rfl rfl rfl rfl ?_
                                        exact ⟨_, _, ln2_780, at2_781, fk2_846, nd2_783, sy2_784, na2_785, vi2_786, lf2_787, ec2_788, rfl, rfl, hW847, hF852, hP853, hS854, hV855, ((hF848.1 9 rfl).trans (e795)), ((hF848.1 10 rfl).trans (e796)), (e850), ((hF848.1 31 rfl).trans (e798)), ((hF848.1 19 rfl).trans (e799)), ((hF848.1 28 rfl).trans (e800)), ((hF848.1 29 rfl).trans (e801)), (congrFun ((hF848.2 3 rfl).trans ((congrFun eA832 3).trans (uA_ne (by decide)))) _).trans (e802), ec857, by omega, by omega, by omega, by omega, by omega, by omega, by first | exact Or.inl (by omega)⟩
                                      · have _q := h872
                                        exact absurd h872 (by omega)
                                    · have _q : True := trivial
                                      exfalso
                                      omega
                                  · have _q := h866
                                    exact absurd h866 (by omega)
                                · have _q : True := trivial
                                  exfalso
                                  omega
                              · have _q : True := trivial
                                refine jr_st (pc_q := 119) (i := 36) (m := 6) (z := r683) (y := r779) rfl (by decide) rfl (by decide) (by omega) (by omega) rfl ?_
                                have hW874 : Wk G777 (uA A778 36 (r683).toNat (r779)) := Wk_a hW789 (show (-2147483648 : Int) ≤ r779 by omega) (show r779 ≤ (2147483647 : Int) by omega)
                                have hF875 := Fr_a (z := r779) (k := 36) (n := (r683).toNat) hF814 (by decide)
                                obtain ⟨A873, eA873⟩ : ∃ q, q = uA A778 36 (r683).toNat (r779) := ⟨_, rfl⟩
                                rw [← eA873]
                                rw [← eA873] at hW874 hF875
                                have q876 : A873 36 (r683).toNat = r779 := by rw [eA873]; exact uA_eq
                                have hP877 : Pf nd A A873 := eA873 ▸ Pf_n hP815 rfl
                                have hS878 : Fx sr (sy) A A873 := eA873 ▸ Fx_n hS816 rfl
                                have hV879 : Fx [14] (vi) A A873 := eA873 ▸ Fx_n hV817 rfl
                                have sf880 : wB A873 Vs pb (nd) (nd2_783) (sy) (sy2_784) := wB_add eA873 sf818 (by omega) (by omega) (by omega) a828 (by omega) (by omega) rfl (by omega) (by omega) (by omega) (by omega) rfl
                                have sf881 : NdM A873 (nd) (nd1) (sy) := NdM_st eA873 (by decide) sf819
                                have sf882 : wP A873 (sy2_784) pb (18) (Vs) (r779) (nd1) (nd2_783) (sy1) (sy2_784) := wP_ag (Sg_ne eA873 rfl) (Qg_ne eA873 rfl) (by omega) (by omega) (Ax_ag (Ag_ne eA873 rfl)) a828
                                have sf883 : NX A873 (r779) := NX_r eA873 (by decide) a829
                                have sf884 : NdM A873 (nd1) (nd2_783) (sy1) := NdM_st eA873 (by decide) a831
                                have ec885 : ecn A873 (G777 31) = ec2_788 := (ecn_e ((congrFun eA873 15).trans (uA_ne (by decide)))).trans e803
                                refine jx_inc (pc_q := 122) (l_q := jSto1 L745 1 (.int (i32 ((many + (1)))))) (x := many) rfl gL745_1 (by decide) rfl rfl ?_
                                obtain ⟨L886, eL886⟩ : ∃ q, q = jSto1 L745 1 (.int (i32 ((many + (1))))) := ⟨_, rfl⟩
                                rw [← eL886]
                                have gL886_0 : jGet L886 0 = some (.ref 66) := eL886 ▸ jg_ne (by decide) gL745_0 rfl
                                have gL886_2 : jGet L886 2 = some (.int (i32 (r683))) := eL886 ▸ jg_ne (by decide) gL745_2 rfl
                                have gL886_1 : jGet L886 1 = some (.int (i32 ((many + (1))))) := eL886 ▸ jg_eq
                                refine jx_go (tg := 19) rfl rfl ?_
                                exact ih19 _ (by omega) L886 G777 A873 ((many + (1))) (ln2_780) (at2_781) (fk2_782) (nd2_783) (sy2_784) (na2_785) (lf2_787) (ec2_788) rfl gL886_0 gL886_1 hW874 hF875 hP877 hS878 hV879 ((e795)) ((e796)) ((e797)) ((e798)) ((e799)) ((e800)) ((congrFun ((congrFun eA873 3).trans (uA_ne (by decide))) _).trans (e802)) (ec885) (Eq.trans (show G777 29 = vi2_786 from (e801)) (by omega)) (by omega) (by omega) (by omega) (by omega) (by omega) (by omega) (by omega) (by omega) (by omega) (by omega) (by omega) (by omega) (sf880) (by omega) ((NdM_w (NdM_app (sy := sy) sf881 sf884 (by omega) (by omega) (by omega)) (by omega) (by omega) (by omega)))
                            · have _q := h776
                              exact absurd h776 (by omega)
                        · have _q : True := trivial
                          refine jx_ld (pc_q := 101) (l_q := L745) (st_q := [.ref 66]) rfl (jl_aloadn gL745_0) ?_
                          refine jx_vr (pc_q := 104) (as := []) (st := []) rfl rfl rfl rfl ⟨rfl, rfl, Nat.le_of_ble_eq_true rfl⟩ rfl rfl (c_bad (dd := d) (hd := by omega) (hW := hW750)  (fk := fk2_749) (e_fk := show G746 16 = fk2_749 from (e753))    ) (fun o V_q hq => ?_)
                          obtain ⟨r887, rfl, rfl, b888, q889⟩ := hq
                          refine .inr ⟨_, rfl, ?_⟩
                          rcases q889 with ⟨rfl, a890⟩ | ⟨rfl, a891⟩
                          · have _q : True := trivial
                            refine jx_if_eq (pc_q := 107) (tg := 108) rfl rfl rfl (by decide) (by decide) (fun h892 => ?_) (fun h892 => ?_)
                            · have _q := h892
                              exact absurd h892 (by omega)
                            · have _q := h892
                              refine jx_rt (v := none) rfl rfl rfl rfl rfl rfl ?_
                              exact ⟨_, _, ln2_748, at2_684, fk2_749, nd1, sy1, na1, vi, A 3 (ln2_748).toNat, ec1, rfl, rfl, hW750, hF755, hP756, hS757, hV758, (e752), ((hF751.1 10 rfl).trans (e690)), (e753), ((hF751.1 31 rfl).trans ((hF688.1 31 rfl).trans ((hF65.1 31 rfl).trans ((hF35.1 31 rfl).trans ((hF7.1 31 rfl).trans (ex_nd1)))))), ((hF751.1 19 rfl).trans ((hF688.1 19 rfl).trans ((hF65.1 19 rfl).trans ((hF35.1 19 rfl).trans ((hF7.1 19 rfl).trans (ex_sy1)))))), ((hF751.1 28 rfl).trans ((hF688.1 28 rfl).trans ((hF65.1 28 rfl).trans ((hF35.1 28 rfl).trans ((hF7.1 28 rfl).trans (ex_na1)))))), ((hF751.1 29 rfl).trans ((hF688.1 29 rfl).trans ((hF65.1 29 rfl).trans ((hF35.1 29 rfl).trans ((hF7.1 29 rfl).trans (fx_29)))))), (congrFun ((hF751.2 3 rfl).trans ((hF688.2 3 rfl).trans ((hF65.2 3 rfl).trans ((hF35.2 3 rfl).trans ((hF7.2 3 rfl).trans (hFx.2 3 rfl)))))) _), ec761, by omega, by omega, by omega, by omega, by omega, by omega, by first | exact Or.inl (by omega)⟩
                          · have _q : True := trivial
                            exfalso
                            omega
                    · have _q := h680
                      exact absurd h680 (by omega)
        · have _q : True := trivial
          refine jx_vr (pc_q := 41) (as := [.int (i32 (0))]) (st := []) rfl rfl rfl rfl ⟨rfl, rfl, Nat.le_of_ble_eq_true rfl⟩ rfl rfl (c_need (dd := d) (hd := by omega) (hW := hW34) (g := 0) (ln := ln1) (e_ln := show G29 9 = ln1 from ((hF35.1 9 rfl).trans ((hF7.1 9 rfl).trans (ex_ln1)))) (le := A 4 (ln1).toNat) (e_le := show A30 4 (ln1).toNat = A 4 (ln1).toNat from (congrFun ((hF35.2 4 rfl).trans ((hF7.2 4 rfl).trans (hFx.2 4 rfl))) _)) (at0 := at2_31) (e_at0 := show G29 10 = at2_31 from (e36)) (fk := fk2_5) (e_fk := show G29 16 = fk2_5 from ((hF35.1 16 rfl).trans (e9))) (tk0 := tk2_32) (e_tk0 := show G29 11 = tk2_32 from (e37))  (h_g := ⟨(by decide), (by decide)⟩)  (p_0 := by omega)) (fun o V_q hq => ?_)
          obtain ⟨G893, A894, at2_895, tk2_896, fk2_897, rfl, rfl, hW898, hF899, e900, e901, e902, p903, p904, q905⟩ := hq
          have hF906 := Fr_tr hF44 hF899 (Fr_sub (by decide)) (Fr_sub (by decide))
          have hP907 := Pf_f hP45 hF899 (by decide)
          have hS908 := Fx_f hS46 hF899 (by decide)
          have hV909 := Fx_f hV47 hF899 (by decide)
          have sf910 : wB A894 Vs pb (nd) (nd1) (sy) (sy1) := (show A894 = A30 from funext (fun k => hF899.2 k rfl)) ▸ sf48
          have sf911 : NdM A894 (nd) (nd1) (sy) := NdM_f hF899 (by decide) sf49
          have ec912 : ecn A894 (G893 31) = ec1 := (ecn_f (hF899.2 15 rfl) (hF899.1 31 rfl)).trans ec50
          have bat2_895 : (0 : Int) ≤ at2_895 ∧ at2_895 ≤ 3002 := e900 ▸ hW898.1 10
          have ztk2_896 := tz_b tk2_896
          have btk2_896 : (0 : Int) ≤ tk2_896 ∧ tk2_896 ≤ 5 := e901 ▸ hW898.1 11
          have bfk2_897 : (0 : Int) ≤ fk2_897 ∧ fk2_897 ≤ 6 := e902 ▸ hW898.1 16
          refine .inl ⟨rfl, ?_⟩
          rcases q905 with ⟨a913, a914, a915, a916⟩ | ⟨a917, a918, a919, a920⟩
          · have _q : True := trivial
            refine jx_ld (pc_q := 42) (l_q := L) (st_q := [.ref 66]) rfl (jl_aloadn gL_0) ?_
            refine jx_vr (pc_q := 45) (as := []) (st := []) rfl rfl rfl rfl ⟨rfl, rfl, Nat.le_of_ble_eq_true rfl⟩ rfl rfl (c_bad (dd := d) (hd := by omega) (hW := hW898)  (fk := fk2_897) (e_fk := show G893 16 = fk2_897 from (e902))    ) (fun o V_q hq => ?_)
            obtain ⟨r921, rfl, rfl, b922, q923⟩ := hq
            refine .inr ⟨_, rfl, ?_⟩
            rcases q923 with ⟨rfl, a924⟩ | ⟨rfl, a925⟩
            · have _q : True := trivial
              refine jx_if_ne (pc_q := 48) (tg := 89) rfl rfl rfl (by decide) (by decide) (fun h926 => ?_) (fun h926 => ?_)
              · have _q := h926
                refine jx_ld (pc_q := 90) (l_q := L) (st_q := [.ref 66]) rfl (jl_aloadn gL_0) ?_
                refine jx_ar (pc_q := 91) (st_q := [.int (i32 (0)), .ref 66]) rfl rfl rfl rfl ?_
                refine jx_ar (pc_q := 92) (st_q := [.int (i32 (5)), .int (i32 (0)), .ref 66]) rfl rfl rfl rfl ?_
                have b927 : (-2147483648 : Int) ≤ G893 13 ∧ G893 13 ≤ 2147483647 := hW898.1 13
                refine jx_vr (pc_q := 95) (as := [.int (i32 (0)), .int (i32 (5))]) (st := []) rfl rfl rfl rfl ⟨rfl, rfl, Nat.le_of_ble_eq_true rfl⟩ rfl rfl (c_needNumber2 (dd := d) (hd := by omega) (hW := hW898) (lo := 0) (hi := 5) (ln := ln1) (e_ln := show G893 9 = ln1 from ((hF899.1 9 rfl).trans ((hF35.1 9 rfl).trans ((hF7.1 9 rfl).trans (ex_ln1))))) (le := A 4 (ln1).toNat) (e_le := show A894 4 (ln1).toNat = A 4 (ln1).toNat from (congrFun ((hF899.2 4 rfl).trans ((hF35.2 4 rfl).trans ((hF7.2 4 rfl).trans (hFx.2 4 rfl)))) _)) (at0 := at2_895) (e_at0 := show G893 10 = at2_895 from (e900)) (fk := fk2_897) (e_fk := show G893 16 = fk2_897 from (e902)) (tk0 := tk2_896) (e_tk0 := show G893 11 = tk2_896 from (e901)) (tn := G893 13) (e_tn := show G893 13 = G893 13 from rfl)  (h_lo := ⟨(by decide), (by decide)⟩) (h_hi := ⟨(by decide), (by decide)⟩)  (p_0 := by omega)) (fun o V_q hq => ?_)
                obtain ⟨G928, A929, r930, at2_931, tk2_932, fk2_933, rfl, rfl, hW934, hF935, b936, e937, e938, e939, p940, p941, q942⟩ := hq
                have hF943 := Fr_tr hF906 hF935 (Fr_sub (by decide)) (Fr_sub (by decide))
                have hP944 := Pf_f hP907 hF935 (by decide)
                have hS945 := Fx_f hS908 hF935 (by decide)
                have hV946 := Fx_f hV909 hF935 (by decide)
                have sf947 : wB A929 Vs pb (nd) (nd1) (sy) (sy1) := (show A929 = A894 from funext (fun k => hF935.2 k rfl)) ▸ sf910
                have sf948 : NdM A929 (nd) (nd1) (sy) := NdM_f hF935 (by decide) sf911
                have ec949 : ecn A929 (G928 31) = ec1 := (ecn_f (hF935.2 15 rfl) (hF935.1 31 rfl)).trans ec912
                have bat2_931 : (0 : Int) ≤ at2_931 ∧ at2_931 ≤ 3002 := e937 ▸ hW934.1 10
                have ztk2_932 := tz_b tk2_932
                have btk2_932 : (0 : Int) ≤ tk2_932 ∧ tk2_932 ≤ 5 := e938 ▸ hW934.1 11
                have bfk2_933 : (0 : Int) ≤ fk2_933 ∧ fk2_933 ≤ 6 := e939 ▸ hW934.1 16
                refine .inr ⟨_, rfl, ?_⟩
                rcases q942 with ⟨a950, a951, a952, a953⟩ | ⟨a954, a955, a956, a957, a958, a959, a960⟩
                · have _q : True := trivial
                  refine jx_ld (pc_q := 96) (l_q := jSto1 L 2 (.int (i32 (r930)))) (st_q := []) rfl rfl ?_
                  obtain ⟨L961, eL961⟩ : ∃ q, q = jSto1 L 2 (.int (i32 (r930))) := ⟨_, rfl⟩
                  rw [← eL961]
                  have gL961_0 : jGet L961 0 = some (.ref 66) := eL961 ▸ jg_ne (by decide) gL_0 rfl
                  have gL961_1 : jGet L961 1 = some (.int (i32 (many))) := eL961 ▸ jg_ne (by decide) gL_1 rfl
                  have gL961_2 : jGet L961 2 = some (.int (i32 (r930))) := eL961 ▸ jg_eq
                  refine jx_ld (pc_q := 97) (l_q := L961) (st_q := [.ref 66]) rfl (jl_aloadn gL961_0) ?_
                  refine jx_vr (pc_q := 100) (as := []) (st := []) rfl rfl rfl rfl ⟨rfl, rfl, Nat.le_of_ble_eq_true rfl⟩ rfl rfl (c_endLine (dd := d) (hd := by omega) (hW := hW934)  (ln := ln1) (e_ln := show G928 9 = ln1 from ((hF935.1 9 rfl).trans ((hF899.1 9 rfl).trans ((hF35.1 9 rfl).trans ((hF7.1 9 rfl).trans (ex_ln1)))))) (li := li) (e_li := show G928 3 = li from ((hF935.1 3 rfl).trans ((hF899.1 3 rfl).trans ((hF35.1 3 rfl).trans ((hF7.1 3 rfl).trans ((hFx.1 3 rfl).trans (e_li))))))) (fk := fk2_933) (e_fk := show G928 16 = fk2_933 from (e939)) (tk0 := tk2_932) (e_tk0 := show G928 11 = tk2_932 from (e938))    (p_0 := by omega)) (fun o V_q hq => ?_)
                  obtain ⟨G962, A963, ln2_964, fk2_965, rfl, rfl, hW966, hF967, e968, e969, q970⟩ := hq
                  have hF971 := Fr_tr hF943 hF967 (Fr_sub (by decide)) (Fr_sub (by decide))
                  have hP972 := Pf_f hP944 hF967 (by decide)
                  have hS973 := Fx_f hS945 hF967 (by decide)
                  have hV974 := Fx_f hV946 hF967 (by decide)
                  have sf975 : wB A963 Vs pb (nd) (nd1) (sy) (sy1) := (show A963 = A929 from funext (fun k => hF967.2 k rfl)) ▸ sf947
                  have sf976 : NdM A963 (nd) (nd1) (sy) := NdM_f hF967 (by decide) sf948
                  have ec977 : ecn A963 (G962 31) = ec1 := (ecn_f (hF967.2 15 rfl) (hF967.1 31 rfl)).trans ec949
                  have bln2_964 : (0 : Int) ≤ ln2_964 ∧ ln2_964 ≤ 3000 := e968 ▸ hW966.1 9
                  have bfk2_965 : (0 : Int) ≤ fk2_965 ∧ fk2_965 ≤ 6 := e969 ▸ hW966.1 16
                  refine .inl ⟨rfl, ?_⟩
                  rcases q970 with ⟨a978, a979, a980, a981, a982⟩ | ⟨a983, a984⟩
                  · have _q : True := trivial
                    exfalso
                    omega
                  · have _q : True := trivial
                    refine jx_ld (pc_q := 101) (l_q := L961) (st_q := [.ref 66]) rfl (jl_aloadn gL961_0) ?_
                    refine jx_vr (pc_q := 104) (as := []) (st := []) rfl rfl rfl rfl ⟨rfl, rfl, Nat.le_of_ble_eq_true rfl⟩ rfl rfl (c_bad (dd := d) (hd := by omega) (hW := hW966)  (fk := fk2_965) (e_fk := show G962 16 = fk2_965 from (e969))    ) (fun o V_q hq => ?_)
                    obtain ⟨r985, rfl, rfl, b986, q987⟩ := hq
                    refine .inr ⟨_, rfl, ?_⟩
                    rcases q987 with ⟨rfl, a988⟩ | ⟨rfl, a989⟩
                    · have _q : True := trivial
                      refine jx_if_eq (pc_q := 107) (tg := 108) rfl rfl rfl (by decide) (by decide) (fun h990 => ?_) (fun h990 => ?_)
                      · have _q := h990
                        exact absurd h990 (by omega)
                      · have _q := h990
                        refine jx_rt (v := none) rfl rfl rfl rfl rfl rfl ?_
                        exact ⟨_, _, ln2_964, at2_931, fk2_965, nd1, sy1, na1, vi, A 3 (ln2_964).toNat, ec1, rfl, rfl, hW966, hF971, hP972, hS973, hV974, (e968), ((hF967.1 10 rfl).trans (e937)), (e969), ((hF967.1 31 rfl).trans ((hF935.1 31 rfl).trans ((hF899.1 31 rfl).trans ((hF35.1 31 rfl).trans ((hF7.1 31 rfl).trans (ex_nd1)))))), ((hF967.1 19 rfl).trans ((hF935.1 19 rfl).trans ((hF899.1 19 rfl).trans ((hF35.1 19 rfl).trans ((hF7.1 19 rfl).trans (ex_sy1)))))), ((hF967.1 28 rfl).trans ((hF935.1 28 rfl).trans ((hF899.1 28 rfl).trans ((hF35.1 28 rfl).trans ((hF7.1 28 rfl).trans (ex_na1)))))), ((hF967.1 29 rfl).trans ((hF935.1 29 rfl).trans ((hF899.1 29 rfl).trans ((hF35.1 29 rfl).trans ((hF7.1 29 rfl).trans (fx_29)))))), (congrFun ((hF967.2 3 rfl).trans ((hF935.2 3 rfl).trans ((hF899.2 3 rfl).trans ((hF35.2 3 rfl).trans ((hF7.2 3 rfl).trans (hFx.2 3 rfl)))))) _), ec977, by omega, by omega, by omega, by omega, by omega, by omega, by first | exact Or.inl (by omega)⟩
                    · have _q : True := trivial
                      exfalso
                      omega
                · have _q : True := trivial
                  exfalso
                  omega
              · have _q := h926
                exact absurd h926 (by omega)
            · have _q : True := trivial
              exfalso
              omega
          · have _q : True := trivial
            exfalso
            omega
    · have _q : True := trivial
      refine jx_if_eq (pc_q := 27) (tg := 125) rfl rfl rfl (by decide) (by decide) (fun h991 => ?_) (fun h991 => ?_)
      · have _q := h991
        refine jx_ld (pc_q := 126) (l_q := L) (st_q := [.ref 66]) rfl (jl_aloadn gL_0) ?_
        refine jx_vr (pc_q := 129) (as := []) (st := []) rfl rfl rfl rfl ⟨rfl, rfl, Nat.le_of_ble_eq_true rfl⟩ rfl rfl (c_bad (dd := d) (hd := by omega) (hW := hW6)  (fk := fk2_5) (e_fk := show G2 16 = fk2_5 from (e9))    ) (fun o V_q hq => ?_)
        obtain ⟨r992, rfl, rfl, b993, q994⟩ := hq
        refine .inr ⟨_, rfl, ?_⟩
        rcases q994 with ⟨rfl, a995⟩ | ⟨rfl, a996⟩
        · have _q : True := trivial
          refine jx_if_ne (pc_q := 132) (tg := 142) rfl rfl rfl (by decide) (by decide) (fun h997 => ?_) (fun h997 => ?_)
          · have _q := h997
            refine jx_rt (v := none) rfl rfl rfl rfl rfl rfl ?_
            exact ⟨_, _, ln1, at1, fk2_5, nd1, sy1, na1, vi, lf1, ec1, rfl, rfl, hW6, hF11, hP12, hS13, hV14, ((hF7.1 9 rfl).trans (ex_ln1)), ((hF7.1 10 rfl).trans (ex_at1)), (e9), ((hF7.1 31 rfl).trans (ex_nd1)), ((hF7.1 19 rfl).trans (ex_sy1)), ((hF7.1 28 rfl).trans (ex_na1)), ((hF7.1 29 rfl).trans (fx_29)), (congrFun (hF7.2 3 rfl) _).trans (ex_lf1), ec17, by omega, by omega, by omega, by omega, by omega, by omega, by first | exact Or.inl (by omega)⟩
          · have _q := h997
            exact absurd h997 (by omega)
        · have _q : True := trivial
          exfalso
          omega
      · have _q := h991
        exact absurd h991 (by omega)
    · have _q : True := trivial
      refine jx_if_eq (pc_q := 27) (tg := 125) rfl rfl rfl (by decide) (by decide) (fun h998 => ?_) (fun h998 => ?_)
      · have _q := h998
        refine jx_ld (pc_q := 126) (l_q := L) (st_q := [.ref 66]) rfl (jl_aloadn gL_0) ?_
        refine jx_vr (pc_q := 129) (as := []) (st := []) rfl rfl rfl rfl ⟨rfl, rfl, Nat.le_of_ble_eq_true rfl⟩ rfl rfl (c_bad (dd := d) (hd := by omega) (hW := hW6)  (fk := fk2_5) (e_fk := show G2 16 = fk2_5 from (e9))    ) (fun o V_q hq => ?_)
        obtain ⟨r999, rfl, rfl, b1000, q1001⟩ := hq
        refine .inr ⟨_, rfl, ?_⟩
        rcases q1001 with ⟨rfl, a1002⟩ | ⟨rfl, a1003⟩
        · have _q : True := trivial
          exfalso
          omega
        · have _q : True := trivial
          refine jx_if_ne (pc_q := 132) (tg := 142) rfl rfl rfl (by decide) (by decide) (fun h1004 => ?_) (fun h1004 => ?_)
          · have _q := h1004
            exact absurd h1004 (by omega)
          · have _q := h1004
            refine jx_ld (pc_q := 133) (l_q := L) (st_q := [.int (i32 (many))]) rfl (jl_iloadn gL_1) ?_
            refine jx_if_ne (pc_q := 136) (tg := 142) rfl rfl rfl (Int.le_trans (by decide : (-2147483648 : Int) ≤ -2147483648) rx_many.1) (Int.le_trans rx_many.2 (by decide : (2147483647 : Int) ≤ 2147483647)) (fun h1005 => ?_) (fun h1005 => ?_)
            · have _q := h1005
              refine jx_rt (v := none) rfl rfl rfl rfl rfl rfl ?_
              exact ⟨_, _, ln1, at1, fk2_5, nd1, sy1, na1, vi, lf1, ec1, rfl, rfl, hW6, hF11, hP12, hS13, hV14, ((hF7.1 9 rfl).trans (ex_ln1)), ((hF7.1 10 rfl).trans (ex_at1)), (e9), ((hF7.1 31 rfl).trans (ex_nd1)), ((hF7.1 19 rfl).trans (ex_sy1)), ((hF7.1 28 rfl).trans (ex_na1)), ((hF7.1 29 rfl).trans (fx_29)), (congrFun (hF7.2 3 rfl) _).trans (ex_lf1), ec17, by omega, by omega, by omega, by omega, by omega, by omega, by first | exact Or.inr ((⟨by omega, sf15, sf16, by omega⟩))⟩
            · have _q := h1005
              refine jx_ld (pc_q := 137) (l_q := L) (st_q := [.ref 66]) rfl (jl_aloadn gL_0) ?_
              refine jx_ar (pc_q := 138) (st_q := [.int (i32 (1)), .ref 66]) rfl rfl rfl rfl ?_
              refine jx_vr (pc_q := 141) (as := [.int (i32 (1))]) (st := []) rfl rfl rfl rfl ⟨rfl, rfl, Nat.le_of_ble_eq_true rfl⟩ rfl rfl (c_needLevel (dd := d) (hd := by omega) (hW := hW6) (lv := 1) (ln := ln1) (e_ln := show G2 9 = ln1 from ((hF7.1 9 rfl).trans (ex_ln1))) (li := li) (e_li := show G2 3 = li from ((hF7.1 3 rfl).trans ((hFx.1 3 rfl).trans (e_li)))) (fk := fk2_5) (e_fk := show G2 16 = fk2_5 from (e9)) (ll := A 5 (ln1).toNat) (e_ll := show A3 5 (ln1).toNat = A 5 (ln1).toNat from (congrFun ((hF7.2 5 rfl).trans (hFx.2 5 rfl)) _))  (h_lv := ⟨(by decide), (by decide)⟩)  ) (fun o V_q hq => ?_)
              obtain ⟨G1006, A1007, r1008, fk2_1009, rfl, rfl, hW1010, hF1011, b1012, e1013, q1014⟩ := hq
              have hF1015 := Fr_tr hF11 hF1011 (Fr_sub (by decide)) (Fr_sub (by decide))
              have hP1016 := Pf_f hP12 hF1011 (by decide)
              have hS1017 := Fx_f hS13 hF1011 (by decide)
              have hV1018 := Fx_f hV14 hF1011 (by decide)
              have sf1019 : wB A1007 Vs pb (nd) (nd1) (sy) (sy1) := (show A1007 = A3 from funext (fun k => hF1011.2 k rfl)) ▸ sf15
              have sf1020 : NdM A1007 (nd) (nd1) (sy) := NdM_f hF1011 (by decide) sf16
              have ec1021 : ecn A1007 (G1006 31) = ec1 := (ecn_f (hF1011.2 15 rfl) (hF1011.1 31 rfl)).trans ec17
              have bfk2_1009 : (0 : Int) ≤ fk2_1009 ∧ fk2_1009 ≤ 6 := e1013 ▸ hW1010.1 16
              refine .inr ⟨_, rfl, ?_⟩
              rcases q1014 with ⟨rfl, a1022, a1023, a1024, a1025⟩ | ⟨rfl, a1026⟩
              · have _q : True := trivial
                have b1027 : (0 : Int) ≤ A 4 (ln1).toNat ∧ A 4 (ln1).toNat ≤ 3000 := hW.2 4 _
                have lt1028 : lf1 < A 4 (ln1).toNat := LT_at (LT_ext (((hF1011.1 3 rfl).trans ((hF7.1 3 rfl).trans (hFx.1 3 rfl)))) (((hF1011.2 3 rfl).trans ((hF7.2 3 rfl).trans (hFx.2 3 rfl)))) (((hF1011.2 4 rfl).trans ((hF7.2 4 rfl).trans (hFx.2 4 rfl)))) i_LT) (show G1006 3 = li from ((hF1011.1 3 rfl).trans ((hF7.1 3 rfl).trans ((hFx.1 3 rfl).trans (e_li))))) (show A1007 3 (ln1).toNat = lf1 from (congrFun ((hF1011.2 3 rfl).trans (hF7.2 3 rfl)) _).trans (ex_lf1)) (show A1007 4 (ln1).toNat = A 4 (ln1).toNat from (congrFun ((hF1011.2 4 rfl).trans ((hF7.2 4 rfl).trans (hFx.2 4 rfl))) _)) (by omega) (by omega)
                refine jx_ar (pc_q := 142) (st_q := []) rfl rfl rfl rfl ?_
                refine jx_rt (v := none) rfl rfl rfl rfl rfl rfl ?_
                exact ⟨_, _, ln1, at1, fk2_1009, nd1, sy1, na1, vi, lf1, ec1, rfl, rfl, hW1010, hF1015, hP1016, hS1017, hV1018, ((hF1011.1 9 rfl).trans ((hF7.1 9 rfl).trans (ex_ln1))), ((hF1011.1 10 rfl).trans ((hF7.1 10 rfl).trans (ex_at1))), (e1013), ((hF1011.1 31 rfl).trans ((hF7.1 31 rfl).trans (ex_nd1))), ((hF1011.1 19 rfl).trans ((hF7.1 19 rfl).trans (ex_sy1))), ((hF1011.1 28 rfl).trans ((hF7.1 28 rfl).trans (ex_na1))), ((hF1011.1 29 rfl).trans ((hF7.1 29 rfl).trans (fx_29))), (congrFun ((hF1011.2 3 rfl).trans (hF7.2 3 rfl)) _).trans (ex_lf1), ec1021, by omega, by omega, by omega, by omega, by omega, by omega, by first | exact Or.inr ((⟨by omega, sf1019, sf1020, by omega⟩))⟩
              · have _q : True := trivial
                refine jx_ar (pc_q := 142) (st_q := []) rfl rfl rfl rfl ?_
                refine jx_rt (v := none) rfl rfl rfl rfl rfl rfl ?_
                exact ⟨_, _, ln1, at1, fk2_1009, nd1, sy1, na1, vi, lf1, ec1, rfl, rfl, hW1010, hF1015, hP1016, hS1017, hV1018, ((hF1011.1 9 rfl).trans ((hF7.1 9 rfl).trans (ex_ln1))), ((hF1011.1 10 rfl).trans ((hF7.1 10 rfl).trans (ex_at1))), (e1013), ((hF1011.1 31 rfl).trans ((hF7.1 31 rfl).trans (ex_nd1))), ((hF1011.1 19 rfl).trans ((hF7.1 19 rfl).trans (ex_sy1))), ((hF1011.1 28 rfl).trans ((hF7.1 28 rfl).trans (ex_na1))), ((hF1011.1 29 rfl).trans ((hF7.1 29 rfl).trans (fx_29))), (congrFun ((hF1011.2 3 rfl).trans (hF7.2 3 rfl)) _).trans (ex_lf1), ec1021, by omega, by omega, by omega, by omega, by omega, by omega, by first | exact Or.inl (by omega)⟩
      · have _q := h998
        exact absurd h998 (by omega)
set_option maxRecDepth 20000 in
set_option maxHeartbeats 4000000 in
theorem c_readPlaced_w {X : jX} {dd : Nat} {Vs : Nat → Prop} {sb pb : Int} (hvb : VB Vs sb) {c0 c1 : jC} {G : Nat → Int} {A : Nat → Nat → Int} {T : jH} {ln li at0 fk nd sy na vi le op0 tk0 ec : Int} (hd : 8 * 18 + 81 ≤ dd) (hW : Wk G A) (e_ln : G 9 = ln) (e_li : G 3 = li) (e_at0 : G 10 = at0) (e_fk : G 16 = fk) (e_nd : G 31 = nd) (e_sy : G 19 = sy) (e_na : G 28 = na) (e_vi : G 29 = vi) (e_le : A 4 (ln).toNat = le) (e_op0 : G 15 = op0) (e_tk0 : G 11 = tk0) (e_ec : ecn A (G 31) = ec) (i_LT : LT G A) (i_SV : SV Vs sb G A) (i_PQ : PQ Vs sb pb G A) (p_0 : fk = 0) (p_1 : 1 ≤ nd) (p_2 : ln < li) (p_3 : at0 ≤ le) (p_4 : nd ≤ 2 * at0 - tz tk0 + 30) (p_5 : sy ≤ na + 2) (p_6 : vi ≤ sy) (p_7 : sb ≤ sy) (p_8 : PZ A) (p_9 : nd + 5 * ec ≤ 2 * at0 - tz tk0 + 35) : wk X dd 311 [.ref 66] (rV c0 c1 G A T) (fun o V_q => ∃ (G_q : Nat → Int) (A_q : Nat → Nat → Int) (ln2 : Int) (at2 : Int) (fk2 : Int) (nd2 : Int) (sy2 : Int) (na2 : Int) (vi2 : Int) (lf2 : Int) (ec2 : Int), V_q = rV c0 c1 G_q A_q T ∧ o = .inl none ∧ Wk G_q A_q ∧ Fr [9, 10, 11, 12, 13, 14, 15, 16, 17, 18, 19, 28, 29, 31] [6, 7, 8, 9, 10, 11, 12, 14, 15, 16, 17, 18, 19, 20, 21, 22, 23, 24, 28, 36] G A G_q A_q ∧ Pf nd A A_q ∧ Fx sr (sy) A A_q ∧ Fx [14] (vi) A A_q ∧ G_q 9 = ln2 ∧ G_q 10 = at2 ∧ G_q 16 = fk2 ∧ G_q 31 = nd2 ∧ G_q 19 = sy2 ∧ G_q 28 = na2 ∧ G_q 29 = vi2 ∧ A_q 3 (ln2).toNat = lf2 ∧ ecn A_q (G_q 31) = ec2 ∧ (nd ≤ nd2) ∧ (sy ≤ sy2) ∧ (sy2 ≤ na2 + 2) ∧ (vi2 = vi) ∧ (ln ≤ ln2) ∧ (ln2 ≤ li) ∧ (((1 ≤ fk2)) ∨ ((fk2 = 0) ∧ (wB A_q Vs pb (nd) (nd2) (sy) (sy2)) ∧ (NdM A_q (nd) (nd2) (sy)) ∧ (nd2 + 5 * ec2 ≤ 6055)))) := by
  obtain ⟨d, rfl⟩ : ∃ d, dd = d + 1 := ⟨dd - 1, by omega⟩
  refine wk_of (e := jm311) rfl (Nat.le_of_ble_eq_true rfl) ?_
  show wj X d jm311 (0, [(0, .ref 66)], [], rV c0 c1 G A T) _
  have hF0 : Fr [9, 10, 11, 12, 13, 14, 15, 16, 17, 18, 19, 28, 29, 31] [6, 7, 8, 9, 10, 11, 12, 14, 15, 16, 17, 18, 19, 20, 21, 22, 23, 24, 28, 36] G A G A := Fr_rf
  have hP0 : Pf nd A A := Pf_rf
  have hS0 : Fx sr (sy) A A := Fx_rf
  have hV0 : Fx [14] (vi) A A := Fx_rf
  have b_ln : (0 : Int) ≤ ln ∧ ln ≤ 3000 := e_ln ▸ hW.1 9
  have b_li : (0 : Int) ≤ li ∧ li ≤ 3000 := e_li ▸ hW.1 3
  have b_at0 : (0 : Int) ≤ at0 ∧ at0 ≤ 3002 := e_at0 ▸ hW.1 10
  have b_fk : (0 : Int) ≤ fk ∧ fk ≤ 6 := e_fk ▸ hW.1 16
  have b_nd : (0 : Int) ≤ nd ∧ nd ≤ 6999 := e_nd ▸ hW.1 31
  have b_sy : (0 : Int) ≤ sy ∧ sy ≤ 202 := e_sy ▸ hW.1 19
  have b_na : (0 : Int) ≤ na ∧ na ≤ 200 := e_na ▸ hW.1 28
  have b_vi : (0 : Int) ≤ vi ∧ vi ≤ 202 := e_vi ▸ hW.1 29
  have b_le : (0 : Int) ≤ le ∧ le ≤ 3000 := e_le ▸ hW.2 4 _
  have b_op0 : (-2147483648 : Int) ≤ op0 ∧ op0 ≤ 2147483647 := e_op0 ▸ hW.1 15
  have z_tk0 := tz_f tk0
  have b_tk0 : (0 : Int) ≤ tk0 ∧ tk0 ≤ 5 := e_tk0 ▸ hW.1 11
  refine jx_ld (pc_q := 1) (l_q := [(0, .ref 66)]) (st_q := [.ref 66]) rfl (jl_aloadn rfl) ?_
  refine jx_vr (pc_q := 4) (as := []) (st := []) rfl rfl rfl rfl ⟨rfl, rfl, Nat.le_of_ble_eq_true rfl⟩ rfl rfl (c_next (dd := d) (hd := by omega) (hW := hW)  (ln := ln) (e_ln := show G 9 = ln from (e_ln)) (le := le) (e_le := show A 4 (ln).toNat = le from (e_le)) (at0 := at0) (e_at0 := show G 10 = at0 from (e_at0))    (p_0 := by omega)) (fun o V_q hq => ?_)
  obtain ⟨G1029, A1030, at2_1031, tk2_1032, rfl, rfl, hW1033, hF1034, e1035, e1036, p1037, p1038, p1039, -⟩ := hq
  have hF1041 := Fr_tr hF0 hF1034 (Fr_sub (by decide)) (Fr_sub (by decide))
  have hP1042 := Pf_f hP0 hF1034 (by decide)
  have hS1043 := Fx_f hS0 hF1034 (by decide)
  have hV1044 := Fx_f hV0 hF1034 (by decide)
  have sf1045 : PZ A1030 := (show A1030 = A from funext (fun k => hF1034.2 k rfl)) ▸ p_8
  have ec1046 : ecn A1030 (G1029 31) = ec := (ecn_f (hF1034.2 15 rfl) (hF1034.1 31 rfl)).trans e_ec
  have bat2_1031 : (0 : Int) ≤ at2_1031 ∧ at2_1031 ≤ 3002 := e1035 ▸ hW1033.1 10
  have ztk2_1032 := tz_b tk2_1032
  have btk2_1032 : (0 : Int) ≤ tk2_1032 ∧ tk2_1032 ≤ 5 := e1036 ▸ hW1033.1 11
  refine .inl ⟨rfl, ?_⟩
  have pz1047 : at0 + tz tk2_1032 ≤ at2_1031 := by omega
  refine jx_ld (pc_q := 5) (l_q := [(0, .ref 66)]) (st_q := [.ref 66]) rfl (jl_aloadn rfl) ?_
  refine jx_ld (pc_q := 6) (l_q := [(0, .ref 66)]) (st_q := [.ref 66, .ref 66]) rfl (jl_aloadn rfl) ?_
  refine jx_ar (pc_q := 7) (st_q := [.int (i32 (2)), .ref 66, .ref 66]) rfl rfl rfl rfl ?_
  have b1048 : (-2147483648 : Int) ≤ G1029 13 ∧ G1029 13 ≤ 2147483647 := hW1033.1 13
  refine jx_vr (pc_q := 10) (as := [.int (i32 (2))]) (st := [.ref 66]) rfl rfl rfl rfl ⟨rfl, rfl, Nat.le_of_ble_eq_true rfl⟩ rfl rfl (c_isKey (dd := d) (hd := by omega) (hW := hW1033) (k := 2) (tk := tk2_1032) (e_tk := show G1029 11 = tk2_1032 from (e1036)) (tn := G1029 13) (e_tn := show G1029 13 = G1029 13 from rfl)  (h_k := ⟨(by decide), (by decide)⟩)  ) (fun o V_q hq => ?_)
  obtain ⟨r1049, rfl, rfl, b1050, q1051⟩ := hq
  refine .inr ⟨_, rfl, ?_⟩
  rcases q1051 with ⟨rfl, a1052, a1053, a1054⟩ | rfl
  · have _q : True := trivial
    refine jx_vr (pc_q := 13) (as := [.int (i32 (1))]) (st := []) rfl rfl rfl rfl ⟨rfl, rfl, Nat.le_of_ble_eq_true rfl⟩ rfl rfl (c_need (dd := d) (hd := by omega) (hW := hW1033) (g := 1) (ln := ln) (e_ln := show G1029 9 = ln from ((hF1034.1 9 rfl).trans (e_ln))) (le := le) (e_le := show A1030 4 (ln).toNat = le from (congrFun (hF1034.2 4 rfl) _).trans (e_le)) (at0 := at2_1031) (e_at0 := show G1029 10 = at2_1031 from (e1035)) (fk := fk) (e_fk := show G1029 16 = fk from ((hF1034.1 16 rfl).trans (e_fk))) (tk0 := tk2_1032) (e_tk0 := show G1029 11 = tk2_1032 from (e1036))  (h_g := ⟨(by decide), (by decide)⟩)  (p_0 := by omega)) (fun o V_q hq => ?_)
    obtain ⟨G1055, A1056, at2_1057, tk2_1058, fk2_1059, rfl, rfl, hW1060, hF1061, e1062, e1063, e1064, p1065, p1066, q1067⟩ := hq
    have hF1068 := Fr_tr hF1041 hF1061 (Fr_sub (by decide)) (Fr_sub (by decide))
    have hP1069 := Pf_f hP1042 hF1061 (by decide)
    have hS1070 := Fx_f hS1043 hF1061 (by decide)
    have hV1071 := Fx_f hV1044 hF1061 (by decide)
    have sf1072 : PZ A1056 := (show A1056 = A1030 from funext (fun k => hF1061.2 k rfl)) ▸ sf1045
    have ec1073 : ecn A1056 (G1055 31) = ec := (ecn_f (hF1061.2 15 rfl) (hF1061.1 31 rfl)).trans ec1046
    have bat2_1057 : (0 : Int) ≤ at2_1057 ∧ at2_1057 ≤ 3002 := e1062 ▸ hW1060.1 10
    have ztk2_1058 := tz_b tk2_1058
    have btk2_1058 : (0 : Int) ≤ tk2_1058 ∧ tk2_1058 ≤ 5 := e1063 ▸ hW1060.1 11
    have bfk2_1059 : (0 : Int) ≤ fk2_1059 ∧ fk2_1059 ≤ 6 := e1064 ▸ hW1060.1 16
    refine .inl ⟨rfl, ?_⟩
    rcases q1067 with ⟨a1074, a1075, a1076, a1077⟩ | ⟨a1078, a1079, a1080, a1081⟩
    · have _q : True := trivial
      refine jx_ld (pc_q := 14) (l_q := [(0, .ref 66)]) (st_q := [.ref 66]) rfl (jl_aloadn rfl) ?_
      refine jx_vr (pc_q := 17) (as := []) (st := []) rfl rfl rfl rfl ⟨rfl, rfl, Nat.le_of_ble_eq_true rfl⟩ rfl rfl (c_endLine (dd := d) (hd := by omega) (hW := hW1060)  (ln := ln) (e_ln := show G1055 9 = ln from ((hF1061.1 9 rfl).trans ((hF1034.1 9 rfl).trans (e_ln)))) (li := li) (e_li := show G1055 3 = li from ((hF1061.1 3 rfl).trans ((hF1034.1 3 rfl).trans (e_li)))) (fk := fk2_1059) (e_fk := show G1055 16 = fk2_1059 from (e1064)) (tk0 := tk2_1058) (e_tk0 := show G1055 11 = tk2_1058 from (e1063))    (p_0 := by omega)) (fun o V_q hq => ?_)
      obtain ⟨G1082, A1083, ln2_1084, fk2_1085, rfl, rfl, hW1086, hF1087, e1088, e1089, q1090⟩ := hq
      have hF1091 := Fr_tr hF1068 hF1087 (Fr_sub (by decide)) (Fr_sub (by decide))
      have hP1092 := Pf_f hP1069 hF1087 (by decide)
      have hS1093 := Fx_f hS1070 hF1087 (by decide)
      have hV1094 := Fx_f hV1071 hF1087 (by decide)
      have sf1095 : PZ A1083 := (show A1083 = A1056 from funext (fun k => hF1087.2 k rfl)) ▸ sf1072
      have ec1096 : ecn A1083 (G1082 31) = ec := (ecn_f (hF1087.2 15 rfl) (hF1087.1 31 rfl)).trans ec1073
      have bln2_1084 : (0 : Int) ≤ ln2_1084 ∧ ln2_1084 ≤ 3000 := e1088 ▸ hW1086.1 9
      have bfk2_1085 : (0 : Int) ≤ fk2_1085 ∧ fk2_1085 ≤ 6 := e1089 ▸ hW1086.1 16
      refine .inl ⟨rfl, ?_⟩
      rcases q1090 with ⟨a1097, a1098, a1099, a1100, a1101⟩ | ⟨a1102, a1103⟩
      · have _q : True := trivial
        exfalso
        omega
      · have _q : True := trivial
        refine jx_ar (pc_q := 18) (st_q := [.int (i32 (0))]) rfl rfl rfl rfl ?_
        refine jx_ld (pc_q := 19) (l_q := jSto1 [(0, .ref 66)] 1 (.int (i32 (0)))) (st_q := []) rfl rfl ?_
        obtain ⟨L1104, eL1104⟩ : ∃ q, q = jSto1 [(0, .ref 66)] 1 (.int (i32 (0))) := ⟨_, rfl⟩
        rw [← eL1104]
        have gL1104_0 : jGet L1104 0 = some (.ref 66) := eL1104 ▸ jg_ne (by decide) (rfl : jGet [(0, .ref 66)] 0 = some (.ref 66)) rfl
        have gL1104_1 : jGet L1104 1 = some (.int (i32 (0))) := eL1104 ▸ jg_eq
        refine jx_ld (pc_q := 20) (l_q := L1104) (st_q := [.ref 66]) rfl (jl_aloadn gL1104_0) ?_
        refine jx_ar (pc_q := 21) (st_q := [.int (i32 (0)), .ref 66]) rfl rfl rfl rfl ?_
        have b1105 : (-1 : Int) ≤ A 5 (ln2_1084).toNat ∧ A 5 (ln2_1084).toNat ≤ 15 := hW.2 5 _
        refine jx_vr (pc_q := 24) (as := [.int (i32 (0))]) (st := []) rfl rfl rfl rfl ⟨rfl, rfl, Nat.le_of_ble_eq_true rfl⟩ rfl rfl (c_isBelow (dd := d) (hd := by omega) (hW := hW1086) (lv := 0) (ln := ln2_1084) (e_ln := show G1082 9 = ln2_1084 from (e1088)) (li := li) (e_li := show G1082 3 = li from ((hF1087.1 3 rfl).trans ((hF1061.1 3 rfl).trans ((hF1034.1 3 rfl).trans (e_li))))) (fk := fk2_1085) (e_fk := show G1082 16 = fk2_1085 from (e1089)) (ll := A 5 (ln2_1084).toNat) (e_ll := show A1083 5 (ln2_1084).toNat = A 5 (ln2_1084).toNat from (congrFun ((hF1087.2 5 rfl).trans ((hF1061.2 5 rfl).trans (hF1034.2 5 rfl))) _))  (h_lv := ⟨(by decide), (by decide)⟩)  (p_0 := by omega)) (fun o V_q hq => ?_)
        obtain ⟨G1106, A1107, r1108, fk2_1109, rfl, rfl, hW1110, hF1111, b1112, e1113, q1114⟩ := hq
        have hF1115 := Fr_tr hF1091 hF1111 (Fr_sub (by decide)) (Fr_sub (by decide))
        have hP1116 := Pf_f hP1092 hF1111 (by decide)
        have hS1117 := Fx_f hS1093 hF1111 (by decide)
        have hV1118 := Fx_f hV1094 hF1111 (by decide)
        have sf1119 : PZ A1107 := (show A1107 = A1083 from funext (fun k => hF1111.2 k rfl)) ▸ sf1095
        have ec1120 : ecn A1107 (G1106 31) = ec := (ecn_f (hF1111.2 15 rfl) (hF1111.1 31 rfl)).trans ec1096
        have bfk2_1109 : (0 : Int) ≤ fk2_1109 ∧ fk2_1109 ≤ 6 := e1113 ▸ hW1110.1 16
        refine .inr ⟨_, rfl, ?_⟩
        rcases q1114 with ⟨rfl, a1121, a1122, a1123, a1124⟩ | ⟨rfl, a1125⟩ | ⟨rfl, a1126, a1127, a1128⟩
        · have _q : True := trivial
          exfalso
          omega
        · have _q : True := trivial
          refine jx_if_eq (pc_q := 27) (tg := 125) rfl rfl rfl (by decide) (by decide) (fun h1129 => ?_) (fun h1129 => ?_)
          · have _q := h1129
            refine jx_ld (pc_q := 126) (l_q := L1104) (st_q := [.ref 66]) rfl (jl_aloadn gL1104_0) ?_
            refine jx_vr (pc_q := 129) (as := []) (st := []) rfl rfl rfl rfl ⟨rfl, rfl, Nat.le_of_ble_eq_true rfl⟩ rfl rfl (c_bad (dd := d) (hd := by omega) (hW := hW1110)  (fk := fk2_1109) (e_fk := show G1106 16 = fk2_1109 from (e1113))    ) (fun o V_q hq => ?_)
            obtain ⟨r1130, rfl, rfl, b1131, q1132⟩ := hq
            refine .inr ⟨_, rfl, ?_⟩
            rcases q1132 with ⟨rfl, a1133⟩ | ⟨rfl, a1134⟩
            · have _q : True := trivial
              refine jx_if_ne (pc_q := 132) (tg := 142) rfl rfl rfl (by decide) (by decide) (fun h1135 => ?_) (fun h1135 => ?_)
              · have _q := h1135
                refine jx_rt (v := none) rfl rfl rfl rfl rfl rfl ?_
                exact ⟨_, _, ln2_1084, at2_1057, fk2_1109, nd, sy, na, vi, A 3 (ln2_1084).toNat, ec, rfl, rfl, hW1110, hF1115, hP1116, hS1117, hV1118, ((hF1111.1 9 rfl).trans (e1088)), ((hF1111.1 10 rfl).trans ((hF1087.1 10 rfl).trans (e1062))), (e1113), ((hF1111.1 31 rfl).trans ((hF1087.1 31 rfl).trans ((hF1061.1 31 rfl).trans ((hF1034.1 31 rfl).trans (e_nd))))), ((hF1111.1 19 rfl).trans ((hF1087.1 19 rfl).trans ((hF1061.1 19 rfl).trans ((hF1034.1 19 rfl).trans (e_sy))))), ((hF1111.1 28 rfl).trans ((hF1087.1 28 rfl).trans ((hF1061.1 28 rfl).trans ((hF1034.1 28 rfl).trans (e_na))))), ((hF1111.1 29 rfl).trans ((hF1087.1 29 rfl).trans ((hF1061.1 29 rfl).trans ((hF1034.1 29 rfl).trans (e_vi))))), (congrFun ((hF1111.2 3 rfl).trans ((hF1087.2 3 rfl).trans ((hF1061.2 3 rfl).trans (hF1034.2 3 rfl)))) _), ec1120, by omega, by omega, by omega, by omega, by omega, by omega, by first | exact Or.inl (by omega)⟩
              · have _q := h1135
                exact absurd h1135 (by omega)
            · have _q : True := trivial
              exfalso
              omega
          · have _q := h1129
            exact absurd h1129 (by omega)
        · have _q : True := trivial
          exfalso
          omega
    · have _q : True := trivial
      have pz1136 : at2_1031 + tz tk2_1058 ≤ at2_1057 := by omega
      refine jx_ld (pc_q := 14) (l_q := [(0, .ref 66)]) (st_q := [.ref 66]) rfl (jl_aloadn rfl) ?_
      refine jx_vr (pc_q := 17) (as := []) (st := []) rfl rfl rfl rfl ⟨rfl, rfl, Nat.le_of_ble_eq_true rfl⟩ rfl rfl (c_endLine (dd := d) (hd := by omega) (hW := hW1060)  (ln := ln) (e_ln := show G1055 9 = ln from ((hF1061.1 9 rfl).trans ((hF1034.1 9 rfl).trans (e_ln)))) (li := li) (e_li := show G1055 3 = li from ((hF1061.1 3 rfl).trans ((hF1034.1 3 rfl).trans (e_li)))) (fk := fk2_1059) (e_fk := show G1055 16 = fk2_1059 from (e1064)) (tk0 := tk2_1058) (e_tk0 := show G1055 11 = tk2_1058 from (e1063))    (p_0 := by omega)) (fun o V_q hq => ?_)
      obtain ⟨G1137, A1138, ln2_1139, fk2_1140, rfl, rfl, hW1141, hF1142, e1143, e1144, q1145⟩ := hq
      have hF1146 := Fr_tr hF1068 hF1142 (Fr_sub (by decide)) (Fr_sub (by decide))
      have hP1147 := Pf_f hP1069 hF1142 (by decide)
      have hS1148 := Fx_f hS1070 hF1142 (by decide)
      have hV1149 := Fx_f hV1071 hF1142 (by decide)
      have sf1150 : PZ A1138 := (show A1138 = A1056 from funext (fun k => hF1142.2 k rfl)) ▸ sf1072
      have ec1151 : ecn A1138 (G1137 31) = ec := (ecn_f (hF1142.2 15 rfl) (hF1142.1 31 rfl)).trans ec1073
      have bln2_1139 : (0 : Int) ≤ ln2_1139 ∧ ln2_1139 ≤ 3000 := e1143 ▸ hW1141.1 9
      have bfk2_1140 : (0 : Int) ≤ fk2_1140 ∧ fk2_1140 ≤ 6 := e1144 ▸ hW1141.1 16
      refine .inl ⟨rfl, ?_⟩
      rcases q1145 with ⟨a1152, a1153, a1154, a1155, a1156⟩ | ⟨a1157, a1158⟩
      · have _q : True := trivial
        have b1159 : (0 : Int) ≤ A 3 (ln2_1139).toNat ∧ A 3 (ln2_1139).toNat ≤ 3000 := hW.2 3 _
        have lt1160 : ln2_1139 < li → le < A 3 (ln2_1139).toNat := fun hh => LT_nx (LT_ext (((hF1142.1 3 rfl).trans ((hF1061.1 3 rfl).trans (hF1034.1 3 rfl)))) (((hF1142.2 3 rfl).trans ((hF1061.2 3 rfl).trans (hF1034.2 3 rfl)))) (((hF1142.2 4 rfl).trans ((hF1061.2 4 rfl).trans (hF1034.2 4 rfl)))) i_LT) (show G1137 3 = li from ((hF1142.1 3 rfl).trans ((hF1061.1 3 rfl).trans ((hF1034.1 3 rfl).trans (e_li))))) (show A1138 4 (ln).toNat = le from (congrFun ((hF1142.2 4 rfl).trans ((hF1061.2 4 rfl).trans (hF1034.2 4 rfl))) _).trans (e_le)) (show A1138 3 (ln2_1139).toNat = A 3 (ln2_1139).toNat from (congrFun ((hF1142.2 3 rfl).trans ((hF1061.2 3 rfl).trans (hF1034.2 3 rfl))) _)) (show ln2_1139 = ln + 1 by omega) (by omega) hh
        refine jx_ar (pc_q := 18) (st_q := [.int (i32 (0))]) rfl rfl rfl rfl ?_
        refine jx_ld (pc_q := 19) (l_q := jSto1 [(0, .ref 66)] 1 (.int (i32 (0)))) (st_q := []) rfl rfl ?_
        obtain ⟨L1161, eL1161⟩ : ∃ q, q = jSto1 [(0, .ref 66)] 1 (.int (i32 (0))) := ⟨_, rfl⟩
        rw [← eL1161]
        have gL1161_0 : jGet L1161 0 = some (.ref 66) := eL1161 ▸ jg_ne (by decide) (rfl : jGet [(0, .ref 66)] 0 = some (.ref 66)) rfl
        have gL1161_1 : jGet L1161 1 = some (.int (i32 (0))) := eL1161 ▸ jg_eq
        exact c_readPlaced_w_at_19 (X := X) (d := d) (Vs := Vs) (sb := sb) (pb := pb) (hvb := hvb) (c0 := c0) (c1 := c1) (G := G) (A := A) (T := T) (ln := ln) (li := li) (at0 := at0) (fk := fk) (nd := nd) (sy := sy) (na := na) (vi := vi) (le := le) (op0 := op0) (tk0 := tk0) (ec := ec) (hd := hd) (hW := hW) (e_ln := e_ln) (e_li := e_li) (e_at0 := e_at0) (e_fk := e_fk) (e_nd := e_nd) (e_sy := e_sy) (e_na := e_na) (e_vi := e_vi) (e_le := e_le) (e_op0 := e_op0) (e_tk0 := e_tk0) (e_ec := e_ec) (i_LT := i_LT) (i_SV := i_SV) (i_PQ := i_PQ) (p_0 := p_0) (p_1 := p_1) (p_2 := p_2) (p_3 := p_3) (p_4 := p_4) (p_5 := p_5) (p_6 := p_6) (p_7 := p_7) (p_8 := p_8) (p_9 := p_9) _ L1161 G1137 A1138 (0) (ln2_1139) (at2_1057) (fk2_1140) (nd) (sy) (na) (A 3 (ln2_1139).toNat) (ec) rfl gL1161_0 gL1161_1 hW1141 hF1146 hP1147 hS1148 hV1149 ((e1143)) (((hF1142.1 10 rfl).trans (e1062))) ((e1144)) (((hF1142.1 31 rfl).trans ((hF1061.1 31 rfl).trans ((hF1034.1 31 rfl).trans (e_nd))))) (((hF1142.1 19 rfl).trans ((hF1061.1 19 rfl).trans ((hF1034.1 19 rfl).trans (e_sy))))) (((hF1142.1 28 rfl).trans ((hF1061.1 28 rfl).trans ((hF1034.1 28 rfl).trans (e_na))))) ((congrFun ((hF1142.2 3 rfl).trans ((hF1061.2 3 rfl).trans (hF1034.2 3 rfl))) _)) (ec1151) (((hF1142.1 29 rfl).trans ((hF1061.1 29 rfl).trans ((hF1034.1 29 rfl).trans (e_vi))))) (by omega) (by omega) (by omega) (by omega) (by omega) (by omega) (by omega) (by omega) (by omega) (by omega) (by omega) (by omega) ((wB_nil sf1150 (by omega) (by omega))) (by omega) ((NdM_0 (by omega)))
      · have _q : True := trivial
        refine jx_ar (pc_q := 18) (st_q := [.int (i32 (0))]) rfl rfl rfl rfl ?_
        refine jx_ld (pc_q := 19) (l_q := jSto1 [(0, .ref 66)] 1 (.int (i32 (0)))) (st_q := []) rfl rfl ?_
        obtain ⟨L1162, eL1162⟩ : ∃ q, q = jSto1 [(0, .ref 66)] 1 (.int (i32 (0))) := ⟨_, rfl⟩
        rw [← eL1162]
        have gL1162_0 : jGet L1162 0 = some (.ref 66) := eL1162 ▸ jg_ne (by decide) (rfl : jGet [(0, .ref 66)] 0 = some (.ref 66)) rfl
        have gL1162_1 : jGet L1162 1 = some (.int (i32 (0))) := eL1162 ▸ jg_eq
        refine jx_ld (pc_q := 20) (l_q := L1162) (st_q := [.ref 66]) rfl (jl_aloadn gL1162_0) ?_
        refine jx_ar (pc_q := 21) (st_q := [.int (i32 (0)), .ref 66]) rfl rfl rfl rfl ?_
        have b1163 : (-1 : Int) ≤ A 5 (ln2_1139).toNat ∧ A 5 (ln2_1139).toNat ≤ 15 := hW.2 5 _
        refine jx_vr (pc_q := 24) (as := [.int (i32 (0))]) (st := []) rfl rfl rfl rfl ⟨rfl, rfl, Nat.le_of_ble_eq_true rfl⟩ rfl rfl (c_isBelow (dd := d) (hd := by omega) (hW := hW1141) (lv := 0) (ln := ln2_1139) (e_ln := show G1137 9 = ln2_1139 from (e1143)) (li := li) (e_li := show G1137 3 = li from ((hF1142.1 3 rfl).trans ((hF1061.1 3 rfl).trans ((hF1034.1 3 rfl).trans (e_li))))) (fk := fk2_1140) (e_fk := show G1137 16 = fk2_1140 from (e1144)) (ll := A 5 (ln2_1139).toNat) (e_ll := show A1138 5 (ln2_1139).toNat = A 5 (ln2_1139).toNat from (congrFun ((hF1142.2 5 rfl).trans ((hF1061.2 5 rfl).trans (hF1034.2 5 rfl))) _))  (h_lv := ⟨(by decide), (by decide)⟩)  (p_0 := by omega)) (fun o V_q hq => ?_)
        obtain ⟨G1164, A1165, r1166, fk2_1167, rfl, rfl, hW1168, hF1169, b1170, e1171, q1172⟩ := hq
        have hF1173 := Fr_tr hF1146 hF1169 (Fr_sub (by decide)) (Fr_sub (by decide))
        have hP1174 := Pf_f hP1147 hF1169 (by decide)
        have hS1175 := Fx_f hS1148 hF1169 (by decide)
        have hV1176 := Fx_f hV1149 hF1169 (by decide)
        have sf1177 : PZ A1165 := (show A1165 = A1138 from funext (fun k => hF1169.2 k rfl)) ▸ sf1150
        have ec1178 : ecn A1165 (G1164 31) = ec := (ecn_f (hF1169.2 15 rfl) (hF1169.1 31 rfl)).trans ec1151
        have bfk2_1167 : (0 : Int) ≤ fk2_1167 ∧ fk2_1167 ≤ 6 := e1171 ▸ hW1168.1 16
        refine .inr ⟨_, rfl, ?_⟩
        rcases q1172 with ⟨rfl, a1179, a1180, a1181, a1182⟩ | ⟨rfl, a1183⟩ | ⟨rfl, a1184, a1185, a1186⟩
        · have _q : True := trivial
          exfalso
          omega
        · have _q : True := trivial
          refine jx_if_eq (pc_q := 27) (tg := 125) rfl rfl rfl (by decide) (by decide) (fun h1187 => ?_) (fun h1187 => ?_)
          · have _q := h1187
            refine jx_ld (pc_q := 126) (l_q := L1162) (st_q := [.ref 66]) rfl (jl_aloadn gL1162_0) ?_
            refine jx_vr (pc_q := 129) (as := []) (st := []) rfl rfl rfl rfl ⟨rfl, rfl, Nat.le_of_ble_eq_true rfl⟩ rfl rfl (c_bad (dd := d) (hd := by omega) (hW := hW1168)  (fk := fk2_1167) (e_fk := show G1164 16 = fk2_1167 from (e1171))    ) (fun o V_q hq => ?_)
            obtain ⟨r1188, rfl, rfl, b1189, q1190⟩ := hq
            refine .inr ⟨_, rfl, ?_⟩
            rcases q1190 with ⟨rfl, a1191⟩ | ⟨rfl, a1192⟩
            · have _q : True := trivial
              refine jx_if_ne (pc_q := 132) (tg := 142) rfl rfl rfl (by decide) (by decide) (fun h1193 => ?_) (fun h1193 => ?_)
              · have _q := h1193
                refine jx_rt (v := none) rfl rfl rfl rfl rfl rfl ?_
                exact ⟨_, _, ln2_1139, at2_1057, fk2_1167, nd, sy, na, vi, A 3 (ln2_1139).toNat, ec, rfl, rfl, hW1168, hF1173, hP1174, hS1175, hV1176, ((hF1169.1 9 rfl).trans (e1143)), ((hF1169.1 10 rfl).trans ((hF1142.1 10 rfl).trans (e1062))), (e1171), ((hF1169.1 31 rfl).trans ((hF1142.1 31 rfl).trans ((hF1061.1 31 rfl).trans ((hF1034.1 31 rfl).trans (e_nd))))), ((hF1169.1 19 rfl).trans ((hF1142.1 19 rfl).trans ((hF1061.1 19 rfl).trans ((hF1034.1 19 rfl).trans (e_sy))))), ((hF1169.1 28 rfl).trans ((hF1142.1 28 rfl).trans ((hF1061.1 28 rfl).trans ((hF1034.1 28 rfl).trans (e_na))))), ((hF1169.1 29 rfl).trans ((hF1142.1 29 rfl).trans ((hF1061.1 29 rfl).trans ((hF1034.1 29 rfl).trans (e_vi))))), (congrFun ((hF1169.2 3 rfl).trans ((hF1142.2 3 rfl).trans ((hF1061.2 3 rfl).trans (hF1034.2 3 rfl)))) _), ec1178, by omega, by omega, by omega, by omega, by omega, by omega, by first | exact Or.inl (by omega)⟩
              · have _q := h1193
                exact absurd h1193 (by omega)
            · have _q : True := trivial
              exfalso
              omega
          · have _q := h1187
            exact absurd h1187 (by omega)
        · have _q : True := trivial
          exfalso
          omega
  · have _q : True := trivial
    refine jx_vr (pc_q := 13) (as := [.int (i32 (0))]) (st := []) rfl rfl rfl rfl ⟨rfl, rfl, Nat.le_of_ble_eq_true rfl⟩ rfl rfl (c_need (dd := d) (hd := by omega) (hW := hW1033) (g := 0) (ln := ln) (e_ln := show G1029 9 = ln from ((hF1034.1 9 rfl).trans (e_ln))) (le := le) (e_le := show A1030 4 (ln).toNat = le from (congrFun (hF1034.2 4 rfl) _).trans (e_le)) (at0 := at2_1031) (e_at0 := show G1029 10 = at2_1031 from (e1035)) (fk := fk) (e_fk := show G1029 16 = fk from ((hF1034.1 16 rfl).trans (e_fk))) (tk0 := tk2_1032) (e_tk0 := show G1029 11 = tk2_1032 from (e1036))  (h_g := ⟨(by decide), (by decide)⟩)  (p_0 := by omega)) (fun o V_q hq => ?_)
    obtain ⟨G1194, A1195, at2_1196, tk2_1197, fk2_1198, rfl, rfl, hW1199, hF1200, e1201, e1202, e1203, p1204, p1205, q1206⟩ := hq
    have hF1207 := Fr_tr hF1041 hF1200 (Fr_sub (by decide)) (Fr_sub (by decide))
    have hP1208 := Pf_f hP1042 hF1200 (by decide)
    have hS1209 := Fx_f hS1043 hF1200 (by decide)
    have hV1210 := Fx_f hV1044 hF1200 (by decide)
    have sf1211 : PZ A1195 := (show A1195 = A1030 from funext (fun k => hF1200.2 k rfl)) ▸ sf1045
    have ec1212 : ecn A1195 (G1194 31) = ec := (ecn_f (hF1200.2 15 rfl) (hF1200.1 31 rfl)).trans ec1046
    have bat2_1196 : (0 : Int) ≤ at2_1196 ∧ at2_1196 ≤ 3002 := e1201 ▸ hW1199.1 10
    have ztk2_1197 := tz_b tk2_1197
    have btk2_1197 : (0 : Int) ≤ tk2_1197 ∧ tk2_1197 ≤ 5 := e1202 ▸ hW1199.1 11
    have bfk2_1198 : (0 : Int) ≤ fk2_1198 ∧ fk2_1198 ≤ 6 := e1203 ▸ hW1199.1 16
    refine .inl ⟨rfl, ?_⟩
    rcases q1206 with ⟨a1213, a1214, a1215, a1216⟩ | ⟨a1217, a1218, a1219, a1220⟩
    · have _q : True := trivial
      refine jx_ld (pc_q := 14) (l_q := [(0, .ref 66)]) (st_q := [.ref 66]) rfl (jl_aloadn rfl) ?_
      refine jx_vr (pc_q := 17) (as := []) (st := []) rfl rfl rfl rfl ⟨rfl, rfl, Nat.le_of_ble_eq_true rfl⟩ rfl rfl (c_endLine (dd := d) (hd := by omega) (hW := hW1199)  (ln := ln) (e_ln := show G1194 9 = ln from ((hF1200.1 9 rfl).trans ((hF1034.1 9 rfl).trans (e_ln)))) (li := li) (e_li := show G1194 3 = li from ((hF1200.1 3 rfl).trans ((hF1034.1 3 rfl).trans (e_li)))) (fk := fk2_1198) (e_fk := show G1194 16 = fk2_1198 from (e1203)) (tk0 := tk2_1197) (e_tk0 := show G1194 11 = tk2_1197 from (e1202))    (p_0 := by omega)) (fun o V_q hq => ?_)
      obtain ⟨G1221, A1222, ln2_1223, fk2_1224, rfl, rfl, hW1225, hF1226, e1227, e1228, q1229⟩ := hq
      have hF1230 := Fr_tr hF1207 hF1226 (Fr_sub (by decide)) (Fr_sub (by decide))
      have hP1231 := Pf_f hP1208 hF1226 (by decide)
      have hS1232 := Fx_f hS1209 hF1226 (by decide)
      have hV1233 := Fx_f hV1210 hF1226 (by decide)
      have sf1234 : PZ A1222 := (show A1222 = A1195 from funext (fun k => hF1226.2 k rfl)) ▸ sf1211
      have ec1235 : ecn A1222 (G1221 31) = ec := (ecn_f (hF1226.2 15 rfl) (hF1226.1 31 rfl)).trans ec1212
      have bln2_1223 : (0 : Int) ≤ ln2_1223 ∧ ln2_1223 ≤ 3000 := e1227 ▸ hW1225.1 9
      have bfk2_1224 : (0 : Int) ≤ fk2_1224 ∧ fk2_1224 ≤ 6 := e1228 ▸ hW1225.1 16
      refine .inl ⟨rfl, ?_⟩
      rcases q1229 with ⟨a1236, a1237, a1238, a1239, a1240⟩ | ⟨a1241, a1242⟩
      · have _q : True := trivial
        exfalso
        omega
      · have _q : True := trivial
        refine jx_ar (pc_q := 18) (st_q := [.int (i32 (0))]) rfl rfl rfl rfl ?_
        refine jx_ld (pc_q := 19) (l_q := jSto1 [(0, .ref 66)] 1 (.int (i32 (0)))) (st_q := []) rfl rfl ?_
        obtain ⟨L1243, eL1243⟩ : ∃ q, q = jSto1 [(0, .ref 66)] 1 (.int (i32 (0))) := ⟨_, rfl⟩
        rw [← eL1243]
        have gL1243_0 : jGet L1243 0 = some (.ref 66) := eL1243 ▸ jg_ne (by decide) (rfl : jGet [(0, .ref 66)] 0 = some (.ref 66)) rfl
        have gL1243_1 : jGet L1243 1 = some (.int (i32 (0))) := eL1243 ▸ jg_eq
        refine jx_ld (pc_q := 20) (l_q := L1243) (st_q := [.ref 66]) rfl (jl_aloadn gL1243_0) ?_
        refine jx_ar (pc_q := 21) (st_q := [.int (i32 (0)), .ref 66]) rfl rfl rfl rfl ?_
        have b1244 : (-1 : Int) ≤ A 5 (ln2_1223).toNat ∧ A 5 (ln2_1223).toNat ≤ 15 := hW.2 5 _
        refine jx_vr (pc_q := 24) (as := [.int (i32 (0))]) (st := []) rfl rfl rfl rfl ⟨rfl, rfl, Nat.le_of_ble_eq_true rfl⟩ rfl rfl (c_isBelow (dd := d) (hd := by omega) (hW := hW1225) (lv := 0) (ln := ln2_1223) (e_ln := show G1221 9 = ln2_1223 from (e1227)) (li := li) (e_li := show G1221 3 = li from ((hF1226.1 3 rfl).trans ((hF1200.1 3 rfl).trans ((hF1034.1 3 rfl).trans (e_li))))) (fk := fk2_1224) (e_fk := show G1221 16 = fk2_1224 from (e1228)) (ll := A 5 (ln2_1223).toNat) (e_ll := show A1222 5 (ln2_1223).toNat = A 5 (ln2_1223).toNat from (congrFun ((hF1226.2 5 rfl).trans ((hF1200.2 5 rfl).trans (hF1034.2 5 rfl))) _))  (h_lv := ⟨(by decide), (by decide)⟩)  (p_0 := by omega)) (fun o V_q hq => ?_)
        obtain ⟨G1245, A1246, r1247, fk2_1248, rfl, rfl, hW1249, hF1250, b1251, e1252, q1253⟩ := hq
        have hF1254 := Fr_tr hF1230 hF1250 (Fr_sub (by decide)) (Fr_sub (by decide))
        have hP1255 := Pf_f hP1231 hF1250 (by decide)
        have hS1256 := Fx_f hS1232 hF1250 (by decide)
        have hV1257 := Fx_f hV1233 hF1250 (by decide)
        have sf1258 : PZ A1246 := (show A1246 = A1222 from funext (fun k => hF1250.2 k rfl)) ▸ sf1234
        have ec1259 : ecn A1246 (G1245 31) = ec := (ecn_f (hF1250.2 15 rfl) (hF1250.1 31 rfl)).trans ec1235
        have bfk2_1248 : (0 : Int) ≤ fk2_1248 ∧ fk2_1248 ≤ 6 := e1252 ▸ hW1249.1 16
        refine .inr ⟨_, rfl, ?_⟩
        rcases q1253 with ⟨rfl, a1260, a1261, a1262, a1263⟩ | ⟨rfl, a1264⟩ | ⟨rfl, a1265, a1266, a1267⟩
        · have _q : True := trivial
          exfalso
          omega
        · have _q : True := trivial
          refine jx_if_eq (pc_q := 27) (tg := 125) rfl rfl rfl (by decide) (by decide) (fun h1268 => ?_) (fun h1268 => ?_)
          · have _q := h1268
            refine jx_ld (pc_q := 126) (l_q := L1243) (st_q := [.ref 66]) rfl (jl_aloadn gL1243_0) ?_
            refine jx_vr (pc_q := 129) (as := []) (st := []) rfl rfl rfl rfl ⟨rfl, rfl, Nat.le_of_ble_eq_true rfl⟩ rfl rfl (c_bad (dd := d) (hd := by omega) (hW := hW1249)  (fk := fk2_1248) (e_fk := show G1245 16 = fk2_1248 from (e1252))    ) (fun o V_q hq => ?_)
            obtain ⟨r1269, rfl, rfl, b1270, q1271⟩ := hq
            refine .inr ⟨_, rfl, ?_⟩
            rcases q1271 with ⟨rfl, a1272⟩ | ⟨rfl, a1273⟩
            · have _q : True := trivial
              refine jx_if_ne (pc_q := 132) (tg := 142) rfl rfl rfl (by decide) (by decide) (fun h1274 => ?_) (fun h1274 => ?_)
              · have _q := h1274
                refine jx_rt (v := none) rfl rfl rfl rfl rfl rfl ?_
                exact ⟨_, _, ln2_1223, at2_1196, fk2_1248, nd, sy, na, vi, A 3 (ln2_1223).toNat, ec, rfl, rfl, hW1249, hF1254, hP1255, hS1256, hV1257, ((hF1250.1 9 rfl).trans (e1227)), ((hF1250.1 10 rfl).trans ((hF1226.1 10 rfl).trans (e1201))), (e1252), ((hF1250.1 31 rfl).trans ((hF1226.1 31 rfl).trans ((hF1200.1 31 rfl).trans ((hF1034.1 31 rfl).trans (e_nd))))), ((hF1250.1 19 rfl).trans ((hF1226.1 19 rfl).trans ((hF1200.1 19 rfl).trans ((hF1034.1 19 rfl).trans (e_sy))))), ((hF1250.1 28 rfl).trans ((hF1226.1 28 rfl).trans ((hF1200.1 28 rfl).trans ((hF1034.1 28 rfl).trans (e_na))))), ((hF1250.1 29 rfl).trans ((hF1226.1 29 rfl).trans ((hF1200.1 29 rfl).trans ((hF1034.1 29 rfl).trans (e_vi))))), (congrFun ((hF1250.2 3 rfl).trans ((hF1226.2 3 rfl).trans ((hF1200.2 3 rfl).trans (hF1034.2 3 rfl)))) _), ec1259, by omega, by omega, by omega, by omega, by omega, by omega, by first | exact Or.inl (by omega)⟩
              · have _q := h1274
                exact absurd h1274 (by omega)
            · have _q : True := trivial
              exfalso
              omega
          · have _q := h1268
            exact absurd h1268 (by omega)
        · have _q : True := trivial
          exfalso
          omega
    · have _q : True := trivial
      exfalso
      omega
set_option maxRecDepth 20000 in
set_option maxHeartbeats 4000000 in
theorem c_readProgram_w_at_141_1 {X : jX} {d : Nat} {c0 c1 : jC} {G : Nat → Int} {A : Nat → Nat → Int} {T : jH} {ln li fk nd sy na vi lf pc lk ec : Int} (hd : 8 * 18 + 82 ≤ d + 1) (hW : Wk G A) (e_ln : G 9 = ln) (e_li : G 3 = li) (e_fk : G 16 = fk) (e_nd : G 31 = nd) (e_sy : G 19 = sy) (e_na : G 28 = na) (e_vi : G 29 = vi) (e_lf : A 3 (ln).toNat = lf) (e_pc : G 46 = pc) (e_lk : G 52 = lk) (e_ec : ecn A (G 31) = ec) (i_LT : LT G A) (p_0 : fk = 0) (p_1 : ln = 0) (p_2 : nd = 1) (p_3 : sy = 0) (p_4 : na = 0) (p_5 : vi = 0) (p_6 : pc = 0) (p_7 : lk = 0) (p_8 : PZ A) (p_9 : ec ≤ 1) : ∀ (L : jL) (Gx : Nat → Int) (Ax : Nat → Nat → Int) (ln1 at1 tk1 fk1 op1 nd1 sy1 na1 vi1 lf1 le1 pc1 lk1 ec1 : Int), jGet L 0 = some (.ref 66) → jGet L 2 = some (.int (i32 (1))) → Wk Gx Ax → Fr [9, 10, 11, 12, 13, 14, 15, 16, 17, 18, 19, 28, 29, 31, 46, 52] [6, 7, 8, 9, 10, 11, 12, 14, 15, 16, 17, 18, 19, 20, 21, 22, 23, 24, 28, 29, 30, 31, 34, 35, 36] G A Gx Ax → Gx 9 = ln1 → Gx 10 = at1 → Gx 11 = tk1 → Gx 16 = fk1 → Gx 15 = op1 → Gx 31 = nd1 → Gx 19 = sy1 → Gx 28 = na1 → Gx 29 = vi1 → Ax 3 (ln1).toNat = lf1 → Ax 4 (ln1).toNat = le1 → Gx 46 = pc1 → Gx 52 = lk1 → ecn Ax (Gx 31) = ec1 → (fk1 = 0) → (0 ≤ lf1) → (ln1 < li) → (lf1 < le1) → (2 * lf1 ≤ 2 * at1 - tz tk1) → (lf1 ≤ at1) → (at1 ≤ le1) → (nd1 ≤ 2 * lf1 + 2) → (op1 = 0) → (sy1 ≤ na1 + 2) → (vi1 ≤ sy1) → (PZ Ax) → (TL Ax (pc1) (nd1) (sy1) (lk1) (vi1)) → (nd1 + 5 * ec1 ≤ 2 * lf1 + 2 + 5) → (NdM Ax (nd) (nd1) (sy)) → wj X d jm312 (141, L, [], rV c0 c1 Gx Ax T) (fun o V_q => ∃ (G_q : Nat → Int) (A_q : Nat → Nat → Int) (ln2 : Int) (fk2 : Int) (nd2 : Int) (sy2 : Int) (na2 : Int) (vi2 : Int) (pc2 : Int) (lk2 : Int) (ec2 : Int), V_q = rV c0 c1 G_q A_q T ∧ o = .inl none ∧ Wk G_q A_q ∧ Fr [9, 10, 11, 12, 13, 14, 15, 16, 17, 18, 19, 28, 29, 31, 46, 52] [6, 7, 8, 9, 10, 11, 12, 14, 15, 16, 17, 18, 19, 20, 21, 22, 23, 24, 28, 29, 30, 31, 34, 35, 36] G A G_q A_q ∧ G_q 9 = ln2 ∧ G_q 16 = fk2 ∧ G_q 31 = nd2 ∧ G_q 19 = sy2 ∧ G_q 28 = na2 ∧ G_q 29 = vi2 ∧ G_q 46 = pc2 ∧ G_q 52 = lk2 ∧ ecn A_q (G_q 31) = ec2 ∧ (((1 ≤ fk2)) ∨ ((fk2 = 0) ∧ (TT A_q (pc2) (nd2) (sy2) (lk2)) ∧ (NdM A_q (nd) (nd2) (sy)) ∧ (nd2 + 5 * ec2 ≤ 6055)))) := by
  have hF0 : Fr [9, 10, 11, 12, 13, 14, 15, 16, 17, 18, 19, 28, 29, 31, 46, 52] [6, 7, 8, 9, 10, 11, 12, 14, 15, 16, 17, 18, 19, 20, 21, 22, 23, 24, 28, 29, 30, 31, 34, 35, 36] G A G A := Fr_rf
  have b_ln : (0 : Int) ≤ ln ∧ ln ≤ 3000 := e_ln ▸ hW.1 9
  have b_li : (0 : Int) ≤ li ∧ li ≤ 3000 := e_li ▸ hW.1 3
  have b_fk : (0 : Int) ≤ fk ∧ fk ≤ 6 := e_fk ▸ hW.1 16
  have b_nd : (0 : Int) ≤ nd ∧ nd ≤ 6999 := e_nd ▸ hW.1 31
  have b_sy : (0 : Int) ≤ sy ∧ sy ≤ 202 := e_sy ▸ hW.1 19
  have b_na : (0 : Int) ≤ na ∧ na ≤ 200 := e_na ▸ hW.1 28
  have b_vi : (0 : Int) ≤ vi ∧ vi ≤ 202 := e_vi ▸ hW.1 29
  have b_lf : (0 : Int) ≤ lf ∧ lf ≤ 3000 := e_lf ▸ hW.2 3 _
  have b_pc : (0 : Int) ≤ pc ∧ pc ≤ 24 := e_pc ▸ hW.1 46
  have b_lk : (0 : Int) ≤ lk ∧ lk ≤ 12 := e_lk ▸ hW.1 52
  intro L Gx Ax ln1 at1 tk1 fk1 op1 nd1 sy1 na1 vi1 lf1 le1 pc1 lk1 ec1 gL_0 gL_2 hWx hFx ex_ln1 ex_at1 ex_tk1 ex_fk1 ex_op1 ex_nd1 ex_sy1 ex_na1 ex_vi1 ex_lf1 ex_le1 ex_pc1 ex_lk1 ex_ec1 iv_0 iv_1 iv_2 iv_3 iv_4 iv_5 iv_6 iv_7 iv_8 iv_9 iv_10 iv_11 iv_12 iv_13 iv_14
  have b_ln1 : (0 : Int) ≤ ln1 ∧ ln1 ≤ 3000 := ex_ln1 ▸ hWx.1 9
  have b_at1 : (0 : Int) ≤ at1 ∧ at1 ≤ 3002 := ex_at1 ▸ hWx.1 10
  have z_tk1 := tz_f tk1
  have b_tk1 : (0 : Int) ≤ tk1 ∧ tk1 ≤ 5 := ex_tk1 ▸ hWx.1 11
  have b_fk1 : (0 : Int) ≤ fk1 ∧ fk1 ≤ 6 := ex_fk1 ▸ hWx.1 16
  have b_op1 : (-2147483648 : Int) ≤ op1 ∧ op1 ≤ 2147483647 := ex_op1 ▸ hWx.1 15
  have b_nd1 : (0 : Int) ≤ nd1 ∧ nd1 ≤ 6999 := ex_nd1 ▸ hWx.1 31
  have b_sy1 : (0 : Int) ≤ sy1 ∧ sy1 ≤ 202 := ex_sy1 ▸ hWx.1 19
  have b_na1 : (0 : Int) ≤ na1 ∧ na1 ≤ 200 := ex_na1 ▸ hWx.1 28
  have b_vi1 : (0 : Int) ≤ vi1 ∧ vi1 ≤ 202 := ex_vi1 ▸ hWx.1 29
  have b_pc1 : (0 : Int) ≤ pc1 ∧ pc1 ≤ 24 := ex_pc1 ▸ hWx.1 46
  have b_lk1 : (0 : Int) ≤ lk1 ∧ lk1 ≤ 12 := ex_lk1 ▸ hWx.1 52
  obtain ⟨Vs, s0, hs0, hlk0, h2s, hvb, hSW0, hPW0, hVL0, hwQ0, hwK0⟩ := iv_12; obtain ⟨sb, hsb⟩ : ∃ z : Int, z = sy1 := ⟨_, rfl⟩; obtain ⟨pb, hpb⟩ : ∃ z : Int, z = pc1 := ⟨_, rfl⟩; rw [← hsb] at hvb hSW0 hPW0 hVL0; rw [← hpb] at hPW0; have hle0 := wQ_le hwQ0
  refine jx_ld (pc_q := 142) (l_q := L) (st_q := [.int (i32 (1))]) rfl (jl_iloadn gL_2) ?_
  refine jx_if_eq (pc_q := 145) (tg := 184) rfl rfl rfl (by decide) (by decide) (fun h1 => ?_) (fun h1 => ?_)
  · have _q := h1
    exact absurd h1 (by omega)
  · have _q := h1
    refine jx_ld (pc_q := 146) (l_q := L) (st_q := [.ref 66]) rfl (jl_aloadn gL_0) ?_
    refine jx_vr (pc_q := 149) (as := []) (st := []) rfl rfl rfl rfl ⟨rfl, rfl, Nat.le_of_ble_eq_true rfl⟩ rfl rfl (c_bad (dd := d) (hd := by omega) (hW := hWx)  (fk := fk1) (e_fk := show Gx 16 = fk1 from (ex_fk1))    ) (fun o V_q hq => ?_)
    obtain ⟨r2, rfl, rfl, b3, q4⟩ := hq
    refine .inr ⟨_, rfl, ?_⟩
    rcases q4 with ⟨rfl, a5⟩ | ⟨rfl, a6⟩
    · have _q : True := trivial
      exfalso
      omega
    · have _q : True := trivial
      refine jx_if_ne (pc_q := 152) (tg := 170) rfl rfl rfl (by decide) (by decide) (fun h7 => ?_) (fun h7 => ?_)
      · have _q := h7
        exact absurd h7 (by omega)
      · have _q := h7
        refine jx_ld (pc_q := 153) (l_q := L) (st_q := [.ref 66]) rfl (jl_aloadn gL_0) ?_
        refine jx_ar (pc_q := 155) (st_q := [.int (i32 (19)), .ref 66]) rfl rfl rfl rfl ?_
        have b8 : (-2147483648 : Int) ≤ Gx 13 ∧ Gx 13 ≤ 2147483647 := hWx.1 13
        refine jx_vr (pc_q := 158) (as := [.int (i32 (19))]) (st := []) rfl rfl rfl rfl ⟨rfl, rfl, Nat.le_of_ble_eq_true rfl⟩ rfl rfl (c_isKey (dd := d) (hd := by omega) (hW := hWx) (k := 19) (tk := tk1) (e_tk := show Gx 11 = tk1 from (ex_tk1)) (tn := Gx 13) (e_tn := show Gx 13 = Gx 13 from rfl)  (h_k := ⟨(by decide), (by decide)⟩)  ) (fun o V_q hq => ?_)
        obtain ⟨r9, rfl, rfl, b10, q11⟩ := hq
        refine .inr ⟨_, rfl, ?_⟩
        rcases q11 with ⟨rfl, a12, a13, a14⟩ | rfl
        · have _q : True := trivial
          refine jx_if_ne (pc_q := 161) (tg := 170) rfl rfl rfl (by decide) (by decide) (fun h15 => ?_) (fun h15 => ?_)
          · have _q := h15
            refine jx_ld (pc_q := 171) (l_q := L) (st_q := [.ref 66]) rfl (jl_aloadn gL_0) ?_
            refine jx_vr (pc_q := 174) (as := []) (st := []) rfl rfl rfl rfl ⟨rfl, rfl, Nat.le_of_ble_eq_true rfl⟩ rfl rfl (c_bad (dd := d) (hd := by omega) (hW := hWx)  (fk := fk1) (e_fk := show Gx 16 = fk1 from (ex_fk1))    ) (fun o V_q hq => ?_)
            obtain ⟨r16, rfl, rfl, b17, q18⟩ := hq
            refine .inr ⟨_, rfl, ?_⟩
            rcases q18 with ⟨rfl, a19⟩ | ⟨rfl, a20⟩
            · have _q : True := trivial
              exfalso
              omega
            · have _q : True := trivial
              refine jx_if_ne (pc_q := 177) (tg := 195) rfl rfl rfl (by decide) (by decide) (fun h21 => ?_) (fun h21 => ?_)
              · have _q := h21
                exact absurd h21 (by omega)
              · have _q := h21
                refine jx_ld (pc_q := 178) (l_q := L) (st_q := [.ref 66]) rfl (jl_aloadn gL_0) ?_
                refine jx_vr (pc_q := 181) (as := []) (st := []) rfl rfl rfl rfl ⟨rfl, rfl, Nat.le_of_ble_eq_true rfl⟩ rfl rfl (c_readPlaced_w (dd := d) (hd := by omega) (hW := hWx)  (ln := ln1) (e_ln := show Gx 9 = ln1 from (ex_ln1)) (li := li) (e_li := show Gx 3 = li from ((hFx.1 3 rfl).trans (e_li))) (at0 := at1) (e_at0 := show Gx 10 = at1 from (ex_at1)) (fk := fk1) (e_fk := show Gx 16 = fk1 from (ex_fk1)) (nd := nd1) (e_nd := show Gx 31 = nd1 from (ex_nd1)) (sy := sy1) (e_sy := show Gx 19 = sy1 from (ex_sy1)) (na := na1) (e_na := show Gx 28 = na1 from (ex_na1)) (vi := vi1) (e_vi := show Gx 29 = vi1 from (ex_vi1)) (le := le1) (e_le := show Ax 4 (ln1).toNat = le1 from (ex_le1)) (op0 := op1) (e_op0 := show Gx 15 = op1 from (ex_op1)) (tk0 := tk1) (e_tk0 := show Gx 11 = tk1 from (ex_tk1)) (ec := ec1) (e_ec := show ecn Ax (Gx 31) = ec1 from ex_ec1) (i_LT := (LT_ext ((hFx.1 3 rfl)) ((hFx.2 3 rfl)) ((hFx.2 4 rfl)) i_LT)) (i_SV := (SW_sv hSW0 ((show Gx 29 = vi1 from (ex_vi1)).trans (by omega)))) (i_PQ := hPW0) (hvb := hvb)   (p_0 := by omega) (p_1 := by omega) (p_2 := by omega) (p_3 := by omega) (p_4 := by omega) (p_5 := by omega) (p_6 := by omega) (p_7 := by omega) (p_8 := iv_11) (p_9 := by omega)) (fun o V_q hq => ?_)
                obtain ⟨G22, A23, ln2_24, at2_25, fk2_26, nd2_27, sy2_28, na2_29, vi2_30, lf2_31, ec2_32, rfl, rfl, hW33, hF34, hQ35, hQ36, hQ37, e38, e39, e40, e41, e42, e43, e44, e45, e46, p47, p48, p49, p50, p51, p52, q53⟩ := hq
                have hF54 := Fr_tr hFx hF34 (Fr_sub (by decide)) (Fr_sub (by decide))
                have sf55 : NdM A23 (nd) (nd1) (sy) := NdM_pf hQ35 (by omega) (by omega) iv_14
                have sf56 : SW (Vs) (sb) (vi1) A23 := SW_fx hQ37 (by omega) hSW0
                have sf57 : PQ (Vs) (sb) (pb) (fun _ => 0) A23 := PQ_fxq hPW0 hQ36 (by omega) (Fx_f (w := pb) Fx_rf hF34 (by decide)) (by omega)
                have sf58 : VL (Vs) A23 (s0) (sb) := VL_fx hQ36 (by omega) hVL0
                have sf59 : wQ A23 (pc1).toNat (nd1) (s0) := wQ_fx (fun k j hk hj => hQ35 k j hk (by omega)) (Fx_su hQ36 (by omega)) (Fx_su (Fx_f (w := pc1) Fx_rf hF34 (by decide)) (by omega)) hwQ0
                have sf60 : wK A23 (s0) (lk1) := wK_fx hQ36 (Fx_f (w := lk1) Fx_rf hF34 (by decide)) (by omega) (by omega) (by omega) hwK0
                have bln2_24 : (0 : Int) ≤ ln2_24 ∧ ln2_24 ≤ 3000 := e38 ▸ hW33.1 9
                have bat2_25 : (0 : Int) ≤ at2_25 ∧ at2_25 ≤ 3002 := e39 ▸ hW33.1 10
                have bfk2_26 : (0 : Int) ≤ fk2_26 ∧ fk2_26 ≤ 6 := e40 ▸ hW33.1 16
                have bnd2_27 : (0 : Int) ≤ nd2_27 ∧ nd2_27 ≤ 6999 := e41 ▸ hW33.1 31
                have bsy2_28 : (0 : Int) ≤ sy2_28 ∧ sy2_28 ≤ 202 := e42 ▸ hW33.1 19
                have bna2_29 : (0 : Int) ≤ na2_29 ∧ na2_29 ≤ 200 := e43 ▸ hW33.1 28
                have bvi2_30 : (0 : Int) ≤ vi2_30 ∧ vi2_30 ≤ 202 := e44 ▸ hW33.1 29
                have blf2_31 : (0 : Int) ≤ lf2_31 ∧ lf2_31 ≤ 3000 := e45 ▸ hW33.2 3 _
                refine .inl ⟨rfl, ?_⟩
                rcases q53 with a61 | ⟨a62, a63, a64, a65⟩
                · have _q : True := trivial
                  refine jx_go (tg := 195) rfl rfl ?_
                  refine jx_ld (pc_q := 196) (l_q := L) (st_q := [.ref 66]) rfl (jl_aloadn gL_0) ?_
                  refine jx_vr (pc_q := 199) (as := []) (st := []) rfl rfl rfl rfl ⟨rfl, rfl, Nat.le_of_ble_eq_true rfl⟩ rfl rfl (c_bad (dd := d) (hd := by omega) (hW := hW33)  (fk := fk2_26) (e_fk := show G22 16 = fk2_26 from (e40))    ) (fun o V_q hq => ?_)
                  obtain ⟨r66, rfl, rfl, b67, q68⟩ := hq
                  refine .inr ⟨_, rfl, ?_⟩
                  rcases q68 with ⟨rfl, a69⟩ | ⟨rfl, a70⟩
                  · have _q : True := trivial
                    refine jx_if_ne (pc_q := 202) (tg := 237) rfl rfl rfl (by decide) (by decide) (fun h71 => ?_) (fun h71 => ?_)
                    · have _q := h71
                      refine jx_rt (v := none) rfl rfl rfl rfl rfl rfl ?_
                      exact ⟨_, _, ln2_24, fk2_26, nd2_27, sy2_28, na2_29, vi2_30, pc1, lk1, ec2_32, rfl, rfl, hW33, hF54, (e38), (e40), (e41), (e42), (e43), (e44), ((hF34.1 46 rfl).trans (ex_pc1)), ((hF34.1 52 rfl).trans (ex_lk1)), e46, by first | exact Or.inl (by omega)⟩
                    · have _q := h71
                      exact absurd h71 (by omega)
                  · have _q : True := trivial
                    exfalso
                    omega
                · have _q : True := trivial
                  refine jx_go (tg := 195) rfl rfl ?_
                  refine jx_ld (pc_q := 196) (l_q := L) (st_q := [.ref 66]) rfl (jl_aloadn gL_0) ?_
                  refine jx_vr (pc_q := 199) (as := []) (st := []) rfl rfl rfl rfl ⟨rfl, rfl, Nat.le_of_ble_eq_true rfl⟩ rfl rfl (c_bad (dd := d) (hd := by omega) (hW := hW33)  (fk := fk2_26) (e_fk := show G22 16 = fk2_26 from (e40))    ) (fun o V_q hq => ?_)
                  obtain ⟨r72, rfl, rfl, b73, q74⟩ := hq
                  refine .inr ⟨_, rfl, ?_⟩
                  rcases q74 with ⟨rfl, a75⟩ | ⟨rfl, a76⟩
                  · have _q : True := trivial
                    exfalso
                    omega
                  · have _q : True := trivial
                    refine jx_if_ne (pc_q := 202) (tg := 237) rfl rfl rfl (by decide) (by decide) (fun h77 => ?_) (fun h77 => ?_)
                    · have _q := h77
                      exact absurd h77 (by omega)
                    · have _q := h77
                      refine jx_ld (pc_q := 203) (l_q := L) (st_q := [.ref 66]) rfl (jl_aloadn gL_0) ?_
                      refine jr_get (pc_q := 206) (i := 9) (v := .int (i32 (ln2_24))) rfl rfl (by decide) (rFv_eq (by decide) (show G22 9 = ln2_24 from (e38))) rfl ?_
                      refine jx_ld (pc_q := 207) (l_q := L) (st_q := [.ref 66, .int (i32 (ln2_24))]) rfl (jl_aloadn gL_0) ?_
                      refine jr_get (pc_q := 210) (i := 3) (v := .int (i32 (li))) rfl rfl (by decide) (rFv_eq (by decide) (show G22 3 = li from ((hF34.1 3 rfl).trans ((hFx.1 3 rfl).trans (e_li))))) rfl ?_
                      refine jx_icmp_ge (pc_q := 213) (tg := 237) rfl rfl rfl (Int.le_trans (by decide : (-2147483648 : Int) ≤ 0) bln2_24.1) (Int.le_trans bln2_24.2 (by decide : (3000 : Int) ≤ 2147483647)) (Int.le_trans (by decide : (-2147483648 : Int) ≤ 0) b_li.1) (Int.le_trans b_li.2 (by decide : (3000 : Int) ≤ 2147483647)) (fun h78 => ?_) (fun h78 => ?_)
                      · have _q := h78
                        refine jx_rt (v := none) rfl rfl rfl rfl rfl rfl ?_
                        exact ⟨_, _, ln2_24, fk2_26, nd2_27, sy2_28, na2_29, vi2_30, pc1, lk1, ec2_32, rfl, rfl, hW33, hF54, (e38), (e40), (e41), (e42), (e43), (e44), ((hF34.1 46 rfl).trans (ex_pc1)), ((hF34.1 52 rfl).trans (ex_lk1)), e46, by first | exact Or.inr ((⟨by omega, (TT_mk (V := Vs) (lo := nd1) (s0 := s0) (t0 := sb) (by omega) (by omega) (by omega) hvb sf58 sf59 sf60 a63 (by omega) (by omega) (by omega) (by omega) (by omega) (by omega) (by omega) (by omega) (by omega) (by omega) (by omega)), (NdM_w (NdM_app (sy := sy) sf55 a64 (by omega) (by omega) (by omega)) (by omega) (by omega) (by omega)), by omega⟩))⟩
                      · have _q := h78
                        refine jx_ld (pc_q := 214) (l_q := L) (st_q := [.ref 66]) rfl (jl_aloadn gL_0) ?_
                        refine jx_ar (pc_q := 215) (st_q := [.int (i32 (1)), .ref 66]) rfl rfl rfl rfl ?_
                        refine jx_ld (pc_q := 216) (l_q := L) (st_q := [.ref 66, .int (i32 (1)), .ref 66]) rfl (jl_aloadn gL_0) ?_
                        refine jr_get (pc_q := 219) (i := 6) (v := .ref 70) rfl rfl (by decide) rfl rfl ?_
                        refine jx_ld (pc_q := 220) (l_q := L) (st_q := [.ref 66, .ref 70, .int (i32 (1)), .ref 66]) rfl (jl_aloadn gL_0) ?_
                        refine jr_get (pc_q := 223) (i := 9) (v := .int (i32 (ln2_24))) rfl rfl (by decide) (rFv_eq (by decide) (show G22 9 = ln2_24 from (e38))) rfl ?_
                        refine jr_ldv (pc_q := 224) (i := 3) (m := 3001) (z := ln2_24) (y := lf2_31) rfl (by decide) rfl (by decide) (Int.le_trans (by decide : (0 : Int) ≤ 0) bln2_24.1) (Int.lt_of_le_of_lt bln2_24.2 (by decide : (3000 : Int) < ((3001 : Nat) : Int))) rfl (show A23 3 (ln2_24).toNat = lf2_31 from (e45)) ?_
                        refine jx_ld (pc_q := 225) (l_q := L) (st_q := [.ref 66, .int (i32 (lf2_31)), .int (i32 (1)), .ref 66]) rfl (jl_aloadn gL_0) ?_
                        refine jr_get (pc_q := 228) (i := 5) (v := .ref 69) rfl rfl (by decide) rfl rfl ?_
                        refine jx_ld (pc_q := 229) (l_q := L) (st_q := [.ref 66, .ref 69, .int (i32 (lf2_31)), .int (i32 (1)), .ref 66]) rfl (jl_aloadn gL_0) ?_
                        refine jr_get (pc_q := 232) (i := 9) (v := .int (i32 (ln2_24))) rfl rfl (by decide) (rFv_eq (by decide) (show G22 9 = ln2_24 from (e38))) rfl ?_
                        have b79 : (0 : Int) ≤ A 2 (ln2_24).toNat ∧ A 2 (ln2_24).toNat ≤ 3000 := hW.2 2 _
                        refine jr_ldv (pc_q := 233) (i := 2) (m := 3001) (z := ln2_24) (y := A 2 (ln2_24).toNat) rfl (by decide) rfl (by decide) (Int.le_trans (by decide : (0 : Int) ≤ 0) bln2_24.1) (Int.lt_of_le_of_lt bln2_24.2 (by decide : (3000 : Int) < ((3001 : Nat) : Int))) rfl (show A23 2 (ln2_24).toNat = A 2 (ln2_24).toNat from (congrFun ((hF34.2 2 rfl).trans (hFx.2 2 rfl)) _)) ?_
                        refine jx_sub (pc_q := 234) rfl rfl ?_
                        refine jx_vr (pc_q := 237) (as := [.int (i32 (1)), .int (i32 ((lf2_31 - A 2 (ln2_24).toNat)))]) (st := []) rfl rfl rfl rfl ⟨rfl, rfl, Nat.le_of_ble_eq_true rfl⟩ rfl rfl (c_fail (dd := d) (hd := by omega) (hW := hW33) (kind := 1) (place := (lf2_31 - A 2 (ln2_24).toNat)) (fk := fk2_26) (e_fk := show G22 16 = fk2_26 from (e40))  (h_kind := ⟨(by decide), (by decide)⟩) (h_place := ⟨(by omega), (by omega)⟩)  (p_0 := by omega) (p_1 := by omega)) (fun o V_q hq => ?_)
                        obtain ⟨G80, A81, fk2_82, rfl, rfl, hW83, hF84, e85, p86, -⟩ := hq
                        have hF88 := Fr_tr hF54 hF84 (Fr_sub (by decide)) (Fr_sub (by decide))
                        have sf89 : NdM A81 (nd) (nd1) (sy) := NdM_f hF84 (by decide) sf55
                        have sf90 : SW (Vs) (sb) (vi1) A81 := (show A81 = A23 from funext (fun k => hF84.2 k rfl)) ▸ sf56
                        have sf91 : PQ (Vs) (sb) (pb) (fun _ => 0) A81 := (show A81 = A23 from funext (fun k => hF84.2 k rfl)) ▸ sf57
                        have sf92 : VL (Vs) A81 (s0) (sb) := (show A81 = A23 from funext (fun k => hF84.2 k rfl)) ▸ sf58
                        have sf93 : wQ A81 (pc1).toNat (nd1) (s0) := (show A81 = A23 from funext (fun k => hF84.2 k rfl)) ▸ sf59
                        have sf94 : wK A81 (s0) (lk1) := (show A81 = A23 from funext (fun k => hF84.2 k rfl)) ▸ sf60
                        have sf95 : wB A81 Vs pb (nd1) (nd2_27) (sy1) (sy2_28) := (show A81 = A23 from funext (fun k => hF84.2 k rfl)) ▸ a63
                        have sf96 : NdM A81 (nd1) (nd2_27) (sy1) := NdM_f hF84 (by decide) a64
                        have ec97 : ecn A81 (G80 31) = ec2_32 := (ecn_f (hF84.2 15 rfl) (hF84.1 31 rfl)).trans e46
                        have bfk2_82 : (0 : Int) ≤ fk2_82 ∧ fk2_82 ≤ 6 := e85 ▸ hW83.1 16
                        refine .inl ⟨rfl, ?_⟩
                        refine jx_rt (v := none) rfl rfl rfl rfl rfl rfl ?_
                        exact ⟨_, _, ln2_24, fk2_82, nd2_27, sy2_28, na2_29, vi2_30, pc1, lk1, ec2_32, rfl, rfl, hW83, hF88, ((hF84.1 9 rfl).trans (e38)), (e85), ((hF84.1 31 rfl).trans (e41)), ((hF84.1 19 rfl).trans (e42)), ((hF84.1 28 rfl).trans (e43)), ((hF84.1 29 rfl).trans (e44)), ((hF84.1 46 rfl).trans ((hF34.1 46 rfl).trans (ex_pc1))), ((hF84.1 52 rfl).trans ((hF34.1 52 rfl).trans (ex_lk1))), ec97, by first | exact Or.inl (by omega)⟩
          · have _q := h15
            exact absurd h15 (by omega)
        · have _q : True := trivial
          refine jx_if_ne (pc_q := 161) (tg := 170) rfl rfl rfl (by decide) (by decide) (fun h98 => ?_) (fun h98 => ?_)
          · have _q := h98
            exact absurd h98 (by omega)
          · have _q := h98
            refine jx_ld (pc_q := 162) (l_q := L) (st_q := [.ref 66]) rfl (jl_aloadn gL_0) ?_
            refine jx_ar (pc_q := 163) (st_q := [.int (i32 (1)), .ref 66]) rfl rfl rfl rfl ?_
            refine jx_ld (pc_q := 164) (l_q := L) (st_q := [.ref 66, .int (i32 (1)), .ref 66]) rfl (jl_aloadn gL_0) ?_
            have b99 : (-3000 : Int) ≤ Gx 12 ∧ Gx 12 ≤ 3002 := hWx.1 12
            refine jr_get (pc_q := 167) (i := 12) (v := .int (i32 (Gx 12))) rfl rfl (by decide) rfl rfl ?_
            refine jx_vr (pc_q := 170) (as := [.int (i32 (1)), .int (i32 (Gx 12))]) (st := []) rfl rfl rfl rfl ⟨rfl, rfl, Nat.le_of_ble_eq_true rfl⟩ rfl rfl (c_fail (dd := d) (hd := by omega) (hW := hWx) (kind := 1) (place := Gx 12) (fk := fk1) (e_fk := show Gx 16 = fk1 from (ex_fk1))  (h_kind := ⟨(by decide), (by decide)⟩) (h_place := ⟨(Int.le_trans (by decide : (-2147483648 : Int) ≤ -3000) b99.1), (Int.le_trans b99.2 (by decide : (3002 : Int) ≤ 2147483647))⟩)  (p_0 := by omega) (p_1 := by omega)) (fun o V_q hq => ?_)
            obtain ⟨G100, A101, fk2_102, rfl, rfl, hW103, hF104, e105, p106, -⟩ := hq
            have hF108 := Fr_tr hFx hF104 (Fr_sub (by decide)) (Fr_sub (by decide))
            have sf109 : PZ A101 := (show A101 = Ax from funext (fun k => hF104.2 k rfl)) ▸ iv_11
            have sf110 : NdM A101 (nd) (nd1) (sy) := NdM_f hF104 (by decide) iv_14
            have sf111 : SW (Vs) (sb) (vi1) A101 := (show A101 = Ax from funext (fun k => hF104.2 k rfl)) ▸ hSW0
            have sf112 : PQ (Vs) (sb) (pb) (fun _ => 0) A101 := (show A101 = Ax from funext (fun k => hF104.2 k rfl)) ▸ hPW0
            have sf113 : VL (Vs) A101 (s0) (sb) := (show A101 = Ax from funext (fun k => hF104.2 k rfl)) ▸ hVL0
            have sf114 : wQ A101 (pc1).toNat (nd1) (s0) := (show A101 = Ax from funext (fun k => hF104.2 k rfl)) ▸ hwQ0
            have sf115 : wK A101 (s0) (lk1) := (show A101 = Ax from funext (fun k => hF104.2 k rfl)) ▸ hwK0
            have ec116 : ecn A101 (G100 31) = ec1 := (ecn_f (hF104.2 15 rfl) (hF104.1 31 rfl)).trans ex_ec1
            have bfk2_102 : (0 : Int) ≤ fk2_102 ∧ fk2_102 ≤ 6 := e105 ▸ hW103.1 16
            refine .inl ⟨rfl, ?_⟩
            refine jx_ld (pc_q := 171) (l_q := L) (st_q := [.ref 66]) rfl (jl_aloadn gL_0) ?_
            refine jx_vr (pc_q := 174) (as := []) (st := []) rfl rfl rfl rfl ⟨rfl, rfl, Nat.le_of_ble_eq_true rfl⟩ rfl rfl (c_bad (dd := d) (hd := by omega) (hW := hW103)  (fk := fk2_102) (e_fk := show G100 16 = fk2_102 from (e105))    ) (fun o V_q hq => ?_)
            obtain ⟨r117, rfl, rfl, b118, q119⟩ := hq
            refine .inr ⟨_, rfl, ?_⟩
            rcases q119 with ⟨rfl, a120⟩ | ⟨rfl, a121⟩
            · have _q : True := trivial
              refine jx_if_ne (pc_q := 177) (tg := 195) rfl rfl rfl (by decide) (by decide) (fun h122 => ?_) (fun h122 => ?_)
              · have _q := h122
                refine jx_ld (pc_q := 196) (l_q := L) (st_q := [.ref 66]) rfl (jl_aloadn gL_0) ?_
                refine jx_vr (pc_q := 199) (as := []) (st := []) rfl rfl rfl rfl ⟨rfl, rfl, Nat.le_of_ble_eq_true rfl⟩ rfl rfl (c_bad (dd := d) (hd := by omega) (hW := hW103)  (fk := fk2_102) (e_fk := show G100 16 = fk2_102 from (e105))    ) (fun o V_q hq => ?_)
                obtain ⟨r123, rfl, rfl, b124, q125⟩ := hq
                refine .inr ⟨_, rfl, ?_⟩
                rcases q125 with ⟨rfl, a126⟩ | ⟨rfl, a127⟩
                · have _q : True := trivial
                  refine jx_if_ne (pc_q := 202) (tg := 237) rfl rfl rfl (by decide) (by decide) (fun h128 => ?_) (fun h128 => ?_)
                  · have _q := h128
                    refine jx_rt (v := none) rfl rfl rfl rfl rfl rfl ?_
                    exact ⟨_, _, ln1, fk2_102, nd1, sy1, na1, vi1, pc1, lk1, ec1, rfl, rfl, hW103, hF108, ((hF104.1 9 rfl).trans (ex_ln1)), (e105), ((hF104.1 31 rfl).trans (ex_nd1)), ((hF104.1 19 rfl).trans (ex_sy1)), ((hF104.1 28 rfl).trans (ex_na1)), ((hF104.1 29 rfl).trans (ex_vi1)), ((hF104.1 46 rfl).trans (ex_pc1)), ((hF104.1 52 rfl).trans (ex_lk1)), ec116, by first | exact Or.inl (by omega)⟩
                  · have _q := h128
                    exact absurd h128 (by omega)
                · have _q : True := trivial
                  exfalso
                  omega
              · have _q := h122
                exact absurd h122 (by omega)
            · have _q : True := trivial
              exfalso
              omega
set_option maxRecDepth 20000 in
set_option maxHeartbeats 4000000 in
theorem c_readProgram_w_at_106_1 {X : jX} {d : Nat} {c0 c1 : jC} {G : Nat → Int} {A : Nat → Nat → Int} {T : jH} {ln li fk nd sy na vi lf pc lk ec : Int} (hd : 8 * 18 + 82 ≤ d + 1) (hW : Wk G A) (e_ln : G 9 = ln) (e_li : G 3 = li) (e_fk : G 16 = fk) (e_nd : G 31 = nd) (e_sy : G 19 = sy) (e_na : G 28 = na) (e_vi : G 29 = vi) (e_lf : A 3 (ln).toNat = lf) (e_pc : G 46 = pc) (e_lk : G 52 = lk) (e_ec : ecn A (G 31) = ec) (i_LT : LT G A) (p_0 : fk = 0) (p_1 : ln = 0) (p_2 : nd = 1) (p_3 : sy = 0) (p_4 : na = 0) (p_5 : vi = 0) (p_6 : pc = 0) (p_7 : lk = 0) (p_8 : PZ A) (p_9 : ec ≤ 1) : ∀ (m : Nat) (L : jL) (Gx : Nat → Int) (Ax : Nat → Nat → Int) (ln1 at1 tk1 fk1 op1 nd1 sy1 na1 vi1 lf1 le1 pc1 lk1 ec1 : Int), (li - ln1).toNat = m → jGet L 0 = some (.ref 66) → jGet L 2 = some (.int (i32 (1))) → Wk Gx Ax → Fr [9, 10, 11, 12, 13, 14, 15, 16, 17, 18, 19, 28, 29, 31, 46, 52] [6, 7, 8, 9, 10, 11, 12, 14, 15, 16, 17, 18, 19, 20, 21, 22, 23, 24, 28, 29, 30, 31, 34, 35, 36] G A Gx Ax → Gx 9 = ln1 → Gx 10 = at1 → Gx 11 = tk1 → Gx 16 = fk1 → Gx 15 = op1 → Gx 31 = nd1 → Gx 19 = sy1 → Gx 28 = na1 → Gx 29 = vi1 → Ax 3 (ln1).toNat = lf1 → Ax 4 (ln1).toNat = le1 → Gx 46 = pc1 → Gx 52 = lk1 → ecn Ax (Gx 31) = ec1 → (fk1 = 0) → (0 ≤ lf1) → (ln1 < li) → (lf1 < le1) → (2 * lf1 ≤ 2 * at1 - tz tk1) → (lf1 ≤ at1) → (at1 ≤ le1) → (nd1 ≤ 2 * lf1 + 2) → (op1 = 0) → (sy1 ≤ na1 + 2) → (vi1 ≤ sy1) → (PZ Ax) → (TL Ax (pc1) (nd1) (sy1) (lk1) (vi1)) → (nd1 + 5 * ec1 ≤ 2 * lf1 + 2 + 5) → (NdM Ax (nd) (nd1) (sy)) → wj X d jm312 (106, L, [], rV c0 c1 Gx Ax T) (fun o V_q => ∃ (G_q : Nat → Int) (A_q : Nat → Nat → Int) (ln2 : Int) (fk2 : Int) (nd2 : Int) (sy2 : Int) (na2 : Int) (vi2 : Int) (pc2 : Int) (lk2 : Int) (ec2 : Int), V_q = rV c0 c1 G_q A_q T ∧ o = .inl none ∧ Wk G_q A_q ∧ Fr [9, 10, 11, 12, 13, 14, 15, 16, 17, 18, 19, 28, 29, 31, 46, 52] [6, 7, 8, 9, 10, 11, 12, 14, 15, 16, 17, 18, 19, 20, 21, 22, 23, 24, 28, 29, 30, 31, 34, 35, 36] G A G_q A_q ∧ G_q 9 = ln2 ∧ G_q 16 = fk2 ∧ G_q 31 = nd2 ∧ G_q 19 = sy2 ∧ G_q 28 = na2 ∧ G_q 29 = vi2 ∧ G_q 46 = pc2 ∧ G_q 52 = lk2 ∧ ecn A_q (G_q 31) = ec2 ∧ (((1 ≤ fk2)) ∨ ((fk2 = 0) ∧ (TT A_q (pc2) (nd2) (sy2) (lk2)) ∧ (NdM A_q (nd) (nd2) (sy)) ∧ (nd2 + 5 * ec2 ≤ 6055)))) := by
  have hF0 : Fr [9, 10, 11, 12, 13, 14, 15, 16, 17, 18, 19, 28, 29, 31, 46, 52] [6, 7, 8, 9, 10, 11, 12, 14, 15, 16, 17, 18, 19, 20, 21, 22, 23, 24, 28, 29, 30, 31, 34, 35, 36] G A G A := Fr_rf
  have b_ln : (0 : Int) ≤ ln ∧ ln ≤ 3000 := e_ln ▸ hW.1 9
  have b_li : (0 : Int) ≤ li ∧ li ≤ 3000 := e_li ▸ hW.1 3
  have b_fk : (0 : Int) ≤ fk ∧ fk ≤ 6 := e_fk ▸ hW.1 16
  have b_nd : (0 : Int) ≤ nd ∧ nd ≤ 6999 := e_nd ▸ hW.1 31
  have b_sy : (0 : Int) ≤ sy ∧ sy ≤ 202 := e_sy ▸ hW.1 19
  have b_na : (0 : Int) ≤ na ∧ na ≤ 200 := e_na ▸ hW.1 28
  have b_vi : (0 : Int) ≤ vi ∧ vi ≤ 202 := e_vi ▸ hW.1 29
  have b_lf : (0 : Int) ≤ lf ∧ lf ≤ 3000 := e_lf ▸ hW.2 3 _
  have b_pc : (0 : Int) ≤ pc ∧ pc ≤ 24 := e_pc ▸ hW.1 46
  have b_lk : (0 : Int) ≤ lk ∧ lk ≤ 12 := e_lk ▸ hW.1 52
  intro m
  induction m using Nat.strongRecOn with
  | ind m ih106_1 =>
    intro L Gx Ax ln1 at1 tk1 fk1 op1 nd1 sy1 na1 vi1 lf1 le1 pc1 lk1 ec1 hm gL_0 gL_2 hWx hFx ex_ln1 ex_at1 ex_tk1 ex_fk1 ex_op1 ex_nd1 ex_sy1 ex_na1 ex_vi1 ex_lf1 ex_le1 ex_pc1 ex_lk1 ex_ec1 iv_0 iv_1 iv_2 iv_3 iv_4 iv_5 iv_6 iv_7 iv_8 iv_9 iv_10 iv_11 iv_12 iv_13 iv_14
    have b_ln1 : (0 : Int) ≤ ln1 ∧ ln1 ≤ 3000 := ex_ln1 ▸ hWx.1 9
    have b_at1 : (0 : Int) ≤ at1 ∧ at1 ≤ 3002 := ex_at1 ▸ hWx.1 10
    have z_tk1 := tz_f tk1
    have b_tk1 : (0 : Int) ≤ tk1 ∧ tk1 ≤ 5 := ex_tk1 ▸ hWx.1 11
    have b_fk1 : (0 : Int) ≤ fk1 ∧ fk1 ≤ 6 := ex_fk1 ▸ hWx.1 16
    have b_op1 : (-2147483648 : Int) ≤ op1 ∧ op1 ≤ 2147483647 := ex_op1 ▸ hWx.1 15
    have b_nd1 : (0 : Int) ≤ nd1 ∧ nd1 ≤ 6999 := ex_nd1 ▸ hWx.1 31
    have b_sy1 : (0 : Int) ≤ sy1 ∧ sy1 ≤ 202 := ex_sy1 ▸ hWx.1 19
    have b_na1 : (0 : Int) ≤ na1 ∧ na1 ≤ 200 := ex_na1 ▸ hWx.1 28
    have b_vi1 : (0 : Int) ≤ vi1 ∧ vi1 ≤ 202 := ex_vi1 ▸ hWx.1 29
    have b_pc1 : (0 : Int) ≤ pc1 ∧ pc1 ≤ 24 := ex_pc1 ▸ hWx.1 46
    have b_lk1 : (0 : Int) ≤ lk1 ∧ lk1 ≤ 12 := ex_lk1 ▸ hWx.1 52
    obtain ⟨Vs, s0, hs0, hlk0, h2s, hvb, hSW0, hPW0, hVL0, hwQ0, hwK0⟩ := iv_12; obtain ⟨sb, hsb⟩ : ∃ z : Int, z = sy1 := ⟨_, rfl⟩; obtain ⟨pb, hpb⟩ : ∃ z : Int, z = pc1 := ⟨_, rfl⟩; rw [← hsb] at hvb hSW0 hPW0 hVL0; rw [← hpb] at hPW0; have hle0 := wQ_le hwQ0
    refine jx_ld (pc_q := 107) (l_q := L) (st_q := [.ref 66]) rfl (jl_aloadn gL_0) ?_
    refine jx_vr (pc_q := 110) (as := []) (st := []) rfl rfl rfl rfl ⟨rfl, rfl, Nat.le_of_ble_eq_true rfl⟩ rfl rfl (c_bad (dd := d) (hd := by omega) (hW := hWx)  (fk := fk1) (e_fk := show Gx 16 = fk1 from (ex_fk1))    ) (fun o V_q hq => ?_)
    obtain ⟨r129, rfl, rfl, b130, q131⟩ := hq
    refine .inr ⟨_, rfl, ?_⟩
    rcases q131 with ⟨rfl, a132⟩ | ⟨rfl, a133⟩
    · have _q : True := trivial
      exfalso
      omega
    · have _q : True := trivial
      refine jx_if_ne (pc_q := 113) (tg := 141) rfl rfl rfl (by decide) (by decide) (fun h134 => ?_) (fun h134 => ?_)
      · have _q := h134
        exact absurd h134 (by omega)
      · have _q := h134
        refine jx_ld (pc_q := 114) (l_q := L) (st_q := [.ref 66]) rfl (jl_aloadn gL_0) ?_
        refine jx_ar (pc_q := 116) (st_q := [.int (i32 (21)), .ref 66]) rfl rfl rfl rfl ?_
        have b135 : (-2147483648 : Int) ≤ Gx 13 ∧ Gx 13 ≤ 2147483647 := hWx.1 13
        refine jx_vr (pc_q := 119) (as := [.int (i32 (21))]) (st := []) rfl rfl rfl rfl ⟨rfl, rfl, Nat.le_of_ble_eq_true rfl⟩ rfl rfl (c_isKey2 (dd := d) (hd := by omega) (hW := hWx) (k := 21) (tk := tk1) (e_tk := show Gx 11 = tk1 from (ex_tk1)) (tn := Gx 13) (e_tn := show Gx 13 = Gx 13 from rfl)  (h_k := ⟨(by decide), (by decide)⟩)  ) (fun o V_q hq => ?_)
        obtain ⟨r136, rfl, rfl, b137, q138⟩ := hq
        refine .inr ⟨_, rfl, ?_⟩
        rcases q138 with ⟨rfl, a139, a140, a141⟩ | ⟨rfl, a142⟩
        · have _q : True := trivial
          refine jx_if_eq (pc_q := 122) (tg := 141) rfl rfl rfl (by decide) (by decide) (fun h143 => ?_) (fun h143 => ?_)
          · have _q := h143
            exact absurd h143 (by omega)
          · have _q := h143
            refine jx_ld (pc_q := 123) (l_q := L) (st_q := [.ref 66]) rfl (jl_aloadn gL_0) ?_
            refine jx_vr (pc_q := 126) (as := []) (st := []) rfl rfl rfl rfl ⟨rfl, rfl, Nat.le_of_ble_eq_true rfl⟩ rfl rfl (c_readLink (dd := d) (hd := by omega) (hW := hWx)  (ln := ln1) (e_ln := show Gx 9 = ln1 from (ex_ln1)) (le := le1) (e_le := show Ax 4 (ln1).toNat = le1 from (ex_le1)) (at0 := at1) (e_at0 := show Gx 10 = at1 from (ex_at1)) (fk := fk1) (e_fk := show Gx 16 = fk1 from (ex_fk1)) (tk0 := tk1) (e_tk0 := show Gx 11 = tk1 from (ex_tk1)) (sy := sy1) (e_sy := show Gx 19 = sy1 from (ex_sy1)) (na := na1) (e_na := show Gx 28 = na1 from (ex_na1)) (li := li) (e_li := show Gx 3 = li from ((hFx.1 3 rfl).trans (e_li))) (vi := vi1) (e_vi := show Gx 29 = vi1 from (ex_vi1)) (lk0 := lk1) (e_lk0 := show Gx 52 = lk1 from (ex_lk1)) (i_LT := (LT_ext ((hFx.1 3 rfl)) ((hFx.2 3 rfl)) ((hFx.2 4 rfl)) i_LT)) (i_SV := (SW_sv hSW0 ((show Gx 29 = vi1 from (ex_vi1)).trans (by omega)))) (i_PQ := hPW0) (hvb := hvb)   (p_0 := by omega) (p_1 := by omega) (p_2 := by omega) (p_3 := by omega) (p_4 := by omega) (p_5 := by omega)) (fun o V_q hq => ?_)
            obtain ⟨G144, A145, ln2_146, at2_147, fk2_148, sy2_149, na2_150, vi2_151, lk2_152, rfl, rfl, hW153, hF154, hQ155, hQ156, hQ157, e158, e159, e160, e161, e162, e163, e164, p165, p166, p167, p168, p169, p170, p171, q172⟩ := hq
            have hF173 := Fr_tr hFx hF154 (Fr_sub (by decide)) (Fr_sub (by decide))
            have sf174 : PZ A145 := PZ_ext (hF154.2 36 rfl) iv_11
            have sf175 : NdM A145 (nd) (nd1) (sy) := NdM_f hF154 (by decide) iv_14
            have sf176 : SW (Vs) (sb) (vi1) A145 := SW_fx hQ156 (by omega) hSW0
            have sf177 : PQ (Vs) (sb) (pb) (fun _ => 0) A145 := PQ_fxq hPW0 hQ155 (by omega) (Fx_f (w := pb) Fx_rf hF154 (by decide)) (by omega)
            have sf178 : VL (Vs) A145 (s0) (sb) := VL_fx hQ155 (by omega) hVL0
            have sf179 : wQ A145 (pc1).toNat (nd1) (s0) := wQ_fx (Pf_f Pf_rf hF154 (by decide)) (Fx_su hQ155 (by omega)) (Fx_su (Fx_f (w := pc1) Fx_rf hF154 (by decide)) (by omega)) hwQ0
            have sf180 : wK A145 (s0) (lk1) := wK_fx hQ155 hQ157 (by omega) (by omega) (by omega) hwK0
            have ec181 : ecn A145 (G144 31) = ec1 := (ecn_f (hF154.2 15 rfl) (hF154.1 31 rfl)).trans ex_ec1
            have bln2_146 : (0 : Int) ≤ ln2_146 ∧ ln2_146 ≤ 3000 := e158 ▸ hW153.1 9
            have bat2_147 : (0 : Int) ≤ at2_147 ∧ at2_147 ≤ 3002 := e159 ▸ hW153.1 10
            have bfk2_148 : (0 : Int) ≤ fk2_148 ∧ fk2_148 ≤ 6 := e160 ▸ hW153.1 16
            have bsy2_149 : (0 : Int) ≤ sy2_149 ∧ sy2_149 ≤ 202 := e161 ▸ hW153.1 19
            have bna2_150 : (0 : Int) ≤ na2_150 ∧ na2_150 ≤ 200 := e162 ▸ hW153.1 28
            have bvi2_151 : (0 : Int) ≤ vi2_151 ∧ vi2_151 ≤ 202 := e163 ▸ hW153.1 29
            have blk2_152 : (0 : Int) ≤ lk2_152 ∧ lk2_152 ≤ 12 := e164 ▸ hW153.1 52
            refine .inl ⟨rfl, ?_⟩
            rcases q172 with a182 | ⟨a183, a184, a185, a186, a187, a188, a189, a190⟩
            · have _q : True := trivial
              refine jx_ld (pc_q := 127) (l_q := L) (st_q := [.ref 66]) rfl (jl_aloadn gL_0) ?_
              refine jx_ar (pc_q := 128) (st_q := [.int (i32 (0)), .ref 66]) rfl rfl rfl rfl ?_
              have b191 : (-1 : Int) ≤ A 5 (ln2_146).toNat ∧ A 5 (ln2_146).toNat ≤ 15 := hW.2 5 _
              refine jx_vr (pc_q := 131) (as := [.int (i32 (0))]) (st := []) rfl rfl rfl rfl ⟨rfl, rfl, Nat.le_of_ble_eq_true rfl⟩ rfl rfl (c_needLevel (dd := d) (hd := by omega) (hW := hW153) (lv := 0) (ln := ln2_146) (e_ln := show G144 9 = ln2_146 from (e158)) (li := li) (e_li := show G144 3 = li from ((hF154.1 3 rfl).trans ((hFx.1 3 rfl).trans (e_li)))) (fk := fk2_148) (e_fk := show G144 16 = fk2_148 from (e160)) (ll := A 5 (ln2_146).toNat) (e_ll := show A145 5 (ln2_146).toNat = A 5 (ln2_146).toNat from (congrFun ((hF154.2 5 rfl).trans (hFx.2 5 rfl)) _))  (h_lv := ⟨(by decide), (by decide)⟩)  ) (fun o V_q hq => ?_)
              obtain ⟨G192, A193, r194, fk2_195, rfl, rfl, hW196, hF197, b198, e199, q200⟩ := hq
              have hF201 := Fr_tr hF173 hF197 (Fr_sub (by decide)) (Fr_sub (by decide))
              have sf202 : PZ A193 := (show A193 = A145 from funext (fun k => hF197.2 k rfl)) ▸ sf174
              have sf203 : NdM A193 (nd) (nd1) (sy) := NdM_f hF197 (by decide) sf175
              have sf204 : SW (Vs) (sb) (vi1) A193 := (show A193 = A145 from funext (fun k => hF197.2 k rfl)) ▸ sf176
              have sf205 : PQ (Vs) (sb) (pb) (fun _ => 0) A193 := (show A193 = A145 from funext (fun k => hF197.2 k rfl)) ▸ sf177
              have sf206 : VL (Vs) A193 (s0) (sb) := (show A193 = A145 from funext (fun k => hF197.2 k rfl)) ▸ sf178
              have sf207 : wQ A193 (pc1).toNat (nd1) (s0) := (show A193 = A145 from funext (fun k => hF197.2 k rfl)) ▸ sf179
              have sf208 : wK A193 (s0) (lk1) := (show A193 = A145 from funext (fun k => hF197.2 k rfl)) ▸ sf180
              have ec209 : ecn A193 (G192 31) = ec1 := (ecn_f (hF197.2 15 rfl) (hF197.1 31 rfl)).trans ec181
              have bfk2_195 : (0 : Int) ≤ fk2_195 ∧ fk2_195 ≤ 6 := e199 ▸ hW196.1 16
              refine .inr ⟨_, rfl, ?_⟩
              rcases q200 with ⟨rfl, a210, a211, a212, a213⟩ | ⟨rfl, a214⟩
              · have _q : True := trivial
                exfalso
                omega
              · have _q : True := trivial
                refine jx_if_eq (pc_q := 134) (tg := 106) rfl rfl rfl (by decide) (by decide) (fun h215 => ?_) (fun h215 => ?_)
                · have _q := h215
                  refine jx_ld (pc_q := 107) (l_q := L) (st_q := [.ref 66]) rfl (jl_aloadn gL_0) ?_
                  refine jx_vr (pc_q := 110) (as := []) (st := []) rfl rfl rfl rfl ⟨rfl, rfl, Nat.le_of_ble_eq_true rfl⟩ rfl rfl (c_bad (dd := d) (hd := by omega) (hW := hW196)  (fk := fk2_195) (e_fk := show G192 16 = fk2_195 from (e199))    ) (fun o V_q hq => ?_)
                  obtain ⟨r216, rfl, rfl, b217, q218⟩ := hq
                  refine .inr ⟨_, rfl, ?_⟩
                  rcases q218 with ⟨rfl, a219⟩ | ⟨rfl, a220⟩
                  · have _q : True := trivial
                    refine jx_if_ne (pc_q := 113) (tg := 141) rfl rfl rfl (by decide) (by decide) (fun h221 => ?_) (fun h221 => ?_)
                    · have _q := h221
                      refine jx_ld (pc_q := 142) (l_q := L) (st_q := [.int (i32 (1))]) rfl (jl_iloadn gL_2) ?_
                      refine jx_if_eq (pc_q := 145) (tg := 184) rfl rfl rfl (by decide) (by decide) (fun h222 => ?_) (fun h222 => ?_)
                      · have _q := h222
                        exact absurd h222 (by omega)
                      · have _q := h222
                        refine jx_ld (pc_q := 146) (l_q := L) (st_q := [.ref 66]) rfl (jl_aloadn gL_0) ?_
                        refine jx_vr (pc_q := 149) (as := []) (st := []) rfl rfl rfl rfl ⟨rfl, rfl, Nat.le_of_ble_eq_true rfl⟩ rfl rfl (c_bad (dd := d) (hd := by omega) (hW := hW196)  (fk := fk2_195) (e_fk := show G192 16 = fk2_195 from (e199))    ) (fun o V_q hq => ?_)
                        obtain ⟨r223, rfl, rfl, b224, q225⟩ := hq
                        refine .inr ⟨_, rfl, ?_⟩
                        rcases q225 with ⟨rfl, a226⟩ | ⟨rfl, a227⟩
                        · have _q : True := trivial
                          refine jx_if_ne (pc_q := 152) (tg := 170) rfl rfl rfl (by decide) (by decide) (fun h228 => ?_) (fun h228 => ?_)
                          · have _q := h228
                            refine jx_ld (pc_q := 171) (l_q := L) (st_q := [.ref 66]) rfl (jl_aloadn gL_0) ?_
                            refine jx_vr (pc_q := 174) (as := []) (st := []) rfl rfl rfl rfl ⟨rfl, rfl, Nat.le_of_ble_eq_true rfl⟩ rfl rfl (c_bad (dd := d) (hd := by omega) (hW := hW196)  (fk := fk2_195) (e_fk := show G192 16 = fk2_195 from (e199))    ) (fun o V_q hq => ?_)
                            obtain ⟨r229, rfl, rfl, b230, q231⟩ := hq
                            refine .inr ⟨_, rfl, ?_⟩
                            rcases q231 with ⟨rfl, a232⟩ | ⟨rfl, a233⟩
                            · have _q : True := trivial
                              refine jx_if_ne (pc_q := 177) (tg := 195) rfl rfl rfl (by decide) (by decide) (fun h234 => ?_) (fun h234 => ?_)
                              · have _q := h234
                                refine jx_ld (pc_q := 196) (l_q := L) (st_q := [.ref 66]) rfl (jl_aloadn gL_0) ?_
                                refine jx_vr (pc_q := 199) (as := []) (st := []) rfl rfl rfl rfl ⟨rfl, rfl, Nat.le_of_ble_eq_true rfl⟩ rfl rfl (c_bad (dd := d) (hd := by omega) (hW := hW196)  (fk := fk2_195) (e_fk := show G192 16 = fk2_195 from (e199))    ) (fun o V_q hq => ?_)
                                obtain ⟨r235, rfl, rfl, b236, q237⟩ := hq
                                refine .inr ⟨_, rfl, ?_⟩
                                rcases q237 with ⟨rfl, a238⟩ | ⟨rfl, a239⟩
                                · have _q : True := trivial
                                  refine jx_if_ne (pc_q := 202) (tg := 237) rfl rfl rfl (by decide) (by decide) (fun h240 => ?_) (fun h240 => ?_)
                                  · have _q := h240
                                    refine jx_rt (v := none) rfl rfl rfl rfl rfl rfl ?_
                                    exact ⟨_, _, ln2_146, fk2_195, nd1, sy2_149, na2_150, vi2_151, pc1, lk2_152, ec1, rfl, rfl, hW196, hF201, ((hF197.1 9 rfl).trans (e158)), (e199), ((hF197.1 31 rfl).trans ((hF154.1 31 rfl).trans (ex_nd1))), ((hF197.1 19 rfl).trans (e161)), ((hF197.1 28 rfl).trans (e162)), ((hF197.1 29 rfl).trans (e163)), ((hF197.1 46 rfl).trans ((hF154.1 46 rfl).trans (ex_pc1))), ((hF197.1 52 rfl).trans (e164)), ec209, by first | exact Or.inl (by omega)⟩
                                  · have _q := h240
                                    exact absurd h240 (by omega)
                                · have _q : True := trivial
                                  exfalso
                                  omega
                              · have _q := h234
                                exact absurd h234 (by omega)
                            · have _q : True := trivial
                              exfalso
                              omega
                          · have _q := h228
                            exact absurd h228 (by omega)
                        · have _q : True := trivial
                          exfalso
                          omega
                    · have _q := h221
                      exact absurd h221 (by omega)
                  · have _q : True := trivial
                    exfalso
                    omega
                · have _q := h215
                  exact absurd h215 (by omega)
            · have _q : True := trivial
              have b241 : (0 : Int) ≤ A 3 (ln2_146).toNat ∧ A 3 (ln2_146).toNat ≤ 3000 := hW.2 3 _
              have lt242 : ln2_146 < li → le1 < A 3 (ln2_146).toNat := fun hh => LT_nx (LT_ext (((hF154.1 3 rfl).trans (hFx.1 3 rfl))) (((hF154.2 3 rfl).trans (hFx.2 3 rfl))) (((hF154.2 4 rfl).trans (hFx.2 4 rfl))) i_LT) (show G144 3 = li from ((hF154.1 3 rfl).trans ((hFx.1 3 rfl).trans (e_li)))) (show A145 4 (ln1).toNat = le1 from (congrFun (hF154.2 4 rfl) _).trans (ex_le1)) (show A145 3 (ln2_146).toNat = A 3 (ln2_146).toNat from (congrFun ((hF154.2 3 rfl).trans (hFx.2 3 rfl)) _)) (show ln2_146 = ln1 + 1 by omega) (by omega) hh
              refine jx_ld (pc_q := 127) (l_q := L) (st_q := [.ref 66]) rfl (jl_aloadn gL_0) ?_
              refine jx_ar (pc_q := 128) (st_q := [.int (i32 (0)), .ref 66]) rfl rfl rfl rfl ?_
              have b243 : (-1 : Int) ≤ A 5 (ln2_146).toNat ∧ A 5 (ln2_146).toNat ≤ 15 := hW.2 5 _
              refine jx_vr (pc_q := 131) (as := [.int (i32 (0))]) (st := []) rfl rfl rfl rfl ⟨rfl, rfl, Nat.le_of_ble_eq_true rfl⟩ rfl rfl (c_needLevel (dd := d) (hd := by omega) (hW := hW153) (lv := 0) (ln := ln2_146) (e_ln := show G144 9 = ln2_146 from (e158)) (li := li) (e_li := show G144 3 = li from ((hF154.1 3 rfl).trans ((hFx.1 3 rfl).trans (e_li)))) (fk := fk2_148) (e_fk := show G144 16 = fk2_148 from (e160)) (ll := A 5 (ln2_146).toNat) (e_ll := show A145 5 (ln2_146).toNat = A 5 (ln2_146).toNat from (congrFun ((hF154.2 5 rfl).trans (hFx.2 5 rfl)) _))  (h_lv := ⟨(by decide), (by decide)⟩)  ) (fun o V_q hq => ?_)
              obtain ⟨G244, A245, r246, fk2_247, rfl, rfl, hW248, hF249, b250, e251, q252⟩ := hq
              have hF253 := Fr_tr hF173 hF249 (Fr_sub (by decide)) (Fr_sub (by decide))
              have sf254 : PZ A245 := (show A245 = A145 from funext (fun k => hF249.2 k rfl)) ▸ sf174
              have sf255 : NdM A245 (nd) (nd1) (sy) := NdM_f hF249 (by decide) sf175
              have sf256 : SW (Vs) (sb) (vi1) A245 := (show A245 = A145 from funext (fun k => hF249.2 k rfl)) ▸ sf176
              have sf257 : PQ (Vs) (sb) (pb) (fun _ => 0) A245 := (show A245 = A145 from funext (fun k => hF249.2 k rfl)) ▸ sf177
              have sf258 : VL (Vs) A245 (s0) (sb) := (show A245 = A145 from funext (fun k => hF249.2 k rfl)) ▸ sf178
              have sf259 : wQ A245 (pc1).toNat (nd1) (s0) := (show A245 = A145 from funext (fun k => hF249.2 k rfl)) ▸ sf179
              have sf260 : wK A245 (s0) (lk1) := (show A245 = A145 from funext (fun k => hF249.2 k rfl)) ▸ sf180
              have sf261 : SW (Vu Vs sy1) (sy2_149) (vi2_151) A245 := (show A245 = A145 from funext (fun k => hF249.2 k rfl)) ▸ a188
              have sf262 : PQ (Vu Vs sy1) (sy2_149) (pb) (fun _ => 0) A245 := (show A245 = A145 from funext (fun k => hF249.2 k rfl)) ▸ a189
              have sf263 : LK A245 (sy1) (lk1) := (show A245 = A145 from funext (fun k => hF249.2 k rfl)) ▸ a190
              have ec264 : ecn A245 (G244 31) = ec1 := (ecn_f (hF249.2 15 rfl) (hF249.1 31 rfl)).trans ec181
              have bfk2_247 : (0 : Int) ≤ fk2_247 ∧ fk2_247 ≤ 6 := e251 ▸ hW248.1 16
              refine .inr ⟨_, rfl, ?_⟩
              rcases q252 with ⟨rfl, a265, a266, a267, a268⟩ | ⟨rfl, a269⟩
              · have _q : True := trivial
                have b270 : (0 : Int) ≤ A 4 (ln2_146).toNat ∧ A 4 (ln2_146).toNat ≤ 3000 := hW.2 4 _
                have lt271 : A 3 (ln2_146).toNat < A 4 (ln2_146).toNat := LT_at (LT_ext (((hF249.1 3 rfl).trans ((hF154.1 3 rfl).trans (hFx.1 3 rfl)))) (((hF249.2 3 rfl).trans ((hF154.2 3 rfl).trans (hFx.2 3 rfl)))) (((hF249.2 4 rfl).trans ((hF154.2 4 rfl).trans (hFx.2 4 rfl)))) i_LT) (show G244 3 = li from ((hF249.1 3 rfl).trans ((hF154.1 3 rfl).trans ((hFx.1 3 rfl).trans (e_li))))) (show A245 3 (ln2_146).toNat = A 3 (ln2_146).toNat from (congrFun ((hF249.2 3 rfl).trans ((hF154.2 3 rfl).trans (hFx.2 3 rfl))) _)) (show A245 4 (ln2_146).toNat = A 4 (ln2_146).toNat from (congrFun ((hF249.2 4 rfl).trans ((hF154.2 4 rfl).trans (hFx.2 4 rfl))) _)) (by omega) (by omega)
                refine jx_if_eq (pc_q := 134) (tg := 106) rfl rfl rfl (by decide) (by decide) (fun h272 => ?_) (fun h272 => ?_)
                · have _q := h272
                  exact absurd h272 (by omega)
                · have _q := h272
                  refine jx_ld (pc_q := 135) (l_q := L) (st_q := [.ref 66]) rfl (jl_aloadn gL_0) ?_
                  refine jx_vr (pc_q := 138) (as := []) (st := []) rfl rfl rfl rfl ⟨rfl, rfl, Nat.le_of_ble_eq_true rfl⟩ rfl rfl (c_openLine (dd := d) (hd := by omega) (hW := hW248)  (ln := ln2_146) (e_ln := show G244 9 = ln2_146 from ((hF249.1 9 rfl).trans (e158))) (le := A 4 (ln2_146).toNat) (e_le := show A245 4 (ln2_146).toNat = A 4 (ln2_146).toNat from (congrFun ((hF249.2 4 rfl).trans ((hF154.2 4 rfl).trans (hFx.2 4 rfl))) _)) (lf := A 3 (ln2_146).toNat) (e_lf := show A245 3 (ln2_146).toNat = A 3 (ln2_146).toNat from (congrFun ((hF249.2 3 rfl).trans ((hF154.2 3 rfl).trans (hFx.2 3 rfl))) _))    (p_0 := by omega)) (fun o V_q hq => ?_)
                  obtain ⟨G273, A274, at2_275, tk2_276, op2_277, rfl, rfl, hW278, hF279, e280, e281, e282, p283, p284, p285, p286, -⟩ := hq
                  have hF288 := Fr_tr hF253 hF279 (Fr_sub (by decide)) (Fr_sub (by decide))
                  have sf289 : PZ A274 := (show A274 = A245 from funext (fun k => hF279.2 k rfl)) ▸ sf254
                  have sf290 : NdM A274 (nd) (nd1) (sy) := NdM_f hF279 (by decide) sf255
                  have sf291 : SW (Vs) (sb) (vi1) A274 := (show A274 = A245 from funext (fun k => hF279.2 k rfl)) ▸ sf256
                  have sf292 : PQ (Vs) (sb) (pb) (fun _ => 0) A274 := (show A274 = A245 from funext (fun k => hF279.2 k rfl)) ▸ sf257
                  have sf293 : VL (Vs) A274 (s0) (sb) := (show A274 = A245 from funext (fun k => hF279.2 k rfl)) ▸ sf258
                  have sf294 : wQ A274 (pc1).toNat (nd1) (s0) := (show A274 = A245 from funext (fun k => hF279.2 k rfl)) ▸ sf259
                  have sf295 : wK A274 (s0) (lk1) := (show A274 = A245 from funext (fun k => hF279.2 k rfl)) ▸ sf260
                  have sf296 : SW (Vu Vs sy1) (sy2_149) (vi2_151) A274 := (show A274 = A245 from funext (fun k => hF279.2 k rfl)) ▸ sf261
                  have sf297 : PQ (Vu Vs sy1) (sy2_149) (pb) (fun _ => 0) A274 := (show A274 = A245 from funext (fun k => hF279.2 k rfl)) ▸ sf262
                  have sf298 : LK A274 (sy1) (lk1) := (show A274 = A245 from funext (fun k => hF279.2 k rfl)) ▸ sf263
                  have ec299 : ecn A274 (G273 31) = ec1 := (ecn_f (hF279.2 15 rfl) (hF279.1 31 rfl)).trans ec264
                  have bat2_275 : (0 : Int) ≤ at2_275 ∧ at2_275 ≤ 3002 := e280 ▸ hW278.1 10
                  have ztk2_276 := tz_b tk2_276
                  have btk2_276 : (0 : Int) ≤ tk2_276 ∧ tk2_276 ≤ 5 := e281 ▸ hW278.1 11
                  have bop2_277 : (-2147483648 : Int) ≤ op2_277 ∧ op2_277 ≤ 2147483647 := e282 ▸ hW278.1 15
                  refine .inl ⟨rfl, ?_⟩
                  have pz300 : (A 3 (ln2_146).toNat) + tz tk2_276 ≤ at2_275 := by omega
                  refine jx_go (tg := 106) rfl rfl ?_
                  have z301 := tz_f (tk2_276)
                  exact ih106_1 _ (by omega) L G273 A274 (ln2_146) (at2_275) (tk2_276) (fk2_247) (op2_277) (nd1) (sy2_149) (na2_150) (vi2_151) (A 3 (ln2_146).toNat) (A 4 (ln2_146).toNat) (pc1) (lk2_152) (ec1) rfl gL_0 gL_2 hW278 hF288 (((hF279.1 9 rfl).trans ((hF249.1 9 rfl).trans (e158)))) ((e280)) ((e281)) (((hF279.1 16 rfl).trans (e251))) ((e282)) (((hF279.1 31 rfl).trans ((hF249.1 31 rfl).trans ((hF154.1 31 rfl).trans (ex_nd1))))) (((hF279.1 19 rfl).trans ((hF249.1 19 rfl).trans (e161)))) (((hF279.1 28 rfl).trans ((hF249.1 28 rfl).trans (e162)))) (((hF279.1 29 rfl).trans ((hF249.1 29 rfl).trans (e163)))) ((congrFun ((hF279.2 3 rfl).trans ((hF249.2 3 rfl).trans ((hF154.2 3 rfl).trans (hFx.2 3 rfl)))) _)) ((congrFun ((hF279.2 4 rfl).trans ((hF249.2 4 rfl).trans ((hF154.2 4 rfl).trans (hFx.2 4 rfl)))) _)) (((hF279.1 46 rfl).trans ((hF249.1 46 rfl).trans ((hF154.1 46 rfl).trans (ex_pc1))))) (((hF279.1 52 rfl).trans ((hF249.1 52 rfl).trans (e164)))) (ec299) (by omega) (by omega) (by omega) (by omega) (by omega) (by omega) (by omega) (by omega) (by omega) (by omega) (by omega) (sf289) ((TL_mk (s0 := s0) (by omega) (by omega) (by omega) (VB_u hvb (by omega) (by omega)) sf296 sf297 (VL_u (t1 := sy2_149) sf293 (by omega) (by omega) (by omega)) sf294 (wK_add sf295 sf298 (by omega) (by omega) rfl) (by omega) (by omega) (by omega) (by omega) (by omega) (by omega) (by omega) (by omega) (by omega) (by omega))) (by omega) (sf290)
              · have _q : True := trivial
                refine jx_if_eq (pc_q := 134) (tg := 106) rfl rfl rfl (by decide) (by decide) (fun h302 => ?_) (fun h302 => ?_)
                · have _q := h302
                  refine jx_ld (pc_q := 107) (l_q := L) (st_q := [.ref 66]) rfl (jl_aloadn gL_0) ?_
                  refine jx_vr (pc_q := 110) (as := []) (st := []) rfl rfl rfl rfl ⟨rfl, rfl, Nat.le_of_ble_eq_true rfl⟩ rfl rfl (c_bad (dd := d) (hd := by omega) (hW := hW248)  (fk := fk2_247) (e_fk := show G244 16 = fk2_247 from (e251))    ) (fun o V_q hq => ?_)
                  obtain ⟨r303, rfl, rfl, b304, q305⟩ := hq
                  refine .inr ⟨_, rfl, ?_⟩
                  rcases q305 with ⟨rfl, a306⟩ | ⟨rfl, a307⟩
                  · have _q : True := trivial
                    refine jx_if_ne (pc_q := 113) (tg := 141) rfl rfl rfl (by decide) (by decide) (fun h308 => ?_) (fun h308 => ?_)
                    · have _q := h308
                      refine jx_ld (pc_q := 142) (l_q := L) (st_q := [.int (i32 (1))]) rfl (jl_iloadn gL_2) ?_
                      refine jx_if_eq (pc_q := 145) (tg := 184) rfl rfl rfl (by decide) (by decide) (fun h309 => ?_) (fun h309 => ?_)
                      · have _q := h309
                        exact absurd h309 (by omega)
                      · have _q := h309
                        refine jx_ld (pc_q := 146) (l_q := L) (st_q := [.ref 66]) rfl (jl_aloadn gL_0) ?_
                        refine jx_vr (pc_q := 149) (as := []) (st := []) rfl rfl rfl rfl ⟨rfl, rfl, Nat.le_of_ble_eq_true rfl⟩ rfl rfl (c_bad (dd := d) (hd := by omega) (hW := hW248)  (fk := fk2_247) (e_fk := show G244 16 = fk2_247 from (e251))    ) (fun o V_q hq => ?_)
                        obtain ⟨r310, rfl, rfl, b311, q312⟩ := hq
                        refine .inr ⟨_, rfl, ?_⟩
                        rcases q312 with ⟨rfl, a313⟩ | ⟨rfl, a314⟩
                        · have _q : True := trivial
                          refine jx_if_ne (pc_q := 152) (tg := 170) rfl rfl rfl (by decide) (by decide) (fun h315 => ?_) (fun h315 => ?_)
                          · have _q := h315
                            refine jx_ld (pc_q := 171) (l_q := L) (st_q := [.ref 66]) rfl (jl_aloadn gL_0) ?_
                            refine jx_vr (pc_q := 174) (as := []) (st := []) rfl rfl rfl rfl ⟨rfl, rfl, Nat.le_of_ble_eq_true rfl⟩ rfl rfl (c_bad (dd := d) (hd := by omega) (hW := hW248)  (fk := fk2_247) (e_fk := show G244 16 = fk2_247 from (e251))    ) (fun o V_q hq => ?_)
                            obtain ⟨r316, rfl, rfl, b317, q318⟩ := hq
                            refine .inr ⟨_, rfl, ?_⟩
                            rcases q318 with ⟨rfl, a319⟩ | ⟨rfl, a320⟩
                            · have _q : True := trivial
                              refine jx_if_ne (pc_q := 177) (tg := 195) rfl rfl rfl (by decide) (by decide) (fun h321 => ?_) (fun h321 => ?_)
                              · have _q := h321
                                refine jx_ld (pc_q := 196) (l_q := L) (st_q := [.ref 66]) rfl (jl_aloadn gL_0) ?_
                                refine jx_vr (pc_q := 199) (as := []) (st := []) rfl rfl rfl rfl ⟨rfl, rfl, Nat.le_of_ble_eq_true rfl⟩ rfl rfl (c_bad (dd := d) (hd := by omega) (hW := hW248)  (fk := fk2_247) (e_fk := show G244 16 = fk2_247 from (e251))    ) (fun o V_q hq => ?_)
                                obtain ⟨r322, rfl, rfl, b323, q324⟩ := hq
                                refine .inr ⟨_, rfl, ?_⟩
                                rcases q324 with ⟨rfl, a325⟩ | ⟨rfl, a326⟩
                                · have _q : True := trivial
                                  refine jx_if_ne (pc_q := 202) (tg := 237) rfl rfl rfl (by decide) (by decide) (fun h327 => ?_) (fun h327 => ?_)
                                  · have _q := h327
                                    refine jx_rt (v := none) rfl rfl rfl rfl rfl rfl ?_
                                    exact ⟨_, _, ln2_146, fk2_247, nd1, sy2_149, na2_150, vi2_151, pc1, lk2_152, ec1, rfl, rfl, hW248, hF253, ((hF249.1 9 rfl).trans (e158)), (e251), ((hF249.1 31 rfl).trans ((hF154.1 31 rfl).trans (ex_nd1))), ((hF249.1 19 rfl).trans (e161)), ((hF249.1 28 rfl).trans (e162)), ((hF249.1 29 rfl).trans (e163)), ((hF249.1 46 rfl).trans ((hF154.1 46 rfl).trans (ex_pc1))), ((hF249.1 52 rfl).trans (e164)), ec264, by first | exact Or.inl (by omega)⟩
                                  · have _q := h327
                                    exact absurd h327 (by omega)
                                · have _q : True := trivial
                                  exfalso
                                  omega
                              · have _q := h321
                                exact absurd h321 (by omega)
                            · have _q : True := trivial
                              exfalso
                              omega
                          · have _q := h315
                            exact absurd h315 (by omega)
                        · have _q : True := trivial
                          exfalso
                          omega
                    · have _q := h308
                      exact absurd h308 (by omega)
                  · have _q : True := trivial
                    exfalso
                    omega
                · have _q := h302
                  exact absurd h302 (by omega)
        · have _q : True := trivial
          refine jx_if_eq (pc_q := 122) (tg := 141) rfl rfl rfl (by decide) (by decide) (fun h328 => ?_) (fun h328 => ?_)
          · have _q := h328
            have z329 := tz_f (tk1)
            exact c_readProgram_w_at_141_1 (X := X) (d := d) (c0 := c0) (c1 := c1) (G := G) (A := A) (T := T) (ln := ln) (li := li) (fk := fk) (nd := nd) (sy := sy) (na := na) (vi := vi) (lf := lf) (pc := pc) (lk := lk) (ec := ec) (hd := hd) (hW := hW) (e_ln := e_ln) (e_li := e_li) (e_fk := e_fk) (e_nd := e_nd) (e_sy := e_sy) (e_na := e_na) (e_vi := e_vi) (e_lf := e_lf) (e_pc := e_pc) (e_lk := e_lk) (e_ec := e_ec) (i_LT := i_LT) (p_0 := p_0) (p_1 := p_1) (p_2 := p_2) (p_3 := p_3) (p_4 := p_4) (p_5 := p_5) (p_6 := p_6) (p_7 := p_7) (p_8 := p_8) (p_9 := p_9) L Gx Ax (ln1) (at1) (tk1) (fk1) (op1) (nd1) (sy1) (na1) (vi1) (lf1) (le1) (pc1) (lk1) (ec1) gL_0 gL_2 hWx hFx ((ex_ln1)) ((ex_at1)) ((ex_tk1)) ((ex_fk1)) ((ex_op1)) ((ex_nd1)) ((ex_sy1)) ((ex_na1)) ((ex_vi1)) ((ex_lf1)) ((ex_le1)) ((ex_pc1)) ((ex_lk1)) (ex_ec1) (by omega) (by omega) (by omega) (by omega) (by omega) (by omega) (by omega) (by omega) (by omega) (by omega) (by omega) (iv_11) ((TL_mk (s0 := s0) (by omega) (by omega) (by omega) (VB_eq hvb (by omega)) hSW0 hPW0 hVL0 hwQ0 hwK0 (by omega) (by omega) (by omega) (by omega) (by omega) (by omega) (by omega) (by omega) (by omega) (by omega))) (by omega) (iv_14)
          · have _q := h328
            exact absurd h328 (by omega)
set_option maxRecDepth 20000 in
set_option maxHeartbeats 4000000 in
theorem c_readProgram_w_at_74 {X : jX} {d : Nat} {c0 c1 : jC} {G : Nat → Int} {A : Nat → Nat → Int} {T : jH} {ln li fk nd sy na vi lf pc lk ec : Int} (hd : 8 * 18 + 82 ≤ d + 1) (hW : Wk G A) (e_ln : G 9 = ln) (e_li : G 3 = li) (e_fk : G 16 = fk) (e_nd : G 31 = nd) (e_sy : G 19 = sy) (e_na : G 28 = na) (e_vi : G 29 = vi) (e_lf : A 3 (ln).toNat = lf) (e_pc : G 46 = pc) (e_lk : G 52 = lk) (e_ec : ecn A (G 31) = ec) (i_LT : LT G A) (p_0 : fk = 0) (p_1 : ln = 0) (p_2 : nd = 1) (p_3 : sy = 0) (p_4 : na = 0) (p_5 : vi = 0) (p_6 : pc = 0) (p_7 : lk = 0) (p_8 : PZ A) (p_9 : ec ≤ 1) : ∀ (L : jL) (Gx : Nat → Int) (Ax : Nat → Nat → Int) (ln1 at1 tk1 fk1 op1 nd1 sy1 na1 vi1 lf1 le1 pc1 ec1 : Int), jGet L 0 = some (.ref 66) → Wk Gx Ax → Fr [9, 10, 11, 12, 13, 14, 15, 16, 17, 18, 19, 28, 29, 31, 46, 52] [6, 7, 8, 9, 10, 11, 12, 14, 15, 16, 17, 18, 19, 20, 21, 22, 23, 24, 28, 29, 30, 31, 34, 35, 36] G A Gx Ax → Gx 9 = ln1 → Gx 10 = at1 → Gx 11 = tk1 → Gx 16 = fk1 → Gx 15 = op1 → Gx 31 = nd1 → Gx 19 = sy1 → Gx 28 = na1 → Gx 29 = vi1 → Ax 3 (ln1).toNat = lf1 → Ax 4 (ln1).toNat = le1 → Gx 46 = pc1 → ecn Ax (Gx 31) = ec1 → Gx 52 = lk → (fk1 = 0) → (0 ≤ lf1) → (ln1 < li) → (lf1 < le1) → (2 * lf1 ≤ 2 * at1 - tz tk1) → (lf1 ≤ at1) → (at1 ≤ le1) → (nd1 ≤ 2 * lf1 + 2) → (op1 = 0) → (sy1 ≤ na1 + 2) → (vi1 ≤ sy1) → (PZ Ax) → (TP Ax (pc1) (nd1) (sy1) (vi1)) → (nd1 + 5 * ec1 ≤ 2 * lf1 + 2 + 5) → (NdM Ax (nd) (nd1) (sy)) → wj X d jm312 (74, L, [], rV c0 c1 Gx Ax T) (fun o V_q => ∃ (G_q : Nat → Int) (A_q : Nat → Nat → Int) (ln2 : Int) (fk2 : Int) (nd2 : Int) (sy2 : Int) (na2 : Int) (vi2 : Int) (pc2 : Int) (lk2 : Int) (ec2 : Int), V_q = rV c0 c1 G_q A_q T ∧ o = .inl none ∧ Wk G_q A_q ∧ Fr [9, 10, 11, 12, 13, 14, 15, 16, 17, 18, 19, 28, 29, 31, 46, 52] [6, 7, 8, 9, 10, 11, 12, 14, 15, 16, 17, 18, 19, 20, 21, 22, 23, 24, 28, 29, 30, 31, 34, 35, 36] G A G_q A_q ∧ G_q 9 = ln2 ∧ G_q 16 = fk2 ∧ G_q 31 = nd2 ∧ G_q 19 = sy2 ∧ G_q 28 = na2 ∧ G_q 29 = vi2 ∧ G_q 46 = pc2 ∧ G_q 52 = lk2 ∧ ecn A_q (G_q 31) = ec2 ∧ (((1 ≤ fk2)) ∨ ((fk2 = 0) ∧ (TT A_q (pc2) (nd2) (sy2) (lk2)) ∧ (NdM A_q (nd) (nd2) (sy)) ∧ (nd2 + 5 * ec2 ≤ 6055)))) := by
  have hF0 : Fr [9, 10, 11, 12, 13, 14, 15, 16, 17, 18, 19, 28, 29, 31, 46, 52] [6, 7, 8, 9, 10, 11, 12, 14, 15, 16, 17, 18, 19, 20, 21, 22, 23, 24, 28, 29, 30, 31, 34, 35, 36] G A G A := Fr_rf
  have b_ln : (0 : Int) ≤ ln ∧ ln ≤ 3000 := e_ln ▸ hW.1 9
  have b_li : (0 : Int) ≤ li ∧ li ≤ 3000 := e_li ▸ hW.1 3
  have b_fk : (0 : Int) ≤ fk ∧ fk ≤ 6 := e_fk ▸ hW.1 16
  have b_nd : (0 : Int) ≤ nd ∧ nd ≤ 6999 := e_nd ▸ hW.1 31
  have b_sy : (0 : Int) ≤ sy ∧ sy ≤ 202 := e_sy ▸ hW.1 19
  have b_na : (0 : Int) ≤ na ∧ na ≤ 200 := e_na ▸ hW.1 28
  have b_vi : (0 : Int) ≤ vi ∧ vi ≤ 202 := e_vi ▸ hW.1 29
  have b_lf : (0 : Int) ≤ lf ∧ lf ≤ 3000 := e_lf ▸ hW.2 3 _
  have b_pc : (0 : Int) ≤ pc ∧ pc ≤ 24 := e_pc ▸ hW.1 46
  have b_lk : (0 : Int) ≤ lk ∧ lk ≤ 12 := e_lk ▸ hW.1 52
  intro L Gx Ax ln1 at1 tk1 fk1 op1 nd1 sy1 na1 vi1 lf1 le1 pc1 ec1 gL_0 hWx hFx ex_ln1 ex_at1 ex_tk1 ex_fk1 ex_op1 ex_nd1 ex_sy1 ex_na1 ex_vi1 ex_lf1 ex_le1 ex_pc1 ex_ec1 fx_52 iv_0 iv_1 iv_2 iv_3 iv_4 iv_5 iv_6 iv_7 iv_8 iv_9 iv_10 iv_11 iv_12 iv_13 iv_14
  have b_ln1 : (0 : Int) ≤ ln1 ∧ ln1 ≤ 3000 := ex_ln1 ▸ hWx.1 9
  have b_at1 : (0 : Int) ≤ at1 ∧ at1 ≤ 3002 := ex_at1 ▸ hWx.1 10
  have z_tk1 := tz_f tk1
  have b_tk1 : (0 : Int) ≤ tk1 ∧ tk1 ≤ 5 := ex_tk1 ▸ hWx.1 11
  have b_fk1 : (0 : Int) ≤ fk1 ∧ fk1 ≤ 6 := ex_fk1 ▸ hWx.1 16
  have b_op1 : (-2147483648 : Int) ≤ op1 ∧ op1 ≤ 2147483647 := ex_op1 ▸ hWx.1 15
  have b_nd1 : (0 : Int) ≤ nd1 ∧ nd1 ≤ 6999 := ex_nd1 ▸ hWx.1 31
  have b_sy1 : (0 : Int) ≤ sy1 ∧ sy1 ≤ 202 := ex_sy1 ▸ hWx.1 19
  have b_na1 : (0 : Int) ≤ na1 ∧ na1 ≤ 200 := ex_na1 ▸ hWx.1 28
  have b_vi1 : (0 : Int) ≤ vi1 ∧ vi1 ≤ 202 := ex_vi1 ▸ hWx.1 29
  have b_pc1 : (0 : Int) ≤ pc1 ∧ pc1 ≤ 24 := ex_pc1 ▸ hWx.1 46
  obtain ⟨Vs, hvb, hSW0, hPW0, hVT0, hwQ0⟩ := iv_12; obtain ⟨sb, hsb⟩ : ∃ z : Int, z = sy1 := ⟨_, rfl⟩; obtain ⟨pb, hpb⟩ : ∃ z : Int, z = pc1 := ⟨_, rfl⟩; rw [← hsb] at hvb hSW0 hPW0 hVT0 hwQ0; rw [← hpb] at hPW0; have hle0 := wQ_le hwQ0
  refine jx_ld (pc_q := 75) (l_q := L) (st_q := [.ref 66]) rfl (jl_aloadn gL_0) ?_
  refine jx_vr (pc_q := 78) (as := []) (st := []) rfl rfl rfl rfl ⟨rfl, rfl, Nat.le_of_ble_eq_true rfl⟩ rfl rfl (c_bad (dd := d) (hd := by omega) (hW := hWx)  (fk := fk1) (e_fk := show Gx 16 = fk1 from (ex_fk1))    ) (fun o V_q hq => ?_)
  obtain ⟨r330, rfl, rfl, b331, q332⟩ := hq
  refine .inr ⟨_, rfl, ?_⟩
  rcases q332 with ⟨rfl, a333⟩ | ⟨rfl, a334⟩
  · have _q : True := trivial
    exfalso
    omega
  · have _q : True := trivial
    refine jx_if_eq (pc_q := 81) (tg := 82) rfl rfl rfl (by decide) (by decide) (fun h335 => ?_) (fun h335 => ?_)
    · have _q := h335
      refine jx_ld (pc_q := 83) (l_q := L) (st_q := [.ref 66]) rfl (jl_aloadn gL_0) ?_
      refine jx_ar (pc_q := 85) (st_q := [.int (i32 (21)), .ref 66]) rfl rfl rfl rfl ?_
      have b336 : (-2147483648 : Int) ≤ Gx 13 ∧ Gx 13 ≤ 2147483647 := hWx.1 13
      refine jx_vr (pc_q := 88) (as := [.int (i32 (21))]) (st := []) rfl rfl rfl rfl ⟨rfl, rfl, Nat.le_of_ble_eq_true rfl⟩ rfl rfl (c_isKey2 (dd := d) (hd := by omega) (hW := hWx) (k := 21) (tk := tk1) (e_tk := show Gx 11 = tk1 from (ex_tk1)) (tn := Gx 13) (e_tn := show Gx 13 = Gx 13 from rfl)  (h_k := ⟨(by decide), (by decide)⟩)  ) (fun o V_q hq => ?_)
      obtain ⟨r337, rfl, rfl, b338, q339⟩ := hq
      refine .inr ⟨_, rfl, ?_⟩
      rcases q339 with ⟨rfl, a340, a341, a342⟩ | ⟨rfl, a343⟩
      · have _q : True := trivial
        refine jx_if_ne (pc_q := 91) (tg := 100) rfl rfl rfl (by decide) (by decide) (fun h344 => ?_) (fun h344 => ?_)
        · have _q := h344
          refine jx_ar (pc_q := 101) (st_q := [.int (i32 (1))]) rfl rfl rfl rfl ?_
          refine jx_go (tg := 105) rfl rfl ?_
          refine jx_ld (pc_q := 106) (l_q := jSto1 L 2 (.int (i32 (1)))) (st_q := []) rfl rfl ?_
          obtain ⟨L345, eL345⟩ : ∃ q, q = jSto1 L 2 (.int (i32 (1))) := ⟨_, rfl⟩
          rw [← eL345]
          have gL345_0 : jGet L345 0 = some (.ref 66) := eL345 ▸ jg_ne (by decide) gL_0 rfl
          have gL345_2 : jGet L345 2 = some (.int (i32 (1))) := eL345 ▸ jg_eq
          have z346 := tz_f (tk1)
          exact c_readProgram_w_at_106_1 (X := X) (d := d) (c0 := c0) (c1 := c1) (G := G) (A := A) (T := T) (ln := ln) (li := li) (fk := fk) (nd := nd) (sy := sy) (na := na) (vi := vi) (lf := lf) (pc := pc) (lk := lk) (ec := ec) (hd := hd) (hW := hW) (e_ln := e_ln) (e_li := e_li) (e_fk := e_fk) (e_nd := e_nd) (e_sy := e_sy) (e_na := e_na) (e_vi := e_vi) (e_lf := e_lf) (e_pc := e_pc) (e_lk := e_lk) (e_ec := e_ec) (i_LT := i_LT) (p_0 := p_0) (p_1 := p_1) (p_2 := p_2) (p_3 := p_3) (p_4 := p_4) (p_5 := p_5) (p_6 := p_6) (p_7 := p_7) (p_8 := p_8) (p_9 := p_9) _ L345 Gx Ax (ln1) (at1) (tk1) (fk1) (op1) (nd1) (sy1) (na1) (vi1) (lf1) (le1) (pc1) (lk) (ec1) rfl gL345_0 gL345_2 hWx hFx ((ex_ln1)) ((ex_at1)) ((ex_tk1)) ((ex_fk1)) ((ex_op1)) ((ex_nd1)) ((ex_sy1)) ((ex_na1)) ((ex_vi1)) ((ex_lf1)) ((ex_le1)) ((ex_pc1)) ((fx_52)) (ex_ec1) (by omega) (by omega) (by omega) (by omega) (by omega) (by omega) (by omega) (by omega) (by omega) (by omega) (by omega) (iv_11) ((TL_tp (TP_mk (VB_eq hvb (by omega)) hSW0 hPW0 hVT0 hwQ0 (by omega) (by omega) (by omega) (by omega) (by omega) (by omega) (by omega) (by omega)) (by omega))) (by omega) (iv_14)
        · have _q := h344
          exact absurd h344 (by omega)
      · have _q : True := trivial
        refine jx_if_ne (pc_q := 91) (tg := 100) rfl rfl rfl (by decide) (by decide) (fun h347 => ?_) (fun h347 => ?_)
        · have _q := h347
          exact absurd h347 (by omega)
        · have _q := h347
          refine jx_ld (pc_q := 92) (l_q := L) (st_q := [.ref 66]) rfl (jl_aloadn gL_0) ?_
          refine jx_ar (pc_q := 94) (st_q := [.int (i32 (19)), .ref 66]) rfl rfl rfl rfl ?_
          refine jx_vr (pc_q := 97) (as := [.int (i32 (19))]) (st := []) rfl rfl rfl rfl ⟨rfl, rfl, Nat.le_of_ble_eq_true rfl⟩ rfl rfl (c_isKey2 (dd := d) (hd := by omega) (hW := hWx) (k := 19) (tk := tk1) (e_tk := show Gx 11 = tk1 from (ex_tk1)) (tn := Gx 13) (e_tn := show Gx 13 = Gx 13 from rfl)  (h_k := ⟨(by decide), (by decide)⟩)  ) (fun o V_q hq => ?_)
          obtain ⟨r348, rfl, rfl, b349, q350⟩ := hq
          refine .inr ⟨_, rfl, ?_⟩
          rcases q350 with ⟨rfl, a351, a352, a353⟩ | ⟨rfl, a354⟩
          · have _q : True := trivial
            refine jx_if_eq (pc_q := 100) (tg := 104) rfl rfl rfl (by decide) (by decide) (fun h355 => ?_) (fun h355 => ?_)
            · have _q := h355
              exact absurd h355 (by omega)
            · have _q := h355
              refine jx_ar (pc_q := 101) (st_q := [.int (i32 (1))]) rfl rfl rfl rfl ?_
              refine jx_go (tg := 105) rfl rfl ?_
              refine jx_ld (pc_q := 106) (l_q := jSto1 L 2 (.int (i32 (1)))) (st_q := []) rfl rfl ?_
              obtain ⟨L356, eL356⟩ : ∃ q, q = jSto1 L 2 (.int (i32 (1))) := ⟨_, rfl⟩
              rw [← eL356]
              have gL356_0 : jGet L356 0 = some (.ref 66) := eL356 ▸ jg_ne (by decide) gL_0 rfl
              have gL356_2 : jGet L356 2 = some (.int (i32 (1))) := eL356 ▸ jg_eq
              have z357 := tz_f (tk1)
              exact c_readProgram_w_at_106_1 (X := X) (d := d) (c0 := c0) (c1 := c1) (G := G) (A := A) (T := T) (ln := ln) (li := li) (fk := fk) (nd := nd) (sy := sy) (na := na) (vi := vi) (lf := lf) (pc := pc) (lk := lk) (ec := ec) (hd := hd) (hW := hW) (e_ln := e_ln) (e_li := e_li) (e_fk := e_fk) (e_nd := e_nd) (e_sy := e_sy) (e_na := e_na) (e_vi := e_vi) (e_lf := e_lf) (e_pc := e_pc) (e_lk := e_lk) (e_ec := e_ec) (i_LT := i_LT) (p_0 := p_0) (p_1 := p_1) (p_2 := p_2) (p_3 := p_3) (p_4 := p_4) (p_5 := p_5) (p_6 := p_6) (p_7 := p_7) (p_8 := p_8) (p_9 := p_9) _ L356 Gx Ax (ln1) (at1) (tk1) (fk1) (op1) (nd1) (sy1) (na1) (vi1) (lf1) (le1) (pc1) (lk) (ec1) rfl gL356_0 gL356_2 hWx hFx ((ex_ln1)) ((ex_at1)) ((ex_tk1)) ((ex_fk1)) ((ex_op1)) ((ex_nd1)) ((ex_sy1)) ((ex_na1)) ((ex_vi1)) ((ex_lf1)) ((ex_le1)) ((ex_pc1)) ((fx_52)) (ex_ec1) (by omega) (by omega) (by omega) (by omega) (by omega) (by omega) (by omega) (by omega) (by omega) (by omega) (by omega) (iv_11) ((TL_tp (TP_mk (VB_eq hvb (by omega)) hSW0 hPW0 hVT0 hwQ0 (by omega) (by omega) (by omega) (by omega) (by omega) (by omega) (by omega) (by omega)) (by omega))) (by omega) (iv_14)
          · have _q : True := trivial
            refine jx_if_eq (pc_q := 100) (tg := 104) rfl rfl rfl (by decide) (by decide) (fun h358 => ?_) (fun h358 => ?_)
            · have _q := h358
              refine jx_ar (pc_q := 105) (st_q := [.int (i32 (0))]) rfl rfl rfl rfl ?_
              refine jx_ld (pc_q := 106) (l_q := jSto1 L 2 (.int (i32 (0)))) (st_q := []) rfl rfl ?_
              obtain ⟨L359, eL359⟩ : ∃ q, q = jSto1 L 2 (.int (i32 (0))) := ⟨_, rfl⟩
              rw [← eL359]
              have gL359_0 : jGet L359 0 = some (.ref 66) := eL359 ▸ jg_ne (by decide) gL_0 rfl
              have gL359_2 : jGet L359 2 = some (.int (i32 (0))) := eL359 ▸ jg_eq
              refine jx_ld (pc_q := 107) (l_q := L359) (st_q := [.ref 66]) rfl (jl_aloadn gL359_0) ?_
              refine jx_vr (pc_q := 110) (as := []) (st := []) rfl rfl rfl rfl ⟨rfl, rfl, Nat.le_of_ble_eq_true rfl⟩ rfl rfl (c_bad (dd := d) (hd := by omega) (hW := hWx)  (fk := fk1) (e_fk := show Gx 16 = fk1 from (ex_fk1))    ) (fun o V_q hq => ?_)
              obtain ⟨r360, rfl, rfl, b361, q362⟩ := hq
              refine .inr ⟨_, rfl, ?_⟩
              rcases q362 with ⟨rfl, a363⟩ | ⟨rfl, a364⟩
              · have _q : True := trivial
                exfalso
                omega
              · have _q : True := trivial
                refine jx_if_ne (pc_q := 113) (tg := 141) rfl rfl rfl (by decide) (by decide) (fun h365 => ?_) (fun h365 => ?_)
                · have _q := h365
                  exact absurd h365 (by omega)
                · have _q := h365
                  refine jx_ld (pc_q := 114) (l_q := L359) (st_q := [.ref 66]) rfl (jl_aloadn gL359_0) ?_
                  refine jx_ar (pc_q := 116) (st_q := [.int (i32 (21)), .ref 66]) rfl rfl rfl rfl ?_
                  refine jx_vr (pc_q := 119) (as := [.int (i32 (21))]) (st := []) rfl rfl rfl rfl ⟨rfl, rfl, Nat.le_of_ble_eq_true rfl⟩ rfl rfl (c_isKey2 (dd := d) (hd := by omega) (hW := hWx) (k := 21) (tk := tk1) (e_tk := show Gx 11 = tk1 from (ex_tk1)) (tn := Gx 13) (e_tn := show Gx 13 = Gx 13 from rfl)  (h_k := ⟨(by decide), (by decide)⟩)  ) (fun o V_q hq => ?_)
                  obtain ⟨r366, rfl, rfl, b367, q368⟩ := hq
                  refine .inr ⟨_, rfl, ?_⟩
                  rcases q368 with ⟨rfl, a369, a370, a371⟩ | ⟨rfl, a372⟩
                  · have _q : True := trivial
                    refine jx_if_eq (pc_q := 122) (tg := 141) rfl rfl rfl (by decide) (by decide) (fun h373 => ?_) (fun h373 => ?_)
                    · have _q := h373
                      exact absurd h373 (by omega)
                    · have _q := h373
                      exfalso
                      omega
                  · have _q : True := trivial
                    refine jx_if_eq (pc_q := 122) (tg := 141) rfl rfl rfl (by decide) (by decide) (fun h374 => ?_) (fun h374 => ?_)
                    · have _q := h374
                      refine jx_ld (pc_q := 142) (l_q := L359) (st_q := [.int (i32 (0))]) rfl (jl_iloadn gL359_2) ?_
                      refine jx_if_eq (pc_q := 145) (tg := 184) rfl rfl rfl (by decide) (by decide) (fun h375 => ?_) (fun h375 => ?_)
                      · have _q := h375
                        refine jx_ld (pc_q := 185) (l_q := L359) (st_q := [.ref 66]) rfl (jl_aloadn gL359_0) ?_
                        refine jr_get (pc_q := 188) (i := 55) (v := .ref 103) rfl rfl (by decide) rfl rfl ?_
                        refine jx_ar (pc_q := 189) (st_q := [.int (i32 (0)), .ref 103]) rfl rfl rfl rfl ?_
                        refine jx_ld (pc_q := 190) (l_q := L359) (st_q := [.ref 66, .int (i32 (0)), .ref 103]) rfl (jl_aloadn gL359_0) ?_
                        refine jx_ar (pc_q := 191) (st_q := [.int (i32 (0)), .ref 66, .int (i32 (0)), .ref 103]) rfl rfl rfl rfl ?_
                        refine jx_vr (pc_q := 194) (as := [.int (i32 (0))]) (st := [.int (i32 (0)), .ref 103]) rfl rfl rfl rfl ⟨rfl, rfl, Nat.le_of_ble_eq_true rfl⟩ rfl rfl (RPw_all X 18 (dd := d) (hd := by omega) (hW := hWx) (lv := 0) (at0 := (lf1 - 1)) (ln := ln1) (e_ln := show Gx 9 = ln1 from (ex_ln1)) (li := li) (e_li := show Gx 3 = li from ((hFx.1 3 rfl).trans (e_li))) (fk := fk1) (e_fk := show Gx 16 = fk1 from (ex_fk1)) (nd := nd1) (e_nd := show Gx 31 = nd1 from (ex_nd1)) (sy := sy1) (e_sy := show Gx 19 = sy1 from (ex_sy1)) (na := na1) (e_na := show Gx 28 = na1 from (ex_na1)) (vi := vi1) (e_vi := show Gx 29 = vi1 from (ex_vi1)) (lf := lf1) (e_lf := show Ax 3 (ln1).toNat = lf1 from (ex_lf1)) (ac := at1) (e_ac := show Gx 10 = at1 from (ex_at1)) (ec := ec1) (e_ec := show ecn Ax (Gx 31) = ec1 from ex_ec1) (i_LT := (LT_ext ((hFx.1 3 rfl)) ((hFx.2 3 rfl)) ((hFx.2 4 rfl)) i_LT)) (i_SV := (SW_sv hSW0 ((show Gx 29 = vi1 from (ex_vi1)).trans (by omega)))) (i_PQ := hPW0) (hvb := hvb) (h_lv := ⟨(by decide), (by decide)⟩)  (p_0 := by omega) (p_1 := by omega) (p_2 := by omega) (p_3 := by omega) (p_4 := by omega) (p_5 := by omega) (p_6 := by omega) (p_7 := by omega) (p_8 := by omega) (p_9 := by omega) (p_10 := by omega)) (fun o V_q hq => ?_)
                        obtain ⟨G376, A377, r378, ln2_379, at2_380, fk2_381, nd2_382, sy2_383, na2_384, vi2_385, lf2_386, ec2_387, rfl, rfl, hW388, hF389, hQ390, hQ391, hQ392, b393, e394, e395, e396, e397, e398, e399, e400, e401, e402, p403, p404, p405, p406, p407, p408, p409, p410, p411, q412⟩ := hq
                        have hF413 := Fr_tr hFx hF389 (Fr_sub (by decide)) (Fr_sub (by decide))
                        have sf414 : PZ A377 := PZ_ext (hF389.2 36 rfl) iv_11
                        have sf415 : NdM A377 (nd) (nd1) (sy) := NdM_pf hQ390 (by omega) (by omega) iv_14
                        have sf416 : SW (Vs) (sb) (vi1) A377 := SW_fx hQ392 (by omega) hSW0
                        have sf417 : PQ (Vs) (sb) (pb) (fun _ => 0) A377 := PQ_fxq hPW0 hQ391 (by omega) (Fx_f (w := pb) Fx_rf hF389 (by decide)) (by omega)
                        have sf418 : VT (Vs) A377 (sb) := VT_fx hQ391 (by omega) hVT0
                        have sf419 : wQ A377 (pc1).toNat (nd1) (sb) := wQ_fx (fun k j hk hj => hQ390 k j hk (by omega)) (Fx_su hQ391 (by omega)) (Fx_su (Fx_f (w := pc1) Fx_rf hF389 (by decide)) (by omega)) hwQ0
                        have bln2_379 : (0 : Int) ≤ ln2_379 ∧ ln2_379 ≤ 3000 := e394 ▸ hW388.1 9
                        have bat2_380 : (0 : Int) ≤ at2_380 ∧ at2_380 ≤ 3002 := e395 ▸ hW388.1 10
                        have bfk2_381 : (0 : Int) ≤ fk2_381 ∧ fk2_381 ≤ 6 := e396 ▸ hW388.1 16
                        have bnd2_382 : (0 : Int) ≤ nd2_382 ∧ nd2_382 ≤ 6999 := e397 ▸ hW388.1 31
                        have bsy2_383 : (0 : Int) ≤ sy2_383 ∧ sy2_383 ≤ 202 := e398 ▸ hW388.1 19
                        have bna2_384 : (0 : Int) ≤ na2_384 ∧ na2_384 ≤ 200 := e399 ▸ hW388.1 28
                        have bvi2_385 : (0 : Int) ≤ vi2_385 ∧ vi2_385 ≤ 202 := e400 ▸ hW388.1 29
                        have blf2_386 : (0 : Int) ≤ lf2_386 ∧ lf2_386 ≤ 3000 := e401 ▸ hW388.2 3 _
                        refine .inr ⟨_, rfl, ?_⟩
                        rcases q412 with ⟨a420, a421⟩ | ⟨a422, a423, a424, a425, a426, a427, a428, a429, a430, a431⟩
                        · have _q : True := trivial
                          refine jr_st (pc_q := 195) (i := 36) (m := 6) (z := (0 : Int)) (y := r378) rfl (by decide) rfl (by decide) (by omega) (by omega) rfl ?_
                          have hW433 : Wk G376 (uA A377 36 ((0 : Int)).toNat (r378)) := Wk_a hW388 (show (-2147483648 : Int) ≤ r378 by omega) (show r378 ≤ (2147483647 : Int) by omega)
                          have hF434 := Fr_a (z := r378) (k := 36) (n := ((0 : Int)).toNat) hF413 (by decide)
                          obtain ⟨A432, eA432⟩ : ∃ q, q = uA A377 36 ((0 : Int)).toNat (r378) := ⟨_, rfl⟩
                          rw [← eA432]
                          rw [← eA432] at hW433 hF434
                          have q435 : A432 36 ((0 : Int)).toNat = r378 := by rw [eA432]; exact uA_eq
                          have sf436 : NdM A432 (nd) (nd1) (sy) := NdM_st eA432 (by decide) sf415
                          have sf437 : SW (Vs) (sb) (vi1) A432 := SW_ext ((congrFun eA432 14).trans (uA_ne (by decide))) sf416
                          have sf438 : PQ (Vs) (sb) (pb) (fun _ => 0) A432 := PQ_fxq sf417 (Sg_ne (sb := sb) eA432 rfl) (by omega) (show Fx [29, 30, 31] (pb) A377 A432 from eA432 ▸ Fx_n Fx_rf rfl) (by omega)
                          have sf439 : VT (Vs) A432 (sb) := VT_fx (Sg_ne (sb := sb) eA432 rfl) (by omega) sf418
                          have sf440 : wQ A432 (pc1).toNat (nd1) (sb) := wQ_fx (show Pf _ _ _ from eA432 ▸ Pf_n Pf_rf rfl) (Fx_su (Sg_ne (sb := sb) eA432 rfl) (by omega)) (Fx_su (show Fx [29, 30, 31] (pc1) A377 A432 from eA432 ▸ Fx_n Fx_rf rfl) (by omega)) sf419
                          have ec441 : ecn A432 (G376 31) = ec2_387 := (ecn_e ((congrFun eA432 15).trans (uA_ne (by decide)))).trans e402
                          refine jx_ld (pc_q := 196) (l_q := L359) (st_q := [.ref 66]) rfl (jl_aloadn gL359_0) ?_
                          refine jx_vr (pc_q := 199) (as := []) (st := []) rfl rfl rfl rfl ⟨rfl, rfl, Nat.le_of_ble_eq_true rfl⟩ rfl rfl (c_bad (dd := d) (hd := by omega) (hW := hW433)  (fk := fk2_381) (e_fk := show G376 16 = fk2_381 from (e396))    ) (fun o V_q hq => ?_)
                          obtain ⟨r442, rfl, rfl, b443, q444⟩ := hq
                          refine .inr ⟨_, rfl, ?_⟩
                          rcases q444 with ⟨rfl, a445⟩ | ⟨rfl, a446⟩
                          · have _q : True := trivial
                            refine jx_if_ne (pc_q := 202) (tg := 237) rfl rfl rfl (by decide) (by decide) (fun h447 => ?_) (fun h447 => ?_)
                            · have _q := h447
                              refine jx_rt (v := none) rfl rfl rfl rfl rfl rfl ?_
                              exact ⟨_, _, ln2_379, fk2_381, nd2_382, sy2_383, na2_384, vi2_385, pc1, lk, ec2_387, rfl, rfl, hW433, hF434, (e394), (e396), (e397), (e398), (e399), (e400), ((hF389.1 46 rfl).trans (ex_pc1)), ((hF389.1 52 rfl).trans (fx_52)), ec441, by first | exact Or.inl (by omega)⟩
                            · have _q := h447
                              exact absurd h447 (by omega)
                          · have _q : True := trivial
                            exfalso
                            omega
                        · have _q : True := trivial
                          refine jr_st (pc_q := 195) (i := 36) (m := 6) (z := (0 : Int)) (y := r378) rfl (by decide) rfl (by decide) (by omega) (by omega) rfl ?_
                          have hW449 : Wk G376 (uA A377 36 ((0 : Int)).toNat (r378)) := Wk_a hW388 (show (-2147483648 : Int) ≤ r378 by omega) (show r378 ≤ (2147483647 : Int) by omega)
                          have hF450 := Fr_a (z := r378) (k := 36) (n := ((0 : Int)).toNat) hF413 (by decide)
                          obtain ⟨A448, eA448⟩ : ∃ q, q = uA A377 36 ((0 : Int)).toNat (r378) := ⟨_, rfl⟩
                          rw [← eA448]
                          rw [← eA448] at hW449 hF450
                          have q451 : A448 36 ((0 : Int)).toNat = r378 := by rw [eA448]; exact uA_eq
                          have sf452 : wB A448 Vs pb (nd1) (nd2_382) (sy1) (sy2_383) := wB_one eA448 sf414 (by omega) (by omega) a428 rfl (by omega) (by omega) (by omega) (by omega)
                          have sf453 : NdM A448 (nd) (nd1) (sy) := NdM_st eA448 (by decide) sf415
                          have sf454 : SW (Vs) (sb) (vi1) A448 := SW_ext ((congrFun eA448 14).trans (uA_ne (by decide))) sf416
                          have sf455 : PQ (Vs) (sb) (pb) (fun _ => 0) A448 := PQ_fxq sf417 (Sg_ne (sb := sb) eA448 rfl) (by omega) (show Fx [29, 30, 31] (pb) A377 A448 from eA448 ▸ Fx_n Fx_rf rfl) (by omega)
                          have sf456 : VT (Vs) A448 (sb) := VT_fx (Sg_ne (sb := sb) eA448 rfl) (by omega) sf418
                          have sf457 : wQ A448 (pc1).toNat (nd1) (sb) := wQ_fx (show Pf _ _ _ from eA448 ▸ Pf_n Pf_rf rfl) (Fx_su (Sg_ne (sb := sb) eA448 rfl) (by omega)) (Fx_su (show Fx [29, 30, 31] (pc1) A377 A448 from eA448 ▸ Fx_n Fx_rf rfl) (by omega)) sf419
                          have sf458 : wP A448 (sy2_383) pb (18) (Vs) (r378) (nd1) (nd2_382) (sy1) (sy2_383) := wP_ag (Sg_ne eA448 rfl) (Qg_ne eA448 rfl) (by omega) (by omega) (Ax_ag (Ag_ne eA448 rfl)) a428
                          have sf459 : NX A448 (r378) := NX_r eA448 (by decide) a429
                          have sf460 : NdM A448 (nd1) (nd2_382) (sy1) := NdM_st eA448 (by decide) a431
                          have ec461 : ecn A448 (G376 31) = ec2_387 := (ecn_e ((congrFun eA448 15).trans (uA_ne (by decide)))).trans e402
                          refine jx_ld (pc_q := 196) (l_q := L359) (st_q := [.ref 66]) rfl (jl_aloadn gL359_0) ?_
                          refine jx_vr (pc_q := 199) (as := []) (st := []) rfl rfl rfl rfl ⟨rfl, rfl, Nat.le_of_ble_eq_true rfl⟩ rfl rfl (c_bad (dd := d) (hd := by omega) (hW := hW449)  (fk := fk2_381) (e_fk := show G376 16 = fk2_381 from (e396))    ) (fun o V_q hq => ?_)
                          obtain ⟨r462, rfl, rfl, b463, q464⟩ := hq
                          refine .inr ⟨_, rfl, ?_⟩
                          rcases q464 with ⟨rfl, a465⟩ | ⟨rfl, a466⟩
                          · have _q : True := trivial
                            exfalso
                            omega
                          · have _q : True := trivial
                            refine jx_if_ne (pc_q := 202) (tg := 237) rfl rfl rfl (by decide) (by decide) (fun h467 => ?_) (fun h467 => ?_)
                            · have _q := h467
                              exact absurd h467 (by omega)
                            · have _q := h467
                              refine jx_ld (pc_q := 203) (l_q := L359) (st_q := [.ref 66]) rfl (jl_aloadn gL359_0) ?_
                              refine jr_get (pc_q := 206) (i := 9) (v := .int (i32 (ln2_379))) rfl rfl (by decide) (rFv_eq (by decide) (show G376 9 = ln2_379 from (e394))) rfl ?_
                              refine jx_ld (pc_q := 207) (l_q := L359) (st_q := [.ref 66, .int (i32 (ln2_379))]) rfl (jl_aloadn gL359_0) ?_
                              refine jr_get (pc_q := 210) (i := 3) (v := .int (i32 (li))) rfl rfl (by decide) (rFv_eq (by decide) (show G376 3 = li from ((hF389.1 3 rfl).trans ((hFx.1 3 rfl).trans (e_li))))) rfl ?_
                              refine jx_icmp_ge (pc_q := 213) (tg := 237) rfl rfl rfl (Int.le_trans (by decide : (-2147483648 : Int) ≤ 0) bln2_379.1) (Int.le_trans bln2_379.2 (by decide : (3000 : Int) ≤ 2147483647)) (Int.le_trans (by decide : (-2147483648 : Int) ≤ 0) b_li.1) (Int.le_trans b_li.2 (by decide : (3000 : Int) ≤ 2147483647)) (fun h468 => ?_) (fun h468 => ?_)
                              · have _q := h468
                                refine jx_rt (v := none) rfl rfl rfl rfl rfl rfl ?_
                                exact ⟨_, _, ln2_379, fk2_381, nd2_382, sy2_383, na2_384, vi2_385, pc1, lk, ec2_387, rfl, rfl, hW449, hF450, (e394), (e396), (e397), (e398), (e399), (e400), ((hF389.1 46 rfl).trans (ex_pc1)), ((hF389.1 52 rfl).trans (fx_52)), ec461, by first | exact Or.inr ((⟨by omega, (TT_mk (V := Vs) (lo := nd1) (s0 := sb) (t0 := sb) (by omega) (by omega) (by omega) hvb (VL_vt (t0 := sb) sf456) sf457 (wK_nil (s0 := sb)) sf452 (by omega) (by omega) (by omega) (by omega) (by omega) (by omega) (by omega) (by omega) (by omega) (by omega) (by omega)), (NdM_w (NdM_app (sy := sy) sf453 sf460 (by omega) (by omega) (by omega)) (by omega) (by omega) (by omega)), by omega⟩))⟩
                              · have _q := h468
                                refine jx_ld (pc_q := 214) (l_q := L359) (st_q := [.ref 66]) rfl (jl_aloadn gL359_0) ?_
                                refine jx_ar (pc_q := 215) (st_q := [.int (i32 (1)), .ref 66]) rfl rfl rfl rfl ?_
                                refine jx_ld (pc_q := 216) (l_q := L359) (st_q := [.ref 66, .int (i32 (1)), .ref 66]) rfl (jl_aloadn gL359_0) ?_
                                refine jr_get (pc_q := 219) (i := 6) (v := .ref 70) rfl rfl (by decide) rfl rfl ?_
                                refine jx_ld (pc_q := 220) (l_q := L359) (st_q := [.ref 66, .ref 70, .int (i32 (1)), .ref 66]) rfl (jl_aloadn gL359_0) ?_
                                refine jr_get (pc_q := 223) (i := 9) (v := .int (i32 (ln2_379))) rfl rfl (by decide) (rFv_eq (by decide) (show G376 9 = ln2_379 from (e394))) rfl ?_
                                refine jr_ldv (pc_q := 224) (i := 3) (m := 3001) (z := ln2_379) (y := lf2_386) rfl (by decide) rfl (by decide) (Int.le_trans (by decide : (0 : Int) ≤ 0) bln2_379.1) (Int.lt_of_le_of_lt bln2_379.2 (by decide : (3000 : Int) < ((3001 : Nat) : Int))) rfl (show A448 3 (ln2_379).toNat = lf2_386 from (congrFun ((congrFun eA448 3).trans (uA_ne (by decide))) _).trans (e401)) ?_
                                refine jx_ld (pc_q := 225) (l_q := L359) (st_q := [.ref 66, .int (i32 (lf2_386)), .int (i32 (1)), .ref 66]) rfl (jl_aloadn gL359_0) ?_
                                refine jr_get (pc_q := 228) (i := 5) (v := .ref 69) rfl rfl (by decide) rfl rfl ?_
                                refine jx_ld (pc_q := 229) (l_q := L359) (st_q := [.ref 66, .ref 69, .int (i32 (lf2_386)), .int (i32 (1)), .ref 66]) rfl (jl_aloadn gL359_0) ?_
                                refine jr_get (pc_q := 232) (i := 9) (v := .int (i32 (ln2_379))) rfl rfl (by decide) (rFv_eq (by decide) (show G376 9 = ln2_379 from (e394))) rfl ?_
                                have b469 : (0 : Int) ≤ A 2 (ln2_379).toNat ∧ A 2 (ln2_379).toNat ≤ 3000 := hW.2 2 _
                                refine jr_ldv (pc_q := 233) (i := 2) (m := 3001) (z := ln2_379) (y := A 2 (ln2_379).toNat) rfl (by decide) rfl (by decide) (Int.le_trans (by decide : (0 : Int) ≤ 0) bln2_379.1) (Int.lt_of_le_of_lt bln2_379.2 (by decide : (3000 : Int) < ((3001 : Nat) : Int))) rfl (show A448 2 (ln2_379).toNat = A 2 (ln2_379).toNat from (congrFun (((congrFun eA448 2).trans (uA_ne (by decide))).trans ((hF389.2 2 rfl).trans (hFx.2 2 rfl))) _)) ?_
                                refine jx_sub (pc_q := 234) rfl rfl ?_
                                refine jx_vr (pc_q := 237) (as := [.int (i32 (1)), .int (i32 ((lf2_386 - A 2 (ln2_379).toNat)))]) (st := []) rfl rfl rfl rfl ⟨rfl, rfl, Nat.le_of_ble_eq_true rfl⟩ rfl rfl (c_fail (dd := d) (hd := by omega) (hW := hW449) (kind := 1) (place := (lf2_386 - A 2 (ln2_379).toNat)) (fk := fk2_381) (e_fk := show G376 16 = fk2_381 from (e396))  (h_kind := ⟨(by decide), (by decide)⟩) (h_place := ⟨(by omega), (by omega)⟩)  (p_0 := by omega) (p_1 := by omega)) (fun o V_q hq => ?_)
                                obtain ⟨G470, A471, fk2_472, rfl, rfl, hW473, hF474, e475, p476, -⟩ := hq
                                have hF478 := Fr_tr hF450 hF474 (Fr_sub (by decide)) (Fr_sub (by decide))
                                have sf479 : wB A471 Vs pb (nd1) (nd2_382) (sy1) (sy2_383) := (show A471 = A448 from funext (fun k => hF474.2 k rfl)) ▸ sf452
                                have sf480 : NdM A471 (nd) (nd1) (sy) := NdM_f hF474 (by decide) sf453
                                have sf481 : SW (Vs) (sb) (vi1) A471 := (show A471 = A448 from funext (fun k => hF474.2 k rfl)) ▸ sf454
                                have sf482 : PQ (Vs) (sb) (pb) (fun _ => 0) A471 := (show A471 = A448 from funext (fun k => hF474.2 k rfl)) ▸ sf455
                                have sf483 : VT (Vs) A471 (sb) := (show A471 = A448 from funext (fun k => hF474.2 k rfl)) ▸ sf456
                                have sf484 : wQ A471 (pc1).toNat (nd1) (sb) := (show A471 = A448 from funext (fun k => hF474.2 k rfl)) ▸ sf457
                                have sf485 : wP A471 (sy2_383) pb (18) (Vs) (r378) (nd1) (nd2_382) (sy1) (sy2_383) := wP_ag (Sg_fr hF474 (by decide)) (Qg_fr hF474 (by decide)) (by omega) (by omega) (Ax_ag (Ag_fr hF474 (by decide))) sf458
                                have sf486 : NX A471 (r378) := NX_ag (by omega) (Ag_fr hF474 (by decide)) sf459
                                have sf487 : NdM A471 (nd1) (nd2_382) (sy1) := NdM_f hF474 (by decide) sf460
                                have ec488 : ecn A471 (G470 31) = ec2_387 := (ecn_f (hF474.2 15 rfl) (hF474.1 31 rfl)).trans ec461
                                have bfk2_472 : (0 : Int) ≤ fk2_472 ∧ fk2_472 ≤ 6 := e475 ▸ hW473.1 16
                                refine .inl ⟨rfl, ?_⟩
                                refine jx_rt (v := none) rfl rfl rfl rfl rfl rfl ?_
                                exact ⟨_, _, ln2_379, fk2_472, nd2_382, sy2_383, na2_384, vi2_385, pc1, lk, ec2_387, rfl, rfl, hW473, hF478, ((hF474.1 9 rfl).trans (e394)), (e475), ((hF474.1 31 rfl).trans (e397)), ((hF474.1 19 rfl).trans (e398)), ((hF474.1 28 rfl).trans (e399)), ((hF474.1 29 rfl).trans (e400)), ((hF474.1 46 rfl).trans ((hF389.1 46 rfl).trans (ex_pc1))), ((hF474.1 52 rfl).trans ((hF389.1 52 rfl).trans (fx_52))), ec488, by first | exact Or.inl (by omega)⟩
                      · have _q := h375
                        exact absurd h375 (by omega)
                    · have _q := h374
                      exact absurd h374 (by omega)
            · have _q := h358
              exact absurd h358 (by omega)
    · have _q := h335
      exact absurd h335 (by omega)
set_option maxRecDepth 20000 in
set_option maxHeartbeats 4000000 in
theorem c_readProgram_w_at_40 {X : jX} {d : Nat} {c0 c1 : jC} {G : Nat → Int} {A : Nat → Nat → Int} {T : jH} {ln li fk nd sy na vi lf pc lk ec : Int} (hd : 8 * 18 + 82 ≤ d + 1) (hW : Wk G A) (e_ln : G 9 = ln) (e_li : G 3 = li) (e_fk : G 16 = fk) (e_nd : G 31 = nd) (e_sy : G 19 = sy) (e_na : G 28 = na) (e_vi : G 29 = vi) (e_lf : A 3 (ln).toNat = lf) (e_pc : G 46 = pc) (e_lk : G 52 = lk) (e_ec : ecn A (G 31) = ec) (i_LT : LT G A) (p_0 : fk = 0) (p_1 : ln = 0) (p_2 : nd = 1) (p_3 : sy = 0) (p_4 : na = 0) (p_5 : vi = 0) (p_6 : pc = 0) (p_7 : lk = 0) (p_8 : PZ A) (p_9 : ec ≤ 1) : ∀ (m : Nat) (L : jL) (Gx : Nat → Int) (Ax : Nat → Nat → Int) (more ln1 fk1 nd1 sy1 na1 vi1 lf1 pc1 ec1 : Int), (li - ln1).toNat = m → jGet L 0 = some (.ref 66) → jGet L 1 = some (.int (i32 more)) → Wk Gx Ax → Fr [9, 10, 11, 12, 13, 14, 15, 16, 17, 18, 19, 28, 29, 31, 46, 52] [6, 7, 8, 9, 10, 11, 12, 14, 15, 16, 17, 18, 19, 20, 21, 22, 23, 24, 28, 29, 30, 31, 34, 35, 36] G A Gx Ax → Gx 9 = ln1 → Gx 16 = fk1 → Gx 31 = nd1 → Gx 19 = sy1 → Gx 28 = na1 → Gx 29 = vi1 → Ax 3 (ln1).toNat = lf1 → Gx 46 = pc1 → ecn Ax (Gx 31) = ec1 → Gx 52 = lk → ((-2147483648 : Int) ≤ more ∧ more ≤ 2147483647) → (fk1 = 0) → (0 ≤ lf1) → (ln1 ≤ li) → (nd1 ≤ 2 * lf1 + 2 ∨ li ≤ ln1) → (sy1 ≤ na1 + 2) → (vi1 ≤ sy1) → (TP Ax (pc1) (nd1) (sy1) (vi1)) → (PZ Ax) → (more = 1) → (nd1 + 5 * ec1 ≤ 2 * lf1 + 2 + 5 ∨ li ≤ ln1) → (NdM Ax (nd) (nd1) (sy)) → wj X d jm312 (40, L, [], rV c0 c1 Gx Ax T) (fun o V_q => ∃ (G_q : Nat → Int) (A_q : Nat → Nat → Int) (ln2 : Int) (fk2 : Int) (nd2 : Int) (sy2 : Int) (na2 : Int) (vi2 : Int) (pc2 : Int) (lk2 : Int) (ec2 : Int), V_q = rV c0 c1 G_q A_q T ∧ o = .inl none ∧ Wk G_q A_q ∧ Fr [9, 10, 11, 12, 13, 14, 15, 16, 17, 18, 19, 28, 29, 31, 46, 52] [6, 7, 8, 9, 10, 11, 12, 14, 15, 16, 17, 18, 19, 20, 21, 22, 23, 24, 28, 29, 30, 31, 34, 35, 36] G A G_q A_q ∧ G_q 9 = ln2 ∧ G_q 16 = fk2 ∧ G_q 31 = nd2 ∧ G_q 19 = sy2 ∧ G_q 28 = na2 ∧ G_q 29 = vi2 ∧ G_q 46 = pc2 ∧ G_q 52 = lk2 ∧ ecn A_q (G_q 31) = ec2 ∧ (((1 ≤ fk2)) ∨ ((fk2 = 0) ∧ (TT A_q (pc2) (nd2) (sy2) (lk2)) ∧ (NdM A_q (nd) (nd2) (sy)) ∧ (nd2 + 5 * ec2 ≤ 6055)))) := by
  have hF0 : Fr [9, 10, 11, 12, 13, 14, 15, 16, 17, 18, 19, 28, 29, 31, 46, 52] [6, 7, 8, 9, 10, 11, 12, 14, 15, 16, 17, 18, 19, 20, 21, 22, 23, 24, 28, 29, 30, 31, 34, 35, 36] G A G A := Fr_rf
  have b_ln : (0 : Int) ≤ ln ∧ ln ≤ 3000 := e_ln ▸ hW.1 9
  have b_li : (0 : Int) ≤ li ∧ li ≤ 3000 := e_li ▸ hW.1 3
  have b_fk : (0 : Int) ≤ fk ∧ fk ≤ 6 := e_fk ▸ hW.1 16
  have b_nd : (0 : Int) ≤ nd ∧ nd ≤ 6999 := e_nd ▸ hW.1 31
  have b_sy : (0 : Int) ≤ sy ∧ sy ≤ 202 := e_sy ▸ hW.1 19
  have b_na : (0 : Int) ≤ na ∧ na ≤ 200 := e_na ▸ hW.1 28
  have b_vi : (0 : Int) ≤ vi ∧ vi ≤ 202 := e_vi ▸ hW.1 29
  have b_lf : (0 : Int) ≤ lf ∧ lf ≤ 3000 := e_lf ▸ hW.2 3 _
  have b_pc : (0 : Int) ≤ pc ∧ pc ≤ 24 := e_pc ▸ hW.1 46
  have b_lk : (0 : Int) ≤ lk ∧ lk ≤ 12 := e_lk ▸ hW.1 52
  intro m
  induction m using Nat.strongRecOn with
  | ind m ih40 =>
    intro L Gx Ax more ln1 fk1 nd1 sy1 na1 vi1 lf1 pc1 ec1 hm gL_0 gL_1 hWx hFx ex_ln1 ex_fk1 ex_nd1 ex_sy1 ex_na1 ex_vi1 ex_lf1 ex_pc1 ex_ec1 fx_52 rx_more iv_0 iv_1 iv_2 iv_3 iv_4 iv_5 iv_6 iv_7 iv_8 iv_9 iv_10
    have b_ln1 : (0 : Int) ≤ ln1 ∧ ln1 ≤ 3000 := ex_ln1 ▸ hWx.1 9
    have b_fk1 : (0 : Int) ≤ fk1 ∧ fk1 ≤ 6 := ex_fk1 ▸ hWx.1 16
    have b_nd1 : (0 : Int) ≤ nd1 ∧ nd1 ≤ 6999 := ex_nd1 ▸ hWx.1 31
    have b_sy1 : (0 : Int) ≤ sy1 ∧ sy1 ≤ 202 := ex_sy1 ▸ hWx.1 19
    have b_na1 : (0 : Int) ≤ na1 ∧ na1 ≤ 200 := ex_na1 ▸ hWx.1 28
    have b_vi1 : (0 : Int) ≤ vi1 ∧ vi1 ≤ 202 := ex_vi1 ▸ hWx.1 29
    have b_pc1 : (0 : Int) ≤ pc1 ∧ pc1 ≤ 24 := ex_pc1 ▸ hWx.1 46
    obtain ⟨Vs, hvb, hSW0, hPW0, hVT0, hwQ0⟩ := iv_6; obtain ⟨sb, hsb⟩ : ∃ z : Int, z = sy1 := ⟨_, rfl⟩; obtain ⟨pb, hpb⟩ : ∃ z : Int, z = pc1 := ⟨_, rfl⟩; rw [← hsb] at hvb hSW0 hPW0 hVT0 hwQ0; rw [← hpb] at hPW0; have hle0 := wQ_le hwQ0
    refine jx_ld (pc_q := 41) (l_q := L) (st_q := [.int (i32 (more))]) rfl (jl_iloadn gL_1) ?_
    refine jx_if_eq (pc_q := 44) (tg := 74) rfl rfl rfl (Int.le_trans (by decide : (-2147483648 : Int) ≤ -2147483648) rx_more.1) (Int.le_trans rx_more.2 (by decide : (2147483647 : Int) ≤ 2147483647)) (fun h489 => ?_) (fun h489 => ?_)
    · have _q := h489
      have z490 := tz_f (Gx 11)
      exact c_readProgram_w_at_74 (X := X) (d := d) (c0 := c0) (c1 := c1) (G := G) (A := A) (T := T) (ln := ln) (li := li) (fk := fk) (nd := nd) (sy := sy) (na := na) (vi := vi) (lf := lf) (pc := pc) (lk := lk) (ec := ec) (hd := hd) (hW := hW) (e_ln := e_ln) (e_li := e_li) (e_fk := e_fk) (e_nd := e_nd) (e_sy := e_sy) (e_na := e_na) (e_vi := e_vi) (e_lf := e_lf) (e_pc := e_pc) (e_lk := e_lk) (e_ec := e_ec) (i_LT := i_LT) (p_0 := p_0) (p_1 := p_1) (p_2 := p_2) (p_3 := p_3) (p_4 := p_4) (p_5 := p_5) (p_6 := p_6) (p_7 := p_7) (p_8 := p_8) (p_9 := p_9) L Gx Ax (ln1) (Gx 10) (Gx 11) (fk1) (Gx 15) (nd1) (sy1) (na1) (vi1) (lf1) (A 4 (ln1).toNat) (pc1) (ec1) gL_0 hWx hFx ((ex_ln1)) (rfl) (rfl) ((ex_fk1)) (rfl) ((ex_nd1)) ((ex_sy1)) ((ex_na1)) ((ex_vi1)) ((ex_lf1)) ((congrFun (hFx.2 4 rfl) _)) ((ex_pc1)) (ex_ec1) ((fx_52)) (by omega) (by omega) (by omega) (by omega) (by omega) (by omega) (by omega) (by omega) (by omega) (by omega) (by omega) (iv_7) ((TP_mk (VB_eq hvb (by omega)) hSW0 hPW0 hVT0 hwQ0 (by omega) (by omega) (by omega) (by omega) (by omega) (by omega) (by omega) (by omega))) (by omega) (iv_10)
    · have _q := h489
      refine jx_ld (pc_q := 45) (l_q := L) (st_q := [.ref 66]) rfl (jl_aloadn gL_0) ?_
      refine jx_ar (pc_q := 46) (st_q := [.int (i32 (0)), .ref 66]) rfl rfl rfl rfl ?_
      have b491 : (-1 : Int) ≤ A 5 (ln1).toNat ∧ A 5 (ln1).toNat ≤ 15 := hW.2 5 _
      refine jx_vr (pc_q := 49) (as := [.int (i32 (0))]) (st := []) rfl rfl rfl rfl ⟨rfl, rfl, Nat.le_of_ble_eq_true rfl⟩ rfl rfl (c_needLevel (dd := d) (hd := by omega) (hW := hWx) (lv := 0) (ln := ln1) (e_ln := show Gx 9 = ln1 from (ex_ln1)) (li := li) (e_li := show Gx 3 = li from ((hFx.1 3 rfl).trans (e_li))) (fk := fk1) (e_fk := show Gx 16 = fk1 from (ex_fk1)) (ll := A 5 (ln1).toNat) (e_ll := show Ax 5 (ln1).toNat = A 5 (ln1).toNat from (congrFun (hFx.2 5 rfl) _))  (h_lv := ⟨(by decide), (by decide)⟩)  ) (fun o V_q hq => ?_)
      obtain ⟨G492, A493, r494, fk2_495, rfl, rfl, hW496, hF497, b498, e499, q500⟩ := hq
      have hF501 := Fr_tr hFx hF497 (Fr_sub (by decide)) (Fr_sub (by decide))
      have sf502 : PZ A493 := (show A493 = Ax from funext (fun k => hF497.2 k rfl)) ▸ iv_7
      have sf503 : NdM A493 (nd) (nd1) (sy) := NdM_f hF497 (by decide) iv_10
      have sf504 : SW (Vs) (sb) (vi1) A493 := (show A493 = Ax from funext (fun k => hF497.2 k rfl)) ▸ hSW0
      have sf505 : PQ (Vs) (sb) (pb) (fun _ => 0) A493 := (show A493 = Ax from funext (fun k => hF497.2 k rfl)) ▸ hPW0
      have sf506 : VT (Vs) A493 (sb) := (show A493 = Ax from funext (fun k => hF497.2 k rfl)) ▸ hVT0
      have sf507 : wQ A493 (pc1).toNat (nd1) (sb) := (show A493 = Ax from funext (fun k => hF497.2 k rfl)) ▸ hwQ0
      have ec508 : ecn A493 (G492 31) = ec1 := (ecn_f (hF497.2 15 rfl) (hF497.1 31 rfl)).trans ex_ec1
      have bfk2_495 : (0 : Int) ≤ fk2_495 ∧ fk2_495 ≤ 6 := e499 ▸ hW496.1 16
      refine .inr ⟨_, rfl, ?_⟩
      rcases q500 with ⟨rfl, a509, a510, a511, a512⟩ | ⟨rfl, a513⟩
      · have _q : True := trivial
        have b514 : (0 : Int) ≤ A 4 (ln1).toNat ∧ A 4 (ln1).toNat ≤ 3000 := hW.2 4 _
        have lt515 : lf1 < A 4 (ln1).toNat := LT_at (LT_ext (((hF497.1 3 rfl).trans (hFx.1 3 rfl))) (((hF497.2 3 rfl).trans (hFx.2 3 rfl))) (((hF497.2 4 rfl).trans (hFx.2 4 rfl))) i_LT) (show G492 3 = li from ((hF497.1 3 rfl).trans ((hFx.1 3 rfl).trans (e_li)))) (show A493 3 (ln1).toNat = lf1 from (congrFun (hF497.2 3 rfl) _).trans (ex_lf1)) (show A493 4 (ln1).toNat = A 4 (ln1).toNat from (congrFun ((hF497.2 4 rfl).trans (hFx.2 4 rfl)) _)) (by omega) (by omega)
        refine jx_if_eq (pc_q := 52) (tg := 74) rfl rfl rfl (by decide) (by decide) (fun h516 => ?_) (fun h516 => ?_)
        · have _q := h516
          exact absurd h516 (by omega)
        · have _q := h516
          refine jx_ld (pc_q := 53) (l_q := L) (st_q := [.ref 66]) rfl (jl_aloadn gL_0) ?_
          refine jx_vr (pc_q := 56) (as := []) (st := []) rfl rfl rfl rfl ⟨rfl, rfl, Nat.le_of_ble_eq_true rfl⟩ rfl rfl (c_openLine (dd := d) (hd := by omega) (hW := hW496)  (ln := ln1) (e_ln := show G492 9 = ln1 from ((hF497.1 9 rfl).trans (ex_ln1))) (le := A 4 (ln1).toNat) (e_le := show A493 4 (ln1).toNat = A 4 (ln1).toNat from (congrFun ((hF497.2 4 rfl).trans (hFx.2 4 rfl)) _)) (lf := lf1) (e_lf := show A493 3 (ln1).toNat = lf1 from (congrFun (hF497.2 3 rfl) _).trans (ex_lf1))    (p_0 := by omega)) (fun o V_q hq => ?_)
          obtain ⟨G517, A518, at2_519, tk2_520, op2_521, rfl, rfl, hW522, hF523, e524, e525, e526, p527, p528, p529, p530, -⟩ := hq
          have hF532 := Fr_tr hF501 hF523 (Fr_sub (by decide)) (Fr_sub (by decide))
          have sf533 : PZ A518 := (show A518 = A493 from funext (fun k => hF523.2 k rfl)) ▸ sf502
          have sf534 : NdM A518 (nd) (nd1) (sy) := NdM_f hF523 (by decide) sf503
          have sf535 : SW (Vs) (sb) (vi1) A518 := (show A518 = A493 from funext (fun k => hF523.2 k rfl)) ▸ sf504
          have sf536 : PQ (Vs) (sb) (pb) (fun _ => 0) A518 := (show A518 = A493 from funext (fun k => hF523.2 k rfl)) ▸ sf505
          have sf537 : VT (Vs) A518 (sb) := (show A518 = A493 from funext (fun k => hF523.2 k rfl)) ▸ sf506
          have sf538 : wQ A518 (pc1).toNat (nd1) (sb) := (show A518 = A493 from funext (fun k => hF523.2 k rfl)) ▸ sf507
          have ec539 : ecn A518 (G517 31) = ec1 := (ecn_f (hF523.2 15 rfl) (hF523.1 31 rfl)).trans ec508
          have bat2_519 : (0 : Int) ≤ at2_519 ∧ at2_519 ≤ 3002 := e524 ▸ hW522.1 10
          have ztk2_520 := tz_b tk2_520
          have btk2_520 : (0 : Int) ≤ tk2_520 ∧ tk2_520 ≤ 5 := e525 ▸ hW522.1 11
          have bop2_521 : (-2147483648 : Int) ≤ op2_521 ∧ op2_521 ≤ 2147483647 := e526 ▸ hW522.1 15
          refine .inl ⟨rfl, ?_⟩
          have pz540 : lf1 + tz tk2_520 ≤ at2_519 := by omega
          refine jx_ld (pc_q := 57) (l_q := L) (st_q := [.ref 66]) rfl (jl_aloadn gL_0) ?_
          refine jx_ar (pc_q := 59) (st_q := [.int (i32 (12)), .ref 66]) rfl rfl rfl rfl ?_
          have b541 : (-2147483648 : Int) ≤ G517 13 ∧ G517 13 ≤ 2147483647 := hW522.1 13
          refine jx_vr (pc_q := 62) (as := [.int (i32 (12))]) (st := []) rfl rfl rfl rfl ⟨rfl, rfl, Nat.le_of_ble_eq_true rfl⟩ rfl rfl (c_isKey (dd := d) (hd := by omega) (hW := hW522) (k := 12) (tk := tk2_520) (e_tk := show G517 11 = tk2_520 from (e525)) (tn := G517 13) (e_tn := show G517 13 = G517 13 from rfl)  (h_k := ⟨(by decide), (by decide)⟩)  ) (fun o V_q hq => ?_)
          obtain ⟨r542, rfl, rfl, b543, q544⟩ := hq
          refine .inr ⟨_, rfl, ?_⟩
          rcases q544 with ⟨rfl, a545, a546, a547⟩ | rfl
          · have _q : True := trivial
            refine jx_ld (pc_q := 63) (l_q := jSto1 L 1 (.int (i32 (1)))) (st_q := []) rfl rfl ?_
            obtain ⟨L548, eL548⟩ : ∃ q, q = jSto1 L 1 (.int (i32 (1))) := ⟨_, rfl⟩
            rw [← eL548]
            have gL548_0 : jGet L548 0 = some (.ref 66) := eL548 ▸ jg_ne (by decide) gL_0 rfl
            have gL548_1 : jGet L548 1 = some (.int (i32 (1))) := eL548 ▸ jg_eq
            refine jx_ld (pc_q := 64) (l_q := L548) (st_q := [.int (i32 (1))]) rfl (jl_iloadn gL548_1) ?_
            refine jx_if_eq (pc_q := 67) (tg := 40) rfl rfl rfl (by decide) (by decide) (fun h549 => ?_) (fun h549 => ?_)
            · have _q := h549
              exact absurd h549 (by omega)
            · have _q := h549
              refine jx_ld (pc_q := 68) (l_q := L548) (st_q := [.ref 66]) rfl (jl_aloadn gL548_0) ?_
              refine jx_vr (pc_q := 71) (as := []) (st := []) rfl rfl rfl rfl ⟨rfl, rfl, Nat.le_of_ble_eq_true rfl⟩ rfl rfl (c_readProc_w (dd := d) (hd := by omega) (hW := hW522)  (ln := ln1) (e_ln := show G517 9 = ln1 from ((hF523.1 9 rfl).trans ((hF497.1 9 rfl).trans (ex_ln1)))) (li := li) (e_li := show G517 3 = li from ((hF523.1 3 rfl).trans ((hF497.1 3 rfl).trans ((hFx.1 3 rfl).trans (e_li))))) (at0 := at2_519) (e_at0 := show G517 10 = at2_519 from (e524)) (fk := fk2_495) (e_fk := show G517 16 = fk2_495 from ((hF523.1 16 rfl).trans (e499))) (nd := nd1) (e_nd := show G517 31 = nd1 from ((hF523.1 31 rfl).trans ((hF497.1 31 rfl).trans (ex_nd1)))) (sy := sy1) (e_sy := show G517 19 = sy1 from ((hF523.1 19 rfl).trans ((hF497.1 19 rfl).trans (ex_sy1)))) (na := na1) (e_na := show G517 28 = na1 from ((hF523.1 28 rfl).trans ((hF497.1 28 rfl).trans (ex_na1)))) (vi := vi1) (e_vi := show G517 29 = vi1 from ((hF523.1 29 rfl).trans ((hF497.1 29 rfl).trans (ex_vi1)))) (le := A 4 (ln1).toNat) (e_le := show A518 4 (ln1).toNat = A 4 (ln1).toNat from (congrFun ((hF523.2 4 rfl).trans ((hF497.2 4 rfl).trans (hFx.2 4 rfl))) _)) (op0 := op2_521) (e_op0 := show G517 15 = op2_521 from (e526)) (tk0 := tk2_520) (e_tk0 := show G517 11 = tk2_520 from (e525)) (pc0 := pc1) (e_pc0 := show G517 46 = pc1 from ((hF523.1 46 rfl).trans ((hF497.1 46 rfl).trans (ex_pc1)))) (ec := ec1) (e_ec := show ecn A518 (G517 31) = ec1 from ec539) (i_LT := (LT_ext (((hF523.1 3 rfl).trans ((hF497.1 3 rfl).trans (hFx.1 3 rfl)))) (((hF523.2 3 rfl).trans ((hF497.2 3 rfl).trans (hFx.2 3 rfl)))) (((hF523.2 4 rfl).trans ((hF497.2 4 rfl).trans (hFx.2 4 rfl)))) i_LT)) (i_SV := (SW_sv sf535 ((show G517 29 = vi1 from ((hF523.1 29 rfl).trans ((hF497.1 29 rfl).trans (ex_vi1)))).trans (by omega)))) (i_PQ := sf536) (hvb := hvb)   (p_0 := by omega) (p_1 := by omega) (p_2 := by omega) (p_3 := by omega) (p_4 := by omega) (p_5 := by omega) (p_6 := by omega) (p_7 := by omega) (p_8 := (wQ_eq sf538 (by omega) (by omega) (by omega))) (p_9 := (VT_eq sf537 (by omega)))) (fun o V_q hq => ?_)
              obtain ⟨G550, A551, ln2_552, at2_553, fk2_554, nd2_555, sy2_556, na2_557, vi2_558, lf2_559, pc2_560, ec2_561, rfl, rfl, hW562, hF563, hQ564, hQ565, hQ566, hQ567, e568, e569, e570, e571, e572, e573, e574, e575, e576, e577, p578, p579, p580, p581, q582⟩ := hq
              have hF583 := Fr_tr hF532 hF563 (Fr_sub (by decide)) (Fr_sub (by decide))
              have sf584 : PZ A551 := PZ_ext (hF563.2 36 rfl) sf533
              have sf585 : NdM A551 (nd) (nd1) (sy) := NdM_pf hQ564 (by omega) (by omega) sf534
              have sf586 : SW (Vs) (sb) (vi1) A551 := SW_fx hQ566 (by omega) sf535
              have sf587 : PQ (Vs) (sb) (pb) (fun _ => 0) A551 := PQ_fxq sf536 hQ565 (by omega) hQ567 (by omega)
              have sf588 : VT (Vs) A551 (sb) := VT_fx hQ565 (by omega) sf537
              have sf589 : wQ A551 (pc1).toNat (nd1) (sb) := wQ_fx (fun k j hk hj => hQ564 k j hk (by omega)) (Fx_su hQ565 (by omega)) (Fx_su hQ567 (by omega)) sf538
              have bln2_552 : (0 : Int) ≤ ln2_552 ∧ ln2_552 ≤ 3000 := e568 ▸ hW562.1 9
              have bat2_553 : (0 : Int) ≤ at2_553 ∧ at2_553 ≤ 3002 := e569 ▸ hW562.1 10
              have bfk2_554 : (0 : Int) ≤ fk2_554 ∧ fk2_554 ≤ 6 := e570 ▸ hW562.1 16
              have bnd2_555 : (0 : Int) ≤ nd2_555 ∧ nd2_555 ≤ 6999 := e571 ▸ hW562.1 31
              have bsy2_556 : (0 : Int) ≤ sy2_556 ∧ sy2_556 ≤ 202 := e572 ▸ hW562.1 19
              have bna2_557 : (0 : Int) ≤ na2_557 ∧ na2_557 ≤ 200 := e573 ▸ hW562.1 28
              have bvi2_558 : (0 : Int) ≤ vi2_558 ∧ vi2_558 ≤ 202 := e574 ▸ hW562.1 29
              have blf2_559 : (0 : Int) ≤ lf2_559 ∧ lf2_559 ≤ 3000 := e575 ▸ hW562.2 3 _
              have bpc2_560 : (0 : Int) ≤ pc2_560 ∧ pc2_560 ≤ 24 := e576 ▸ hW562.1 46
              refine .inl ⟨rfl, ?_⟩
              rcases q582 with a590 | ⟨a591, a592, a593, a594, a595, a596, a597, a598, a599, a600, a601, a602, a603, a604⟩
              · have _q : True := trivial
                refine jx_go (tg := 40) rfl rfl ?_
                refine jx_ld (pc_q := 41) (l_q := L548) (st_q := [.int (i32 (1))]) rfl (jl_iloadn gL548_1) ?_
                refine jx_if_eq (pc_q := 44) (tg := 74) rfl rfl rfl (by decide) (by decide) (fun h605 => ?_) (fun h605 => ?_)
                · have _q := h605
                  exact absurd h605 (by omega)
                · have _q := h605
                  refine jx_ld (pc_q := 45) (l_q := L548) (st_q := [.ref 66]) rfl (jl_aloadn gL548_0) ?_
                  refine jx_ar (pc_q := 46) (st_q := [.int (i32 (0)), .ref 66]) rfl rfl rfl rfl ?_
                  have b606 : (-1 : Int) ≤ A 5 (ln2_552).toNat ∧ A 5 (ln2_552).toNat ≤ 15 := hW.2 5 _
                  refine jx_vr (pc_q := 49) (as := [.int (i32 (0))]) (st := []) rfl rfl rfl rfl ⟨rfl, rfl, Nat.le_of_ble_eq_true rfl⟩ rfl rfl (c_needLevel (dd := d) (hd := by omega) (hW := hW562) (lv := 0) (ln := ln2_552) (e_ln := show G550 9 = ln2_552 from (e568)) (li := li) (e_li := show G550 3 = li from ((hF563.1 3 rfl).trans ((hF523.1 3 rfl).trans ((hF497.1 3 rfl).trans ((hFx.1 3 rfl).trans (e_li)))))) (fk := fk2_554) (e_fk := show G550 16 = fk2_554 from (e570)) (ll := A 5 (ln2_552).toNat) (e_ll := show A551 5 (ln2_552).toNat = A 5 (ln2_552).toNat from (congrFun ((hF563.2 5 rfl).trans ((hF523.2 5 rfl).trans ((hF497.2 5 rfl).trans (hFx.2 5 rfl)))) _))  (h_lv := ⟨(by decide), (by decide)⟩)  ) (fun o V_q hq => ?_)
                  obtain ⟨G607, A608, r609, fk2_610, rfl, rfl, hW611, hF612, b613, e614, q615⟩ := hq
                  have hF616 := Fr_tr hF583 hF612 (Fr_sub (by decide)) (Fr_sub (by decide))
                  have sf617 : PZ A608 := (show A608 = A551 from funext (fun k => hF612.2 k rfl)) ▸ sf584
                  have sf618 : NdM A608 (nd) (nd1) (sy) := NdM_f hF612 (by decide) sf585
                  have sf619 : SW (Vs) (sb) (vi1) A608 := (show A608 = A551 from funext (fun k => hF612.2 k rfl)) ▸ sf586
                  have sf620 : PQ (Vs) (sb) (pb) (fun _ => 0) A608 := (show A608 = A551 from funext (fun k => hF612.2 k rfl)) ▸ sf587
                  have sf621 : VT (Vs) A608 (sb) := (show A608 = A551 from funext (fun k => hF612.2 k rfl)) ▸ sf588
                  have sf622 : wQ A608 (pc1).toNat (nd1) (sb) := (show A608 = A551 from funext (fun k => hF612.2 k rfl)) ▸ sf589
                  have ec623 : ecn A608 (G607 31) = ec2_561 := (ecn_f (hF612.2 15 rfl) (hF612.1 31 rfl)).trans e577
                  have bfk2_610 : (0 : Int) ≤ fk2_610 ∧ fk2_610 ≤ 6 := e614 ▸ hW611.1 16
                  refine .inr ⟨_, rfl, ?_⟩
                  rcases q615 with ⟨rfl, a624, a625, a626, a627⟩ | ⟨rfl, a628⟩
                  · have _q : True := trivial
                    exfalso
                    omega
                  · have _q : True := trivial
                    refine jx_if_eq (pc_q := 52) (tg := 74) rfl rfl rfl (by decide) (by decide) (fun h629 => ?_) (fun h629 => ?_)
                    · have _q := h629
                      refine jx_ld (pc_q := 75) (l_q := L548) (st_q := [.ref 66]) rfl (jl_aloadn gL548_0) ?_
                      refine jx_vr (pc_q := 78) (as := []) (st := []) rfl rfl rfl rfl ⟨rfl, rfl, Nat.le_of_ble_eq_true rfl⟩ rfl rfl (c_bad (dd := d) (hd := by omega) (hW := hW611)  (fk := fk2_610) (e_fk := show G607 16 = fk2_610 from (e614))    ) (fun o V_q hq => ?_)
                      obtain ⟨r630, rfl, rfl, b631, q632⟩ := hq
                      refine .inr ⟨_, rfl, ?_⟩
                      rcases q632 with ⟨rfl, a633⟩ | ⟨rfl, a634⟩
                      · have _q : True := trivial
                        refine jx_if_eq (pc_q := 81) (tg := 82) rfl rfl rfl (by decide) (by decide) (fun h635 => ?_) (fun h635 => ?_)
                        · have _q := h635
                          exact absurd h635 (by omega)
                        · have _q := h635
                          refine jx_rt (v := none) rfl rfl rfl rfl rfl rfl ?_
                          exact ⟨_, _, ln2_552, fk2_610, nd2_555, sy2_556, na2_557, vi2_558, pc2_560, lk, ec2_561, rfl, rfl, hW611, hF616, ((hF612.1 9 rfl).trans (e568)), (e614), ((hF612.1 31 rfl).trans (e571)), ((hF612.1 19 rfl).trans (e572)), ((hF612.1 28 rfl).trans (e573)), ((hF612.1 29 rfl).trans (e574)), ((hF612.1 46 rfl).trans (e576)), ((hF612.1 52 rfl).trans ((hF563.1 52 rfl).trans ((hF523.1 52 rfl).trans ((hF497.1 52 rfl).trans (fx_52))))), ec623, by first | exact Or.inl (by omega)⟩
                      · have _q : True := trivial
                        exfalso
                        omega
                    · have _q := h629
                      exact absurd h629 (by omega)
              · have _q : True := trivial
                refine jx_go (tg := 40) rfl rfl ?_
                exact ih40 _ (by omega) L548 G550 A551 (1) (ln2_552) (fk2_554) (nd2_555) (sy2_556) (na2_557) (vi2_558) (lf2_559) (pc2_560) (ec2_561) rfl gL548_0 gL548_1 hW562 hF583 ((e568)) ((e570)) ((e571)) ((e572)) ((e573)) ((e574)) ((e575)) ((e576)) (e577) (((hF563.1 52 rfl).trans ((hF523.1 52 rfl).trans ((hF497.1 52 rfl).trans (fx_52))))) (by omega) (by omega) (by omega) (by omega) (by omega) (by omega) (by omega) ((TP_mk (VB_u hvb (by omega) (by omega)) a600 a601 a602 a599 (by omega) (by omega) (by omega) (by omega) (by omega) (by omega) (by omega) (by omega))) (sf584) (by omega) (by omega) ((NdM_w (NdM_app (sy := sy) sf585 a604 (by omega) (by omega) (by omega)) (by omega) (by omega) (by omega)))
          · have _q : True := trivial
            refine jx_ld (pc_q := 63) (l_q := jSto1 L 1 (.int (i32 (0)))) (st_q := []) rfl rfl ?_
            obtain ⟨L636, eL636⟩ : ∃ q, q = jSto1 L 1 (.int (i32 (0))) := ⟨_, rfl⟩
            rw [← eL636]
            have gL636_0 : jGet L636 0 = some (.ref 66) := eL636 ▸ jg_ne (by decide) gL_0 rfl
            have gL636_1 : jGet L636 1 = some (.int (i32 (0))) := eL636 ▸ jg_eq
            refine jx_ld (pc_q := 64) (l_q := L636) (st_q := [.int (i32 (0))]) rfl (jl_iloadn gL636_1) ?_
            refine jx_if_eq (pc_q := 67) (tg := 40) rfl rfl rfl (by decide) (by decide) (fun h637 => ?_) (fun h637 => ?_)
            · have _q := h637
              refine jx_ld (pc_q := 41) (l_q := L636) (st_q := [.int (i32 (0))]) rfl (jl_iloadn gL636_1) ?_
              refine jx_if_eq (pc_q := 44) (tg := 74) rfl rfl rfl (by decide) (by decide) (fun h638 => ?_) (fun h638 => ?_)
              · have _q := h638
                have z639 := tz_f (tk2_520)
                exact c_readProgram_w_at_74 (X := X) (d := d) (c0 := c0) (c1 := c1) (G := G) (A := A) (T := T) (ln := ln) (li := li) (fk := fk) (nd := nd) (sy := sy) (na := na) (vi := vi) (lf := lf) (pc := pc) (lk := lk) (ec := ec) (hd := hd) (hW := hW) (e_ln := e_ln) (e_li := e_li) (e_fk := e_fk) (e_nd := e_nd) (e_sy := e_sy) (e_na := e_na) (e_vi := e_vi) (e_lf := e_lf) (e_pc := e_pc) (e_lk := e_lk) (e_ec := e_ec) (i_LT := i_LT) (p_0 := p_0) (p_1 := p_1) (p_2 := p_2) (p_3 := p_3) (p_4 := p_4) (p_5 := p_5) (p_6 := p_6) (p_7 := p_7) (p_8 := p_8) (p_9 := p_9) L636 G517 A518 (ln1) (at2_519) (tk2_520) (fk2_495) (op2_521) (nd1) (sy1) (na1) (vi1) (lf1) (A 4 (ln1).toNat) (pc1) (ec1) gL636_0 hW522 hF532 (((hF523.1 9 rfl).trans ((hF497.1 9 rfl).trans (ex_ln1)))) ((e524)) ((e525)) (((hF523.1 16 rfl).trans (e499))) ((e526)) (((hF523.1 31 rfl).trans ((hF497.1 31 rfl).trans (ex_nd1)))) (((hF523.1 19 rfl).trans ((hF497.1 19 rfl).trans (ex_sy1)))) (((hF523.1 28 rfl).trans ((hF497.1 28 rfl).trans (ex_na1)))) (((hF523.1 29 rfl).trans ((hF497.1 29 rfl).trans (ex_vi1)))) ((congrFun ((hF523.2 3 rfl).trans (hF497.2 3 rfl)) _).trans (ex_lf1)) ((congrFun ((hF523.2 4 rfl).trans ((hF497.2 4 rfl).trans (hFx.2 4 rfl))) _)) (((hF523.1 46 rfl).trans ((hF497.1 46 rfl).trans (ex_pc1)))) (ec539) (((hF523.1 52 rfl).trans ((hF497.1 52 rfl).trans (fx_52)))) (by omega) (by omega) (by omega) (by omega) (by omega) (by omega) (by omega) (by omega) (by omega) (by omega) (by omega) (sf533) ((TP_mk (VB_eq hvb (by omega)) sf535 sf536 sf537 sf538 (by omega) (by omega) (by omega) (by omega) (by omega) (by omega) (by omega) (by omega))) (by omega) (sf534)
              · have _q := h638
                exact absurd h638 (by omega)
            · have _q := h637
              exact absurd h637 (by omega)
      · have _q : True := trivial
        refine jx_if_eq (pc_q := 52) (tg := 74) rfl rfl rfl (by decide) (by decide) (fun h640 => ?_) (fun h640 => ?_)
        · have _q := h640
          refine jx_ld (pc_q := 75) (l_q := L) (st_q := [.ref 66]) rfl (jl_aloadn gL_0) ?_
          refine jx_vr (pc_q := 78) (as := []) (st := []) rfl rfl rfl rfl ⟨rfl, rfl, Nat.le_of_ble_eq_true rfl⟩ rfl rfl (c_bad (dd := d) (hd := by omega) (hW := hW496)  (fk := fk2_495) (e_fk := show G492 16 = fk2_495 from (e499))    ) (fun o V_q hq => ?_)
          obtain ⟨r641, rfl, rfl, b642, q643⟩ := hq
          refine .inr ⟨_, rfl, ?_⟩
          rcases q643 with ⟨rfl, a644⟩ | ⟨rfl, a645⟩
          · have _q : True := trivial
            refine jx_if_eq (pc_q := 81) (tg := 82) rfl rfl rfl (by decide) (by decide) (fun h646 => ?_) (fun h646 => ?_)
            · have _q := h646
              exact absurd h646 (by omega)
            · have _q := h646
              refine jx_rt (v := none) rfl rfl rfl rfl rfl rfl ?_
              exact ⟨_, _, ln1, fk2_495, nd1, sy1, na1, vi1, pc1, lk, ec1, rfl, rfl, hW496, hF501, ((hF497.1 9 rfl).trans (ex_ln1)), (e499), ((hF497.1 31 rfl).trans (ex_nd1)), ((hF497.1 19 rfl).trans (ex_sy1)), ((hF497.1 28 rfl).trans (ex_na1)), ((hF497.1 29 rfl).trans (ex_vi1)), ((hF497.1 46 rfl).trans (ex_pc1)), ((hF497.1 52 rfl).trans (fx_52)), ec508, by first | exact Or.inl (by omega)⟩
          · have _q : True := trivial
            exfalso
            omega
        · have _q := h640
          exact absurd h640 (by omega)
set_option maxRecDepth 20000 in
set_option maxHeartbeats 4000000 in
theorem c_readProgram_w {X : jX} {dd : Nat} {c0 c1 : jC} {G : Nat → Int} {A : Nat → Nat → Int} {T : jH} {ln li fk nd sy na vi lf pc lk ec : Int} (hd : 8 * 18 + 82 ≤ dd) (hW : Wk G A) (e_ln : G 9 = ln) (e_li : G 3 = li) (e_fk : G 16 = fk) (e_nd : G 31 = nd) (e_sy : G 19 = sy) (e_na : G 28 = na) (e_vi : G 29 = vi) (e_lf : A 3 (ln).toNat = lf) (e_pc : G 46 = pc) (e_lk : G 52 = lk) (e_ec : ecn A (G 31) = ec) (i_LT : LT G A) (p_0 : fk = 0) (p_1 : ln = 0) (p_2 : nd = 1) (p_3 : sy = 0) (p_4 : na = 0) (p_5 : vi = 0) (p_6 : pc = 0) (p_7 : lk = 0) (p_8 : PZ A) (p_9 : ec ≤ 1) : wk X dd 312 [.ref 66] (rV c0 c1 G A T) (fun o V_q => ∃ (G_q : Nat → Int) (A_q : Nat → Nat → Int) (ln2 : Int) (fk2 : Int) (nd2 : Int) (sy2 : Int) (na2 : Int) (vi2 : Int) (pc2 : Int) (lk2 : Int) (ec2 : Int), V_q = rV c0 c1 G_q A_q T ∧ o = .inl none ∧ Wk G_q A_q ∧ Fr [9, 10, 11, 12, 13, 14, 15, 16, 17, 18, 19, 28, 29, 31, 46, 52] [6, 7, 8, 9, 10, 11, 12, 14, 15, 16, 17, 18, 19, 20, 21, 22, 23, 24, 28, 29, 30, 31, 34, 35, 36] G A G_q A_q ∧ G_q 9 = ln2 ∧ G_q 16 = fk2 ∧ G_q 31 = nd2 ∧ G_q 19 = sy2 ∧ G_q 28 = na2 ∧ G_q 29 = vi2 ∧ G_q 46 = pc2 ∧ G_q 52 = lk2 ∧ ecn A_q (G_q 31) = ec2 ∧ (((1 ≤ fk2)) ∨ ((fk2 = 0) ∧ (TT A_q (pc2) (nd2) (sy2) (lk2)) ∧ (NdM A_q (nd) (nd2) (sy)) ∧ (nd2 + 5 * ec2 ≤ 6055)))) := by
  obtain ⟨d, rfl⟩ : ∃ d, dd = d + 1 := ⟨dd - 1, by omega⟩
  refine wk_of (e := jm312) rfl (Nat.le_of_ble_eq_true rfl) ?_
  show wj X d jm312 (0, [(0, .ref 66)], [], rV c0 c1 G A T) _
  have hF0 : Fr [9, 10, 11, 12, 13, 14, 15, 16, 17, 18, 19, 28, 29, 31, 46, 52] [6, 7, 8, 9, 10, 11, 12, 14, 15, 16, 17, 18, 19, 20, 21, 22, 23, 24, 28, 29, 30, 31, 34, 35, 36] G A G A := Fr_rf
  have b_ln : (0 : Int) ≤ ln ∧ ln ≤ 3000 := e_ln ▸ hW.1 9
  have b_li : (0 : Int) ≤ li ∧ li ≤ 3000 := e_li ▸ hW.1 3
  have b_fk : (0 : Int) ≤ fk ∧ fk ≤ 6 := e_fk ▸ hW.1 16
  have b_nd : (0 : Int) ≤ nd ∧ nd ≤ 6999 := e_nd ▸ hW.1 31
  have b_sy : (0 : Int) ≤ sy ∧ sy ≤ 202 := e_sy ▸ hW.1 19
  have b_na : (0 : Int) ≤ na ∧ na ≤ 200 := e_na ▸ hW.1 28
  have b_vi : (0 : Int) ≤ vi ∧ vi ≤ 202 := e_vi ▸ hW.1 29
  have b_lf : (0 : Int) ≤ lf ∧ lf ≤ 3000 := e_lf ▸ hW.2 3 _
  have b_pc : (0 : Int) ≤ pc ∧ pc ≤ 24 := e_pc ▸ hW.1 46
  have b_lk : (0 : Int) ≤ lk ∧ lk ≤ 12 := e_lk ▸ hW.1 52
  refine jx_ld (pc_q := 1) (l_q := [(0, .ref 66)]) (st_q := [.ref 66]) rfl (jl_aloadn rfl) ?_
  refine jx_hp (pc_q := 4) (st_q := [.ref 27, .ref 66]) rfl rfl rfl rfl rfl rfl ?_
  refine jx_st (pc_q := 7) (as := [.ref 27]) (st := [.ref 66]) rfl rfl ⟨rfl, Nat.le_of_ble_eq_true rfl⟩ rfl rfl rfl (c_nameOf (dd := d) (hd := by omega) (s := 27)    (q_s := rfl) (l_s := by decide) (n_s := by decide) ) (fun o V_q hq => ?_)
  obtain ⟨r647, rfl, rfl, -⟩ := hq
  refine .inr ⟨_, rfl, ?_⟩
  refine jx_ar (pc_q := 9) (st_q := [.int (i32 (12)), .long (r647), .ref 66]) rfl rfl rfl rfl ?_
  refine jx_ar (pc_q := 10) (st_q := [.int (i32 (0)), .int (i32 (12)), .long (r647), .ref 66]) rfl rfl rfl rfl ?_
  refine jx_vr (pc_q := 13) (as := [.long (r647), .int (i32 (12)), .int (i32 (0))]) (st := []) rfl rfl rfl rfl ⟨rfl, rfl, Nat.le_of_ble_eq_true rfl⟩ rfl rfl (c_symbol (dd := d) (hd := by omega) (hW := hW) (nm := r647) (kind := 12) (many := 0) (sy := sy) (e_sy := show G 19 = sy from (e_sy))  (h_kind := ⟨(by decide), (by decide)⟩) (h_many := ⟨(by decide), (by decide)⟩)  (p_0 := by omega) (p_1 := by omega)) (fun o V_q hq => ?_)
  obtain ⟨G649, A650, r651, sy2_652, yk2_653, rfl, rfl, hW654, hF655, hQ656, b657, e658, e659, p660, p661, p662, p663, -⟩ := hq
  have hF665 := Fr_tr hF0 hF655 (Fr_sub (by decide)) (Fr_sub (by decide))
  have sf666 : PZ A650 := PZ_ext (hF655.2 36 rfl) p_8
  have ec667 : ecn A650 (G649 31) = ec := (ecn_f (hF655.2 15 rfl) (hF655.1 31 rfl)).trans e_ec
  have bsy2_652 : (0 : Int) ≤ sy2_652 ∧ sy2_652 ≤ 202 := e658 ▸ hW654.1 19
  have byk2_653 : (0 : Int) ≤ yk2_653 ∧ yk2_653 ≤ 14 := e659 ▸ hW654.2 7 _
  refine .inr ⟨_, rfl, ?_⟩
  refine jx_ar (pc_q := 14) (st_q := []) rfl rfl rfl rfl ?_
  refine jx_ld (pc_q := 15) (l_q := [(0, .ref 66)]) (st_q := [.ref 66]) rfl (jl_aloadn rfl) ?_
  refine jx_hp (pc_q := 18) (st_q := [.ref 28, .ref 66]) rfl rfl rfl rfl rfl rfl ?_
  refine jx_st (pc_q := 21) (as := [.ref 28]) (st := [.ref 66]) rfl rfl ⟨rfl, Nat.le_of_ble_eq_true rfl⟩ rfl rfl rfl (c_nameOf (dd := d) (hd := by omega) (s := 28)    (q_s := rfl) (l_s := by decide) (n_s := by decide) ) (fun o V_q hq => ?_)
  obtain ⟨r668, rfl, rfl, -⟩ := hq
  refine .inr ⟨_, rfl, ?_⟩
  refine jx_ar (pc_q := 23) (st_q := [.int (i32 (13)), .long (r668), .ref 66]) rfl rfl rfl rfl ?_
  refine jx_ar (pc_q := 24) (st_q := [.int (i32 (0)), .int (i32 (13)), .long (r668), .ref 66]) rfl rfl rfl rfl ?_
  refine jx_vr (pc_q := 27) (as := [.long (r668), .int (i32 (13)), .int (i32 (0))]) (st := []) rfl rfl rfl rfl ⟨rfl, rfl, Nat.le_of_ble_eq_true rfl⟩ rfl rfl (c_symbol (dd := d) (hd := by omega) (hW := hW654) (nm := r668) (kind := 13) (many := 0) (sy := sy2_652) (e_sy := show G649 19 = sy2_652 from (e658))  (h_kind := ⟨(by decide), (by decide)⟩) (h_many := ⟨(by decide), (by decide)⟩)  (p_0 := by omega) (p_1 := by omega)) (fun o V_q hq => ?_)
  obtain ⟨G670, A671, r672, sy2_673, yk2_674, rfl, rfl, hW675, hF676, hQ677, b678, e679, e680, p681, p682, p683, p684, -⟩ := hq
  have hF686 := Fr_tr hF665 hF676 (Fr_sub (by decide)) (Fr_sub (by decide))
  have sf687 : PZ A671 := PZ_ext (hF676.2 36 rfl) sf666
  have sf688 : YD A671 (sy) (12) (0) := YD_fx (by omega) (by omega) hQ677 p663
  have ec689 : ecn A671 (G670 31) = ec := (ecn_f (hF676.2 15 rfl) (hF676.1 31 rfl)).trans ec667
  have bsy2_673 : (0 : Int) ≤ sy2_673 ∧ sy2_673 ≤ 202 := e679 ▸ hW675.1 19
  have byk2_674 : (0 : Int) ≤ yk2_674 ∧ yk2_674 ≤ 14 := e680 ▸ hW675.2 7 _
  refine .inr ⟨_, rfl, ?_⟩
  refine jx_ar (pc_q := 28) (st_q := []) rfl rfl rfl rfl ?_
  refine jx_ld (pc_q := 29) (l_q := [(0, .ref 66)]) (st_q := [.ref 66]) rfl (jl_aloadn rfl) ?_
  refine jx_ar (pc_q := 30) (st_q := [.int (i32 (0)), .ref 66]) rfl rfl rfl rfl ?_
  refine jx_vr (pc_q := 33) (as := [.int (i32 (0))]) (st := []) rfl rfl rfl rfl ⟨rfl, rfl, Nat.le_of_ble_eq_true rfl⟩ rfl rfl (c_show (dd := d) (hd := by omega) (hW := hW675) (s := 0) (vi := vi) (e_vi := show G670 29 = vi from ((hF676.1 29 rfl).trans ((hF655.1 29 rfl).trans (e_vi))))  (h_s := ⟨(by decide), (by decide)⟩)  (p_0 := by omega) (p_1 := by omega)) (fun o V_q hq => ?_)
  obtain ⟨G690, A691, vi2_692, sv2_693, rfl, rfl, hW694, hF695, hQ696, e697, e698, p699, p700, -⟩ := hq
  have hF702 := Fr_tr hF686 hF695 (Fr_sub (by decide)) (Fr_sub (by decide))
  have sf703 : PZ A691 := PZ_ext (hF695.2 36 rfl) sf687
  have sf704 : YD A691 (sy) (12) (0) := YD_fx (by omega) (by omega) (Sg_fr (sb := sy + 1) hF695 (by decide)) sf688
  have sf705 : YD A691 (sy2_652) (13) (0) := YD_fx (by omega) (by omega) (Sg_fr (sb := sy2_652 + 1) hF695 (by decide)) p684
  have ec706 : ecn A691 (G690 31) = ec := (ecn_f (hF695.2 15 rfl) (hF695.1 31 rfl)).trans ec689
  have bvi2_692 : (0 : Int) ≤ vi2_692 ∧ vi2_692 ≤ 202 := e697 ▸ hW694.1 29
  have bsv2_693 : (0 : Int) ≤ sv2_693 ∧ sv2_693 ≤ 201 := e698 ▸ hW694.2 14 _
  refine .inl ⟨rfl, ?_⟩
  refine jx_ld (pc_q := 34) (l_q := [(0, .ref 66)]) (st_q := [.ref 66]) rfl (jl_aloadn rfl) ?_
  have _q : True := trivial
  refine jx_ar (pc_q := 35) (st_q := [.int (i32 (1)), .ref 66]) rfl rfl rfl rfl ?_
  refine jx_vr (pc_q := 38) (as := [.int (i32 (1))]) (st := []) rfl rfl rfl rfl ⟨rfl, rfl, Nat.le_of_ble_eq_true rfl⟩ rfl rfl (c_show (dd := d) (hd := by omega) (hW := hW694) (s := 1) (vi := vi2_692) (e_vi := show G690 29 = vi2_692 from (e697))  (h_s := ⟨(by decide), (by decide)⟩)  (p_0 := by omega) (p_1 := by omega)) (fun o V_q hq => ?_)
  obtain ⟨G707, A708, vi2_709, sv2_710, rfl, rfl, hW711, hF712, hQ713, e714, e715, p716, p717, -⟩ := hq
  have hF719 := Fr_tr hF702 hF712 (Fr_sub (by decide)) (Fr_sub (by decide))
  have k720 : A708 14 (vi).toNat = sv2_693 := (hQ713 14 _ rfl (by omega)).trans (show A691 14 (vi).toNat = sv2_693 from (e698))
  have sf721 : PZ A708 := PZ_ext (hF712.2 36 rfl) sf703
  have sf722 : YD A708 (sy) (12) (0) := YD_fx (by omega) (by omega) (Sg_fr (sb := sy + 1) hF712 (by decide)) sf704
  have sf723 : YD A708 (sy2_652) (13) (0) := YD_fx (by omega) (by omega) (Sg_fr (sb := sy2_652 + 1) hF712 (by decide)) sf705
  have ec724 : ecn A708 (G707 31) = ec := (ecn_f (hF712.2 15 rfl) (hF712.1 31 rfl)).trans ec706
  have bvi2_709 : (0 : Int) ≤ vi2_709 ∧ vi2_709 ≤ 202 := e714 ▸ hW711.1 29
  have bsv2_710 : (0 : Int) ≤ sv2_710 ∧ sv2_710 ≤ 201 := e715 ▸ hW711.2 14 _
  refine .inl ⟨rfl, ?_⟩
  refine jx_ar (pc_q := 39) (st_q := [.int (i32 (1))]) rfl rfl rfl rfl ?_
  refine jx_ld (pc_q := 40) (l_q := jSto1 [(0, .ref 66)] 1 (.int (i32 (1)))) (st_q := []) rfl rfl ?_
  obtain ⟨L725, eL725⟩ : ∃ q, q = jSto1 [(0, .ref 66)] 1 (.int (i32 (1))) := ⟨_, rfl⟩
  rw [← eL725]
  have gL725_0 : jGet L725 0 = some (.ref 66) := eL725 ▸ jg_ne (by decide) (rfl : jGet [(0, .ref 66)] 0 = some (.ref 66)) rfl
  have gL725_1 : jGet L725 1 = some (.int (i32 (1))) := eL725 ▸ jg_eq
  exact c_readProgram_w_at_40 (X := X) (d := d) (c0 := c0) (c1 := c1) (G := G) (A := A) (T := T) (ln := ln) (li := li) (fk := fk) (nd := nd) (sy := sy) (na := na) (vi := vi) (lf := lf) (pc := pc) (lk := lk) (ec := ec) (hd := hd) (hW := hW) (e_ln := e_ln) (e_li := e_li) (e_fk := e_fk) (e_nd := e_nd) (e_sy := e_sy) (e_na := e_na) (e_vi := e_vi) (e_lf := e_lf) (e_pc := e_pc) (e_lk := e_lk) (e_ec := e_ec) (i_LT := i_LT) (p_0 := p_0) (p_1 := p_1) (p_2 := p_2) (p_3 := p_3) (p_4 := p_4) (p_5 := p_5) (p_6 := p_6) (p_7 := p_7) (p_8 := p_8) (p_9 := p_9) _ L725 G707 A708 (1) (ln) (fk) (nd) (sy2_673) (na) (vi2_709) (lf) (pc) (ec) rfl gL725_0 gL725_1 hW711 hF719 (((hF712.1 9 rfl).trans ((hF695.1 9 rfl).trans ((hF676.1 9 rfl).trans ((hF655.1 9 rfl).trans (e_ln)))))) (((hF712.1 16 rfl).trans ((hF695.1 16 rfl).trans ((hF676.1 16 rfl).trans ((hF655.1 16 rfl).trans (e_fk)))))) (((hF712.1 31 rfl).trans ((hF695.1 31 rfl).trans ((hF676.1 31 rfl).trans ((hF655.1 31 rfl).trans (e_nd)))))) (((hF712.1 19 rfl).trans ((hF695.1 19 rfl).trans (e679)))) (((hF712.1 28 rfl).trans ((hF695.1 28 rfl).trans ((hF676.1 28 rfl).trans ((hF655.1 28 rfl).trans (e_na)))))) ((e714)) ((congrFun ((hF712.2 3 rfl).trans ((hF695.2 3 rfl).trans ((hF676.2 3 rfl).trans (hF655.2 3 rfl)))) _).trans (e_lf)) (((hF712.1 46 rfl).trans ((hF695.1 46 rfl).trans ((hF676.1 46 rfl).trans ((hF655.1 46 rfl).trans (e_pc)))))) (ec724) (((hF712.1 52 rfl).trans ((hF695.1 52 rfl).trans ((hF676.1 52 rfl).trans ((hF655.1 52 rfl).trans (e_lk)))))) (by omega) (by omega) (by omega) (by omega) (by omega) (by omega) (by omega) ((TP_init sf722 (by omega) sf723 (by omega) (show A708 14 (vi).toNat = sv2_693 from (k720)) (by omega) (by omega) (show A708 14 (vi2_692).toNat = sv2_710 from (e715)) (by omega) (by omega) (by omega) (by omega) (by omega) (by omega))) (sf721) (by omega) (by omega) ((NdM_0 (by omega)))
