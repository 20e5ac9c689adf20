set_option maxRecDepth 20000 in
set_option maxHeartbeats 4000000 in
theorem c_readNamed_at_259_1 {X : jX} {d : Nat} {Vs : Nat → Prop} {sb pb : Int} {c0 c1 : jC} {G : Nat → Int} {A : Nat → Nat → Int} {T : jH} {ln le at0 fk op0 nd tk0 li : Int} (hd : 72 ≤ d + 1) (hW : Wk G A) (e_ln : G 9 = ln) (e_le : A 4 (ln).toNat = le) (e_at0 : G 10 = at0) (e_fk : G 16 = fk) (e_op0 : G 15 = op0) (e_nd : G 31 = nd) (e_tk0 : G 11 = tk0) (e_li : G 3 = li) (i_SV : SV Vs sb G A) (i_PQ : PQ Vs sb pb G A) (p_0 : 0 ≤ op0 ∧ op0 ≤ 8) (p_1 : fk = 0) (p_2 : nd ≤ 2 * at0 - tz tk0 + 42) (p_3 : at0 ≤ le) (p_4 : ln < li) (p_5 : tk0 = 1) : ∀ (L : jL) (Gx : Nat → Int) (Ax : Nat → Nat → Int) (s ix at1 tk1 fk1 nd1 op1 ks : Int), jGet L 0 = some (.ref 66) → jGet L 5 = some (.int (i32 (1))) → jGet L 2 = some (.int (i32 s)) → jGet L 4 = some (.int (i32 ix)) → Wk Gx Ax → Fr [9, 10, 11, 12, 13, 14, 15, 16, 17, 18, 31] [15, 16, 17, 18, 19, 20, 21, 22, 24, 28] G A Gx Ax → Pf nd A Ax → Gx 10 = at1 → Gx 11 = tk1 → Gx 16 = fk1 → Gx 31 = nd1 → Gx 15 = op1 → Ax 7 (s).toNat = ks → Gx 9 = ln → ((-2147483648 : Int) ≤ s ∧ s ≤ 2147483647) → ((-2147483648 : Int) ≤ ix ∧ ix ≤ 2147483647) → (at0 ≤ at1) → (at1 ≤ le) → (nd ≤ nd1) → (op1 = op0) → (fk1 = 0) → (nd1 - nd ≤ (2 * at1 - tz tk1) - (2 * at0 - tz tk0) - 1) → (tz tk1 = 1) → (0 ≤ s ∧ s ≤ 201) → (SY Vs sb (s)) → (ks = 4) → (wE Ax Vs sb (20) (ix) (nd) (nd1)) → wj X d jm304 (259, L, [], rV c0 c1 Gx Ax T) (fun o V' => ∃ (G' : Nat → Int) (A' : Nat → Nat → Int) (r : Int) (at2 : Int) (fk2 : Int) (nd2 : Int) (ln2 : Int), V' = rV c0 c1 G' A' T ∧ o = .inl (some (.int (i32 r))) ∧ Wk G' A' ∧ Fr [9, 10, 11, 12, 13, 14, 15, 16, 17, 18, 31] [15, 16, 17, 18, 19, 20, 21, 22, 24, 28] G A G' A' ∧ Pf nd A A' ∧ ((-2147483648 : Int) ≤ r ∧ r ≤ 2147483647) ∧ G' 10 = at2 ∧ G' 16 = fk2 ∧ G' 31 = nd2 ∧ G' 9 = ln2 ∧ (at0 ≤ at2) ∧ (at2 ≤ le) ∧ (nd ≤ nd2) ∧ (0 ≤ r) ∧ (r ≤ nd2) ∧ (((1 ≤ fk2) ∧ (ln2 = ln) ∧ (nd2 - nd ≤ 2 * at2 - 2 * at0 + 8)) ∨ ((fk2 = 0) ∧ (ln2 = ln + 1) ∧ (nd2 - nd ≤ 2 * at2 - (2 * at0 - tz tk0) + 0) ∧ (nd ≤ r) ∧ (r < nd2) ∧ (wL A' sb pb Vs (r) (nd) (nd2)) ∧ (NX A' (r))))) := by
  have hF0 : Fr [9, 10, 11, 12, 13, 14, 15, 16, 17, 18, 31] [15, 16, 17, 18, 19, 20, 21, 22, 24, 28] G A G A := Fr_rf
  have hP0 : Pf nd A A := Pf_rf
  have b_ln : (0 : Int) ≤ ln ∧ ln ≤ 3000 := e_ln ▸ hW.1 9
  have b_le : (0 : Int) ≤ le ∧ le ≤ 3000 := e_le ▸ hW.2 4 _
  have b_at0 : (0 : Int) ≤ at0 ∧ at0 ≤ 3002 := e_at0 ▸ hW.1 10
  have b_fk : (0 : Int) ≤ fk ∧ fk ≤ 6 := e_fk ▸ hW.1 16
  have b_op0 : (-2147483648 : Int) ≤ op0 ∧ op0 ≤ 2147483647 := e_op0 ▸ hW.1 15
  have b_nd : (0 : Int) ≤ nd ∧ nd ≤ 6999 := e_nd ▸ hW.1 31
  have z_tk0 := tz_f tk0
  have b_tk0 : (0 : Int) ≤ tk0 ∧ tk0 ≤ 5 := e_tk0 ▸ hW.1 11
  have b_li : (0 : Int) ≤ li ∧ li ≤ 3000 := e_li ▸ hW.1 3
  intro L Gx Ax s ix at1 tk1 fk1 nd1 op1 ks gL_0 gL_5 gL_2 gL_4 hWx hFx hPx ex_at1 ex_tk1 ex_fk1 ex_nd1 ex_op1 ex_ks fx_9 rx_s rx_ix iv_0 iv_1 iv_2 iv_3 iv_4 iv_5 iv_6 iv_7 iv_8 iv_9 iv_10
  have b_at1 : (0 : Int) ≤ at1 ∧ at1 ≤ 3002 := ex_at1 ▸ hWx.1 10
  have z_tk1 := tz_f tk1
  have b_tk1 : (0 : Int) ≤ tk1 ∧ tk1 ≤ 5 := ex_tk1 ▸ hWx.1 11
  have b_fk1 : (0 : Int) ≤ fk1 ∧ fk1 ≤ 6 := ex_fk1 ▸ hWx.1 16
  have b_nd1 : (0 : Int) ≤ nd1 ∧ nd1 ≤ 6999 := ex_nd1 ▸ hWx.1 31
  have b_op1 : (-2147483648 : Int) ≤ op1 ∧ op1 ≤ 2147483647 := ex_op1 ▸ hWx.1 15
  have b_ks : (0 : Int) ≤ ks ∧ ks ≤ 14 := ex_ks ▸ hWx.2 7 _
  refine jx_ld (pc' := 260) (l' := L) (st' := [.ref 66]) rfl (jl_aloadn gL_0) ?_
  refine jx_ar (pc' := 262) (st' := [.int (i32 (33)), .ref 66]) rfl rfl rfl rfl ?_
  have b1 : (-2147483648 : Int) ≤ Gx 13 ∧ Gx 13 ≤ 2147483647 := hWx.1 13
  refine jx_vr (pc' := 265) (as := [.int (i32 (33))]) (st := []) rfl rfl rfl rfl ⟨rfl, rfl, Nat.le_of_ble_eq_true rfl⟩ rfl rfl (c_is (dd := d) (hd := by omega) (hW := hWx) (k := 33) (tk := tk1) (e_tk := show Gx 11 = tk1 from (ex_tk1)) (tn := Gx 13) (e_tn := show Gx 13 = Gx 13 from rfl)  (h_k := ⟨(by decide), (by decide)⟩)  ) (fun o V' hq => ?_)
  obtain ⟨r2, rfl, rfl, b3, q4⟩ := hq
  refine .inr ⟨_, rfl, ?_⟩
  rcases q4 with ⟨rfl, a5, a6, a7⟩ | rfl
  · have _q : True := trivial
    refine jx_ld (pc' := 267) (l' := jSto1 L 6 (.int (i32 (1)))) (st' := []) rfl rfl ?_
    obtain ⟨L8, eL8⟩ : ∃ q, q = jSto1 L 6 (.int (i32 (1))) := ⟨_, rfl⟩
    rw [← eL8]
    have gL8_0 : jGet L8 0 = some (.ref 66) := eL8 ▸ jg_ne (by decide) gL_0 rfl
    have gL8_5 : jGet L8 5 = some (.int (i32 (1))) := eL8 ▸ jg_ne (by decide) gL_5 rfl
    have gL8_2 : jGet L8 2 = some (.int (i32 (s))) := eL8 ▸ jg_ne (by decide) gL_2 rfl
    have gL8_4 : jGet L8 4 = some (.int (i32 (ix))) := eL8 ▸ jg_ne (by decide) gL_4 rfl
    have gL8_6 : jGet L8 6 = some (.int (i32 (1))) := eL8 ▸ jg_eq
    refine jx_ld (pc' := 268) (l' := L8) (st' := [.ref 66]) rfl (jl_aloadn gL8_0) ?_
    refine jx_ld (pc' := 270) (l' := L8) (st' := [.int (i32 (1)), .ref 66]) rfl (jl_iload gL8_6) ?_
    refine jx_if_eq (pc' := 273) (tg := 278) rfl rfl rfl (by decide) (by decide) (fun h9 => ?_) (fun h9 => ?_)
    · have _q := h9
      exact absurd h9 (by omega)
    · have _q := h9
      refine jx_ar (pc' := 275) (st' := [.int (i32 (23)), .ref 66]) rfl rfl rfl rfl ?_
      refine jx_go (tg := 280) rfl rfl ?_
      refine jx_ld (pc' := 281) (l' := L8) (st' := [.ref 66, .int (i32 (23)), .ref 66]) rfl (jl_aloadn gL8_0) ?_
      refine jx_ld (pc' := 283) (l' := L8) (st' := [.int (i32 (1)), .ref 66, .int (i32 (23)), .ref 66]) rfl (jl_iload gL8_5) ?_
      refine jx_if_eq (pc' := 286) (tg := 290) rfl rfl rfl (by decide) (by decide) (fun h10 => ?_) (fun h10 => ?_)
      · have _q := h10
        exact absurd h10 (by omega)
      · have _q := h10
        refine jx_ar (pc' := 287) (st' := [.int (i32 (3)), .ref 66, .int (i32 (23)), .ref 66]) rfl rfl rfl rfl ?_
        refine jx_go (tg := 291) rfl rfl ?_
        refine jx_ld (pc' := 292) (l' := L8) (st' := [.int (i32 (s)), .int (i32 (3)), .ref 66, .int (i32 (23)), .ref 66]) rfl (jl_iloadn gL8_2) ?_
        refine jx_ld (pc' := 294) (l' := L8) (st' := [.int (i32 (ix)), .int (i32 (s)), .int (i32 (3)), .ref 66, .int (i32 (23)), .ref 66]) rfl (jl_iload gL8_4) ?_
        refine jx_ar (pc' := 295) (st' := [.int (i32 (0)), .int (i32 (ix)), .int (i32 (s)), .int (i32 (3)), .ref 66, .int (i32 (23)), .ref 66]) rfl rfl rfl rfl ?_
        refine jx_ar (pc' := 296) (st' := [.int (i32 (0)), .int (i32 (0)), .int (i32 (ix)), .int (i32 (s)), .int (i32 (3)), .ref 66, .int (i32 (23)), .ref 66]) rfl rfl rfl rfl ?_
        refine jx_vr (pc' := 299) (as := [.int (i32 (3)), .int (i32 (s)), .int (i32 (ix)), .int (i32 (0)), .int (i32 (0))]) (st := [.int (i32 (23)), .ref 66]) rfl rfl rfl rfl ⟨rfl, rfl, Nat.le_of_ble_eq_true rfl⟩ rfl rfl (c_node (dd := d) (hd := by omega) (hW := hWx) (kind := 3) (a := s) (b := ix) (c := 0) (e := 0) (nd := nd1) (e_nd := show Gx 31 = nd1 from (ex_nd1))  (h_kind := ⟨(by decide), (by decide)⟩) (h_a := ⟨(Int.le_trans (by decide : (-2147483648 : Int) ≤ -2147483648) rx_s.1), (Int.le_trans rx_s.2 (by decide : (2147483647 : Int) ≤ 2147483647))⟩) (h_b := ⟨(Int.le_trans (by decide : (-2147483648 : Int) ≤ -2147483648) rx_ix.1), (Int.le_trans rx_ix.2 (by decide : (2147483647 : Int) ≤ 2147483647))⟩) (h_c := ⟨(by decide), (by decide)⟩) (h_e := ⟨(by decide), (by decide)⟩)  (p_0 := by omega) (p_1 := by omega)) (fun o V' hq => ?_)
        obtain ⟨G11, A12, nd2_13, rfl, rfl, hW14, hF15, hQ16, e17, p18, p19, -⟩ := hq
        have hF21 := Fr_tr hFx hF15 (Fr_sub (by decide)) (Fr_sub (by decide))
        have hP22 := Pf_tr hPx hQ16 (by omega)
        have sf23 : wE A12 Vs sb (20) (ix) (nd) (nd1) := wE_ag (by omega) (Sg_fr hF15 (by decide)) (Ag_pf hQ16 (by omega)) iv_10
        have bnd2_13 : (0 : Int) ≤ nd2_13 ∧ nd2_13 ≤ 6999 := e17 ▸ hW14.1 31
        refine .inr ⟨_, rfl, ?_⟩
        refine jx_ar (pc' := 300) (st' := [.int (i32 (0)), .int (i32 (nd1)), .int (i32 (23)), .ref 66]) rfl rfl rfl rfl ?_
        refine jx_ar (pc' := 301) (st' := [.int (i32 (0)), .int (i32 (0)), .int (i32 (nd1)), .int (i32 (23)), .ref 66]) rfl rfl rfl rfl ?_
        refine jx_ar (pc' := 302) (st' := [.int (i32 (0)), .int (i32 (0)), .int (i32 (0)), .int (i32 (nd1)), .int (i32 (23)), .ref 66]) rfl rfl rfl rfl ?_
        refine jx_vr (pc' := 305) (as := [.int (i32 (23)), .int (i32 (nd1)), .int (i32 (0)), .int (i32 (0)), .int (i32 (0))]) (st := []) rfl rfl rfl rfl ⟨rfl, rfl, Nat.le_of_ble_eq_true rfl⟩ rfl rfl (c_node (dd := d) (hd := by omega) (hW := hW14) (kind := 23) (a := nd1) (b := 0) (c := 0) (e := 0) (nd := nd2_13) (e_nd := show G11 31 = nd2_13 from (e17))  (h_kind := ⟨(by decide), (by decide)⟩) (h_a := ⟨(Int.le_trans (by decide : (-2147483648 : Int) ≤ 0) b_nd1.1), (Int.le_trans b_nd1.2 (by decide : (6999 : Int) ≤ 2147483647))⟩) (h_b := ⟨(by decide), (by decide)⟩) (h_c := ⟨(by decide), (by decide)⟩) (h_e := ⟨(by decide), (by decide)⟩)  (p_0 := by omega) (p_1 := by omega)) (fun o V' hq => ?_)
        obtain ⟨G24, A25, nd2_26, rfl, rfl, hW27, hF28, hQ29, e30, p31, p32, -⟩ := hq
        have hF34 := Fr_tr hF21 hF28 (Fr_sub (by decide)) (Fr_sub (by decide))
        have hP35 := Pf_tr hP22 hQ29 (by omega)
        have sf36 : wE A25 Vs sb (20) (ix) (nd) (nd1) := wE_ag (by omega) (Sg_fr hF28 (by decide)) (Ag_pf hQ29 (by omega)) sf23
        have sf37 : ND A25 (nd1) (3) (s) (ix) (0) (0) (0) (0) := ND_ag (by omega) (Ag_pf hQ29 (by omega)) p19
        have bnd2_26 : (0 : Int) ≤ nd2_26 ∧ nd2_26 ≤ 6999 := e30 ▸ hW27.1 31
        refine .inr ⟨_, rfl, ?_⟩
        refine jx_ld (pc' := 307) (l' := jSto1 L8 7 (.int (i32 (nd2_13)))) (st' := []) rfl rfl ?_
        obtain ⟨L38, eL38⟩ : ∃ q, q = jSto1 L8 7 (.int (i32 (nd2_13))) := ⟨_, rfl⟩
        rw [← eL38]
        have gL38_0 : jGet L38 0 = some (.ref 66) := eL38 ▸ jg_ne (by decide) gL8_0 rfl
        have gL38_5 : jGet L38 5 = some (.int (i32 (1))) := eL38 ▸ jg_ne (by decide) gL8_5 rfl
        have gL38_2 : jGet L38 2 = some (.int (i32 (s))) := eL38 ▸ jg_ne (by decide) gL8_2 rfl
        have gL38_4 : jGet L38 4 = some (.int (i32 (ix))) := eL38 ▸ jg_ne (by decide) gL8_4 rfl
        have gL38_6 : jGet L38 6 = some (.int (i32 (1))) := eL38 ▸ jg_ne (by decide) gL8_6 rfl
        have gL38_7 : jGet L38 7 = some (.int (i32 (nd2_13))) := eL38 ▸ jg_eq
        refine jx_ld (pc' := 308) (l' := L38) (st' := [.ref 66]) rfl (jl_aloadn gL38_0) ?_
        refine jx_vr (pc' := 311) (as := []) (st := []) rfl rfl rfl rfl ⟨rfl, rfl, Nat.le_of_ble_eq_true rfl⟩ rfl rfl (c_next (dd := d) (hd := by omega) (hW := hW27)  (ln := ln) (e_ln := show G24 9 = ln from ((hF28.1 9 rfl).trans ((hF15.1 9 rfl).trans (fx_9)))) (le := le) (e_le := show A25 4 (ln).toNat = le from (congrFun ((hF28.2 4 rfl).trans ((hF15.2 4 rfl).trans (hFx.2 4 rfl))) _).trans (e_le)) (at0 := at1) (e_at0 := show G24 10 = at1 from ((hF28.1 10 rfl).trans ((hF15.1 10 rfl).trans (ex_at1))))    (p_0 := by omega)) (fun o V' hq => ?_)
        obtain ⟨G39, A40, at2_41, tk2_42, rfl, rfl, hW43, hF44, e45, e46, p47, p48, p49, -⟩ := hq
        have hF51 := Fr_tr hF34 hF44 (Fr_sub (by decide)) (Fr_sub (by decide))
        have hP52 := Pf_f hP35 hF44 (by decide)
        have sf53 : wE A40 Vs sb (20) (ix) (nd) (nd1) := wE_ag (by omega) (Sg_fr hF44 (by decide)) (Ag_fr hF44 (by decide)) sf36
        have sf54 : ND A40 (nd1) (3) (s) (ix) (0) (0) (0) (0) := ND_ag (by omega) (Ag_fr hF44 (by decide)) sf37
        have sf55 : ND A40 (nd2_13) (23) (nd1) (0) (0) (0) (0) (0) := ND_ag (by omega) (Ag_fr hF44 (by decide)) p32
        have bat2_41 : (0 : Int) ≤ at2_41 ∧ at2_41 ≤ 3002 := e45 ▸ hW43.1 10
        have ztk2_42 := tz_b tk2_42
        have btk2_42 : (0 : Int) ≤ tk2_42 ∧ tk2_42 ≤ 5 := e46 ▸ hW43.1 11
        refine .inl ⟨rfl, ?_⟩
        refine jx_ld (pc' := 312) (l' := L38) (st' := [.ref 66]) rfl (jl_aloadn gL38_0) ?_
        refine jr_get (pc' := 315) (i := 35) (v := .ref 85) rfl rfl (by decide) rfl rfl ?_
        refine jx_ld (pc' := 317) (l' := L38) (st' := [.int (i32 (nd2_13)), .ref 85]) rfl (jl_iload gL38_7) ?_
        refine jx_ld (pc' := 319) (l' := L38) (st' := [.int (i32 (1)), .int (i32 (nd2_13)), .ref 85]) rfl (jl_iload gL38_6) ?_
        refine jx_if_eq (pc' := 322) (tg := 329) rfl rfl rfl (by decide) (by decide) (fun h56 => ?_) (fun h56 => ?_)
        · have _q := h56
          exact absurd h56 (by omega)
        · have _q := h56
          refine jx_ld (pc' := 323) (l' := L38) (st' := [.ref 66, .int (i32 (nd2_13)), .ref 85]) rfl (jl_aloadn gL38_0) ?_
          refine jx_vr (pc' := 326) (as := []) (st := [.int (i32 (nd2_13)), .ref 85]) rfl rfl rfl rfl ⟨rfl, rfl, Nat.le_of_ble_eq_true rfl⟩ rfl rfl (RE_all X 9 (dd := d) (hd := by omega) (hW := hW43)  (ln := ln) (e_ln := show G39 9 = ln from ((hF44.1 9 rfl).trans ((hF28.1 9 rfl).trans ((hF15.1 9 rfl).trans (fx_9))))) (le := le) (e_le := show A40 4 (ln).toNat = le from (congrFun ((hF44.2 4 rfl).trans ((hF28.2 4 rfl).trans ((hF15.2 4 rfl).trans (hFx.2 4 rfl)))) _).trans (e_le)) (at0 := at2_41) (e_at0 := show G39 10 = at2_41 from (e45)) (fk := fk1) (e_fk := show G39 16 = fk1 from ((hF44.1 16 rfl).trans ((hF28.1 16 rfl).trans ((hF15.1 16 rfl).trans (ex_fk1))))) (op0 := op1) (e_op0 := show G39 15 = op1 from ((hF44.1 15 rfl).trans ((hF28.1 15 rfl).trans ((hF15.1 15 rfl).trans (ex_op1))))) (nd := nd2_26) (e_nd := show G39 31 = nd2_26 from ((hF44.1 31 rfl).trans (e30))) (tk0 := tk2_42) (e_tk0 := show G39 11 = tk2_42 from (e46)) (i_SV := (SV_ext (((hF44.1 29 rfl).trans ((hF28.1 29 rfl).trans ((hF15.1 29 rfl).trans (hFx.1 29 rfl))))) (((hF44.2 14 rfl).trans ((hF28.2 14 rfl).trans ((hF15.2 14 rfl).trans (hFx.2 14 rfl))))) i_SV))   (p_0 := by omega) (p_1 := by omega) (p_2 := by omega) (p_3 := by omega) (p_4 := by omega) (p_5 := by omega)) (fun o V' hq => ?_)
          obtain ⟨G57, A58, r59, at2_60, fk2_61, op2_62, nd2_63, tk2_64, rfl, rfl, hW65, hF66, hQ67, b68, e69, e70, e71, e72, e73, p74, p75, p76, p77, p78, p79, q80⟩ := hq
          have hF81 := Fr_tr hF51 hF66 (Fr_sub (by decide)) (Fr_sub (by decide))
          have hP82 := Pf_tr hP52 hQ67 (by omega)
          have sf83 : wE A58 Vs sb (20) (ix) (nd) (nd1) := wE_ag (by omega) (Sg_fr hF66 (by decide)) (Ag_pf hQ67 (by omega)) sf53
          have sf84 : ND A58 (nd1) (3) (s) (ix) (0) (0) (0) (0) := ND_ag (by omega) (Ag_pf hQ67 (by omega)) sf54
          have sf85 : ND A58 (nd2_13) (23) (nd1) (0) (0) (0) (0) (0) := ND_ag (by omega) (Ag_pf hQ67 (by omega)) sf55
          have bat2_60 : (0 : Int) ≤ at2_60 ∧ at2_60 ≤ 3002 := e69 ▸ hW65.1 10
          have bfk2_61 : (0 : Int) ≤ fk2_61 ∧ fk2_61 ≤ 6 := e70 ▸ hW65.1 16
          have bop2_62 : (-2147483648 : Int) ≤ op2_62 ∧ op2_62 ≤ 2147483647 := e71 ▸ hW65.1 15
          have bnd2_63 : (0 : Int) ≤ nd2_63 ∧ nd2_63 ≤ 6999 := e72 ▸ hW65.1 31
          have ztk2_64 := tz_b tk2_64
          have btk2_64 : (0 : Int) ≤ tk2_64 ∧ tk2_64 ≤ 5 := e73 ▸ hW65.1 11
          refine .inr ⟨_, rfl, ?_⟩
          rcases q80 with ⟨a86, a87, a88, a89, a90, a91⟩ | ⟨a92, a93, a94⟩ | ⟨a95, a96, a97, a98⟩
          · have _q : True := trivial
            exfalso
            omega
          · have _q : True := trivial
            refine jx_go (tg := 334) rfl rfl ?_
            refine jr_st (pc' := 335) (i := 18) (m := 7000) (z := nd2_13) (y := r59) rfl (by decide) rfl (by decide) (by omega) (by omega) rfl ?_
            have hW100 : Wk G57 (uA A58 18 (nd2_13).toNat (r59)) := Wk_a hW65 (show (-2147483648 : Int) ≤ r59 by omega) (show r59 ≤ (2147483647 : Int) by omega)
            have hF101 := Fr_a (z := r59) (k := 18) (n := (nd2_13).toNat) hF81 (by decide)
            obtain ⟨A99, eA99⟩ : ∃ q, q = uA A58 18 (nd2_13).toNat (r59) := ⟨_, rfl⟩
            rw [← eA99]
            rw [← eA99] at hW100 hF101
            have q102 : A99 18 (nd2_13).toNat = r59 := by rw [eA99]; exact uA_eq
            have hP103 : Pf nd A A99 := eA99 ▸ Pf_a hP82 (z := nd2_13) (by omega) (by omega)
            have sf104 : wE A99 Vs sb (20) (ix) (nd) (nd1) := wE_ag (by omega) (Sg_ne eA99 rfl) (Ag_st eA99 (by omega) (by omega)) sf83
            have sf105 : ND A99 (nd1) (3) (s) (ix) (0) (0) (0) (0) := ND_ag (by omega) (Ag_st eA99 (by omega) (by omega)) sf84
            have sf106 : ND A99 (nd2_13) (23) (nd1) (r59) (0) (0) (0) (0) := ND_b eA99 sf85
            refine jx_ld (pc' := 336) (l' := L38) (st' := [.ref 66]) rfl (jl_aloadn gL38_0) ?_
            refine jx_vr (pc' := 339) (as := []) (st := []) rfl rfl rfl rfl ⟨rfl, rfl, Nat.le_of_ble_eq_true rfl⟩ rfl rfl (c_endLine (dd := d) (hd := by omega) (hW := hW100)  (ln := ln) (e_ln := show G57 9 = ln from ((hF66.1 9 rfl).trans ((hF44.1 9 rfl).trans ((hF28.1 9 rfl).trans ((hF15.1 9 rfl).trans (fx_9)))))) (li := li) (e_li := show G57 3 = li from ((hF66.1 3 rfl).trans ((hF44.1 3 rfl).trans ((hF28.1 3 rfl).trans ((hF15.1 3 rfl).trans ((hFx.1 3 rfl).trans (e_li))))))) (fk := fk2_61) (e_fk := show G57 16 = fk2_61 from (e70)) (tk0 := tk2_64) (e_tk0 := show G57 11 = tk2_64 from (e73))    (p_0 := by omega)) (fun o V' hq => ?_)
            obtain ⟨G107, A108, ln2_109, fk2_110, rfl, rfl, hW111, hF112, e113, e114, q115⟩ := hq
            have hF116 := Fr_tr hF101 hF112 (Fr_sub (by decide)) (Fr_sub (by decide))
            have hP117 := Pf_f hP103 hF112 (by decide)
            have sf118 : wE A108 Vs sb (20) (ix) (nd) (nd1) := wE_ag (by omega) (Sg_fr hF112 (by decide)) (Ag_fr hF112 (by decide)) sf104
            have sf119 : ND A108 (nd1) (3) (s) (ix) (0) (0) (0) (0) := ND_ag (by omega) (Ag_fr hF112 (by decide)) sf105
            have sf120 : ND A108 (nd2_13) (23) (nd1) (r59) (0) (0) (0) (0) := ND_ag (by omega) (Ag_fr hF112 (by decide)) sf106
            have bln2_109 : (0 : Int) ≤ ln2_109 ∧ ln2_109 ≤ 3000 := e113 ▸ hW111.1 9
            have bfk2_110 : (0 : Int) ≤ fk2_110 ∧ fk2_110 ≤ 6 := e114 ▸ hW111.1 16
            refine .inl ⟨rfl, ?_⟩
            rcases q115 with ⟨a121, a122, a123, a124, a125⟩ | ⟨a126, a127⟩
            · have _q : True := trivial
              exfalso
              omega
            · have _q : True := trivial
              refine jx_ld (pc' := 341) (l' := L38) (st' := [.int (i32 (nd2_13))]) rfl (jl_iload gL38_7) ?_
              refine jx_rt (v := some (.int (i32 (nd2_13)))) rfl rfl rfl rfl rfl rfl ?_
              exact ⟨_, _, _, at2_60, fk2_110, nd2_63, ln2_109, rfl, rfl, hW111, hF116, hP117, by omega, ((hF112.1 10 rfl).trans (e69)), (e114), ((hF112.1 31 rfl).trans (e72)), (e113), by omega, by omega, by omega, by omega, by omega, by first | exact Or.inl (⟨by omega, by omega, by omega⟩)⟩
          · have _q : True := trivial
            refine jx_go (tg := 334) rfl rfl ?_
            refine jr_st (pc' := 335) (i := 18) (m := 7000) (z := nd2_13) (y := r59) rfl (by decide) rfl (by decide) (by omega) (by omega) rfl ?_
            have hW129 : Wk G57 (uA A58 18 (nd2_13).toNat (r59)) := Wk_a hW65 (show (-2147483648 : Int) ≤ r59 by omega) (show r59 ≤ (2147483647 : Int) by omega)
            have hF130 := Fr_a (z := r59) (k := 18) (n := (nd2_13).toNat) hF81 (by decide)
            obtain ⟨A128, eA128⟩ : ∃ q, q = uA A58 18 (nd2_13).toNat (r59) := ⟨_, rfl⟩
            rw [← eA128]
            rw [← eA128] at hW129 hF130
            have q131 : A128 18 (nd2_13).toNat = r59 := by rw [eA128]; exact uA_eq
            have hP132 : Pf nd A A128 := eA128 ▸ Pf_a hP82 (z := nd2_13) (by omega) (by omega)
            have sf133 : wE A128 Vs sb (20) (ix) (nd) (nd1) := wE_ag (by omega) (Sg_ne eA128 rfl) (Ag_st eA128 (by omega) (by omega)) sf83
            have sf134 : ND A128 (nd1) (3) (s) (ix) (0) (0) (0) (0) := ND_ag (by omega) (Ag_st eA128 (by omega) (by omega)) sf84
            have sf135 : ND A128 (nd2_13) (23) (nd1) (r59) (0) (0) (0) (0) := ND_b eA128 sf85
            have sf136 : wE A128 Vs sb (2 * 9 + 2) (r59) (nd2_26) (nd2_63) := wE_ag (by omega) (Sg_ne eA128 rfl) (Ag_st eA128 (by omega) (by omega)) a98
            refine jx_ld (pc' := 336) (l' := L38) (st' := [.ref 66]) rfl (jl_aloadn gL38_0) ?_
            refine jx_vr (pc' := 339) (as := []) (st := []) rfl rfl rfl rfl ⟨rfl, rfl, Nat.le_of_ble_eq_true rfl⟩ rfl rfl (c_endLine (dd := d) (hd := by omega) (hW := hW129)  (ln := ln) (e_ln := show G57 9 = ln from ((hF66.1 9 rfl).trans ((hF44.1 9 rfl).trans ((hF28.1 9 rfl).trans ((hF15.1 9 rfl).trans (fx_9)))))) (li := li) (e_li := show G57 3 = li from ((hF66.1 3 rfl).trans ((hF44.1 3 rfl).trans ((hF28.1 3 rfl).trans ((hF15.1 3 rfl).trans ((hFx.1 3 rfl).trans (e_li))))))) (fk := fk2_61) (e_fk := show G57 16 = fk2_61 from (e70)) (tk0 := tk2_64) (e_tk0 := show G57 11 = tk2_64 from (e73))    (p_0 := by omega)) (fun o V' hq => ?_)
            obtain ⟨G137, A138, ln2_139, fk2_140, rfl, rfl, hW141, hF142, e143, e144, q145⟩ := hq
            have hF146 := Fr_tr hF130 hF142 (Fr_sub (by decide)) (Fr_sub (by decide))
            have hP147 := Pf_f hP132 hF142 (by decide)
            have sf148 : wE A138 Vs sb (20) (ix) (nd) (nd1) := wE_ag (by omega) (Sg_fr hF142 (by decide)) (Ag_fr hF142 (by decide)) sf133
            have sf149 : ND A138 (nd1) (3) (s) (ix) (0) (0) (0) (0) := ND_ag (by omega) (Ag_fr hF142 (by decide)) sf134
            have sf150 : ND A138 (nd2_13) (23) (nd1) (r59) (0) (0) (0) (0) := ND_ag (by omega) (Ag_fr hF142 (by decide)) sf135
            have sf151 : wE A138 Vs sb (2 * 9 + 2) (r59) (nd2_26) (nd2_63) := wE_ag (by omega) (Sg_fr hF142 (by decide)) (Ag_fr hF142 (by decide)) sf136
            have bln2_139 : (0 : Int) ≤ ln2_139 ∧ ln2_139 ≤ 3000 := e143 ▸ hW141.1 9
            have bfk2_140 : (0 : Int) ≤ fk2_140 ∧ fk2_140 ≤ 6 := e144 ▸ hW141.1 16
            refine .inl ⟨rfl, ?_⟩
            rcases q145 with ⟨a152, a153, a154, a155, a156⟩ | ⟨a157, a158⟩
            · have _q : True := trivial
              refine jx_ld (pc' := 341) (l' := L38) (st' := [.int (i32 (nd2_13))]) rfl (jl_iload gL38_7) ?_
              refine jx_rt (v := some (.int (i32 (nd2_13)))) rfl rfl rfl rfl rfl rfl ?_
              exact ⟨_, _, _, at2_60, fk2_140, nd2_63, ln2_139, rfl, rfl, hW141, hF146, hP147, by omega, ((hF142.1 10 rfl).trans (e69)), (e144), ((hF142.1 31 rfl).trans (e72)), (e143), by omega, by omega, by omega, by omega, by omega, by first | exact Or.inr ((⟨by omega, by omega, by omega, by omega, by omega, (wL_out sf150 (by omega) (by omega) (wR_elem sf149 (by omega) (by omega) iv_8 (kq (P := kRow (1)) (show A138 7 (s).toNat = ks from (congrFun ((hF142.2 7 rfl).trans (((congrFun eA128 7).trans (uA_ne (by decide))).trans ((hF66.2 7 rfl).trans ((hF44.2 7 rfl).trans ((hF28.2 7 rfl).trans (hF15.2 7 rfl)))))) _).trans (ex_ks)) (by first | exact .inr ⟨by omega, by omega⟩)) (wE_mono (by omega) (by omega) (by omega) sf148)) (wE_mono (by omega) (by omega) (by omega) sf151)), (NX_nd sf150)⟩))⟩
            · have _q : True := trivial
              refine jx_ld (pc' := 341) (l' := L38) (st' := [.int (i32 (nd2_13))]) rfl (jl_iload gL38_7) ?_
              refine jx_rt (v := some (.int (i32 (nd2_13)))) rfl rfl rfl rfl rfl rfl ?_
              exact ⟨_, _, _, at2_60, fk2_140, nd2_63, ln2_139, rfl, rfl, hW141, hF146, hP147, by omega, ((hF142.1 10 rfl).trans (e69)), (e144), ((hF142.1 31 rfl).trans (e72)), (e143), by omega, by omega, by omega, by omega, by omega, by first | exact Or.inl (⟨by omega, by omega, by omega⟩)⟩
  · have _q : True := trivial
    refine jx_ld (pc' := 267) (l' := jSto1 L 6 (.int (i32 (0)))) (st' := []) rfl rfl ?_
    obtain ⟨L159, eL159⟩ : ∃ q, q = jSto1 L 6 (.int (i32 (0))) := ⟨_, rfl⟩
    rw [← eL159]
    have gL159_0 : jGet L159 0 = some (.ref 66) := eL159 ▸ jg_ne (by decide) gL_0 rfl
    have gL159_5 : jGet L159 5 = some (.int (i32 (1))) := eL159 ▸ jg_ne (by decide) gL_5 rfl
    have gL159_2 : jGet L159 2 = some (.int (i32 (s))) := eL159 ▸ jg_ne (by decide) gL_2 rfl
    have gL159_4 : jGet L159 4 = some (.int (i32 (ix))) := eL159 ▸ jg_ne (by decide) gL_4 rfl
    have gL159_6 : jGet L159 6 = some (.int (i32 (0))) := eL159 ▸ jg_eq
    refine jx_ld (pc' := 268) (l' := L159) (st' := [.ref 66]) rfl (jl_aloadn gL159_0) ?_
    refine jx_ld (pc' := 270) (l' := L159) (st' := [.int (i32 (0)), .ref 66]) rfl (jl_iload gL159_6) ?_
    refine jx_if_eq (pc' := 273) (tg := 278) rfl rfl rfl (by decide) (by decide) (fun h160 => ?_) (fun h160 => ?_)
    · have _q := h160
      refine jx_ar (pc' := 280) (st' := [.int (i32 (24)), .ref 66]) rfl rfl rfl rfl ?_
      refine jx_ld (pc' := 281) (l' := L159) (st' := [.ref 66, .int (i32 (24)), .ref 66]) rfl (jl_aloadn gL159_0) ?_
      refine jx_ld (pc' := 283) (l' := L159) (st' := [.int (i32 (1)), .ref 66, .int (i32 (24)), .ref 66]) rfl (jl_iload gL159_5) ?_
      refine jx_if_eq (pc' := 286) (tg := 290) rfl rfl rfl (by decide) (by decide) (fun h161 => ?_) (fun h161 => ?_)
      · have _q := h161
        exact absurd h161 (by omega)
      · have _q := h161
        refine jx_ar (pc' := 287) (st' := [.int (i32 (3)), .ref 66, .int (i32 (24)), .ref 66]) rfl rfl rfl rfl ?_
        refine jx_go (tg := 291) rfl rfl ?_
        refine jx_ld (pc' := 292) (l' := L159) (st' := [.int (i32 (s)), .int (i32 (3)), .ref 66, .int (i32 (24)), .ref 66]) rfl (jl_iloadn gL159_2) ?_
        refine jx_ld (pc' := 294) (l' := L159) (st' := [.int (i32 (ix)), .int (i32 (s)), .int (i32 (3)), .ref 66, .int (i32 (24)), .ref 66]) rfl (jl_iload gL159_4) ?_
        refine jx_ar (pc' := 295) (st' := [.int (i32 (0)), .int (i32 (ix)), .int (i32 (s)), .int (i32 (3)), .ref 66, .int (i32 (24)), .ref 66]) rfl rfl rfl rfl ?_
        refine jx_ar (pc' := 296) (st' := [.int (i32 (0)), .int (i32 (0)), .int (i32 (ix)), .int (i32 (s)), .int (i32 (3)), .ref 66, .int (i32 (24)), .ref 66]) rfl rfl rfl rfl ?_
        refine jx_vr (pc' := 299) (as := [.int (i32 (3)), .int (i32 (s)), .int (i32 (ix)), .int (i32 (0)), .int (i32 (0))]) (st := [.int (i32 (24)), .ref 66]) rfl rfl rfl rfl ⟨rfl, rfl, Nat.le_of_ble_eq_true rfl⟩ rfl rfl (c_node (dd := d) (hd := by omega) (hW := hWx) (kind := 3) (a := s) (b := ix) (c := 0) (e := 0) (nd := nd1) (e_nd := show Gx 31 = nd1 from (ex_nd1))  (h_kind := ⟨(by decide), (by decide)⟩) (h_a := ⟨(Int.le_trans (by decide : (-2147483648 : Int) ≤ -2147483648) rx_s.1), (Int.le_trans rx_s.2 (by decide : (2147483647 : Int) ≤ 2147483647))⟩) (h_b := ⟨(Int.le_trans (by decide : (-2147483648 : Int) ≤ -2147483648) rx_ix.1), (Int.le_trans rx_ix.2 (by decide : (2147483647 : Int) ≤ 2147483647))⟩) (h_c := ⟨(by decide), (by decide)⟩) (h_e := ⟨(by decide), (by decide)⟩)  (p_0 := by omega) (p_1 := by omega)) (fun o V' hq => ?_)
        obtain ⟨G162, A163, nd2_164, rfl, rfl, hW165, hF166, hQ167, e168, p169, p170, -⟩ := hq
        have hF172 := Fr_tr hFx hF166 (Fr_sub (by decide)) (Fr_sub (by decide))
        have hP173 := Pf_tr hPx hQ167 (by omega)
        have sf174 : wE A163 Vs sb (20) (ix) (nd) (nd1) := wE_ag (by omega) (Sg_fr hF166 (by decide)) (Ag_pf hQ167 (by omega)) iv_10
        have bnd2_164 : (0 : Int) ≤ nd2_164 ∧ nd2_164 ≤ 6999 := e168 ▸ hW165.1 31
        refine .inr ⟨_, rfl, ?_⟩
        refine jx_ar (pc' := 300) (st' := [.int (i32 (0)), .int (i32 (nd1)), .int (i32 (24)), .ref 66]) rfl rfl rfl rfl ?_
        refine jx_ar (pc' := 301) (st' := [.int (i32 (0)), .int (i32 (0)), .int (i32 (nd1)), .int (i32 (24)), .ref 66]) rfl rfl rfl rfl ?_
        refine jx_ar (pc' := 302) (st' := [.int (i32 (0)), .int (i32 (0)), .int (i32 (0)), .int (i32 (nd1)), .int (i32 (24)), .ref 66]) rfl rfl rfl rfl ?_
        refine jx_vr (pc' := 305) (as := [.int (i32 (24)), .int (i32 (nd1)), .int (i32 (0)), .int (i32 (0)), .int (i32 (0))]) (st := []) rfl rfl rfl rfl ⟨rfl, rfl, Nat.le_of_ble_eq_true rfl⟩ rfl rfl (c_node (dd := d) (hd := by omega) (hW := hW165) (kind := 24) (a := nd1) (b := 0) (c := 0) (e := 0) (nd := nd2_164) (e_nd := show G162 31 = nd2_164 from (e168))  (h_kind := ⟨(by decide), (by decide)⟩) (h_a := ⟨(Int.le_trans (by decide : (-2147483648 : Int) ≤ 0) b_nd1.1), (Int.le_trans b_nd1.2 (by decide : (6999 : Int) ≤ 2147483647))⟩) (h_b := ⟨(by decide), (by decide)⟩) (h_c := ⟨(by decide), (by decide)⟩) (h_e := ⟨(by decide), (by decide)⟩)  (p_0 := by omega) (p_1 := by omega)) (fun o V' hq => ?_)
        obtain ⟨G175, A176, nd2_177, rfl, rfl, hW178, hF179, hQ180, e181, p182, p183, -⟩ := hq
        have hF185 := Fr_tr hF172 hF179 (Fr_sub (by decide)) (Fr_sub (by decide))
        have hP186 := Pf_tr hP173 hQ180 (by omega)
        have sf187 : wE A176 Vs sb (20) (ix) (nd) (nd1) := wE_ag (by omega) (Sg_fr hF179 (by decide)) (Ag_pf hQ180 (by omega)) sf174
        have sf188 : ND A176 (nd1) (3) (s) (ix) (0) (0) (0) (0) := ND_ag (by omega) (Ag_pf hQ180 (by omega)) p170
        have bnd2_177 : (0 : Int) ≤ nd2_177 ∧ nd2_177 ≤ 6999 := e181 ▸ hW178.1 31
        refine .inr ⟨_, rfl, ?_⟩
        refine jx_ld (pc' := 307) (l' := jSto1 L159 7 (.int (i32 (nd2_164)))) (st' := []) rfl rfl ?_
        obtain ⟨L189, eL189⟩ : ∃ q, q = jSto1 L159 7 (.int (i32 (nd2_164))) := ⟨_, rfl⟩
        rw [← eL189]
        have gL189_0 : jGet L189 0 = some (.ref 66) := eL189 ▸ jg_ne (by decide) gL159_0 rfl
        have gL189_5 : jGet L189 5 = some (.int (i32 (1))) := eL189 ▸ jg_ne (by decide) gL159_5 rfl
        have gL189_2 : jGet L189 2 = some (.int (i32 (s))) := eL189 ▸ jg_ne (by decide) gL159_2 rfl
        have gL189_4 : jGet L189 4 = some (.int (i32 (ix))) := eL189 ▸ jg_ne (by decide) gL159_4 rfl
        have gL189_6 : jGet L189 6 = some (.int (i32 (0))) := eL189 ▸ jg_ne (by decide) gL159_6 rfl
        have gL189_7 : jGet L189 7 = some (.int (i32 (nd2_164))) := eL189 ▸ jg_eq
        refine jx_ld (pc' := 308) (l' := L189) (st' := [.ref 66]) rfl (jl_aloadn gL189_0) ?_
        refine jx_vr (pc' := 311) (as := []) (st := []) rfl rfl rfl rfl ⟨rfl, rfl, Nat.le_of_ble_eq_true rfl⟩ rfl rfl (c_next (dd := d) (hd := by omega) (hW := hW178)  (ln := ln) (e_ln := show G175 9 = ln from ((hF179.1 9 rfl).trans ((hF166.1 9 rfl).trans (fx_9)))) (le := le) (e_le := show A176 4 (ln).toNat = le from (congrFun ((hF179.2 4 rfl).trans ((hF166.2 4 rfl).trans (hFx.2 4 rfl))) _).trans (e_le)) (at0 := at1) (e_at0 := show G175 10 = at1 from ((hF179.1 10 rfl).trans ((hF166.1 10 rfl).trans (ex_at1))))    (p_0 := by omega)) (fun o V' hq => ?_)
        obtain ⟨G190, A191, at2_192, tk2_193, rfl, rfl, hW194, hF195, e196, e197, p198, p199, p200, -⟩ := hq
        have hF202 := Fr_tr hF185 hF195 (Fr_sub (by decide)) (Fr_sub (by decide))
        have hP203 := Pf_f hP186 hF195 (by decide)
        have sf204 : wE A191 Vs sb (20) (ix) (nd) (nd1) := wE_ag (by omega) (Sg_fr hF195 (by decide)) (Ag_fr hF195 (by decide)) sf187
        have sf205 : ND A191 (nd1) (3) (s) (ix) (0) (0) (0) (0) := ND_ag (by omega) (Ag_fr hF195 (by decide)) sf188
        have sf206 : ND A191 (nd2_164) (24) (nd1) (0) (0) (0) (0) (0) := ND_ag (by omega) (Ag_fr hF195 (by decide)) p183
        have bat2_192 : (0 : Int) ≤ at2_192 ∧ at2_192 ≤ 3002 := e196 ▸ hW194.1 10
        have ztk2_193 := tz_b tk2_193
        have btk2_193 : (0 : Int) ≤ tk2_193 ∧ tk2_193 ≤ 5 := e197 ▸ hW194.1 11
        refine .inl ⟨rfl, ?_⟩
        refine jx_ld (pc' := 312) (l' := L189) (st' := [.ref 66]) rfl (jl_aloadn gL189_0) ?_
        refine jr_get (pc' := 315) (i := 35) (v := .ref 85) rfl rfl (by decide) rfl rfl ?_
        refine jx_ld (pc' := 317) (l' := L189) (st' := [.int (i32 (nd2_164)), .ref 85]) rfl (jl_iload gL189_7) ?_
        refine jx_ld (pc' := 319) (l' := L189) (st' := [.int (i32 (0)), .int (i32 (nd2_164)), .ref 85]) rfl (jl_iload gL189_6) ?_
        refine jx_if_eq (pc' := 322) (tg := 329) rfl rfl rfl (by decide) (by decide) (fun h207 => ?_) (fun h207 => ?_)
        · have _q := h207
          refine jx_ld (pc' := 330) (l' := L189) (st' := [.ref 66, .int (i32 (nd2_164)), .ref 85]) rfl (jl_aloadn gL189_0) ?_
          refine jx_ar (pc' := 331) (st' := [.int (i32 (0)), .ref 66, .int (i32 (nd2_164)), .ref 85]) rfl rfl rfl rfl ?_
          refine jx_vr (pc' := 334) (as := [.int (i32 (0))]) (st := [.int (i32 (nd2_164)), .ref 85]) rfl rfl rfl rfl ⟨rfl, rfl, Nat.le_of_ble_eq_true rfl⟩ rfl rfl (c_readReference (dd := d) (hd := by omega) (hW := hW194) (ch := 0) (ln := ln) (e_ln := show G190 9 = ln from ((hF195.1 9 rfl).trans ((hF179.1 9 rfl).trans ((hF166.1 9 rfl).trans (fx_9))))) (le := le) (e_le := show A191 4 (ln).toNat = le from (congrFun ((hF195.2 4 rfl).trans ((hF179.2 4 rfl).trans ((hF166.2 4 rfl).trans (hFx.2 4 rfl)))) _).trans (e_le)) (at0 := at2_192) (e_at0 := show G190 10 = at2_192 from (e196)) (fk := fk1) (e_fk := show G190 16 = fk1 from ((hF195.1 16 rfl).trans ((hF179.1 16 rfl).trans ((hF166.1 16 rfl).trans (ex_fk1))))) (op0 := op1) (e_op0 := show G190 15 = op1 from ((hF195.1 15 rfl).trans ((hF179.1 15 rfl).trans ((hF166.1 15 rfl).trans (ex_op1))))) (nd := nd2_177) (e_nd := show G190 31 = nd2_177 from ((hF195.1 31 rfl).trans (e181))) (tk0 := tk2_193) (e_tk0 := show G190 11 = tk2_193 from (e197)) (i_SV := (SV_ext (((hF195.1 29 rfl).trans ((hF179.1 29 rfl).trans ((hF166.1 29 rfl).trans (hFx.1 29 rfl))))) (((hF195.2 14 rfl).trans ((hF179.2 14 rfl).trans ((hF166.2 14 rfl).trans (hFx.2 14 rfl))))) i_SV)) (h_ch := ⟨(by decide), (by decide)⟩)  (p_0 := by omega) (p_1 := by omega) (p_2 := by omega) (p_3 := by omega) (p_4 := by omega)) (fun o V' hq => ?_)
          obtain ⟨G208, A209, r210, at2_211, fk2_212, op2_213, nd2_214, tk2_215, rfl, rfl, hW216, hF217, hQ218, b219, e220, e221, e222, e223, e224, p225, p226, p227, p228, p229, p230, q231⟩ := hq
          have hF232 := Fr_tr hF202 hF217 (Fr_sub (by decide)) (Fr_sub (by decide))
          have hP233 := Pf_tr hP203 hQ218 (by omega)
          have sf234 : wE A209 Vs sb (20) (ix) (nd) (nd1) := wE_ag (by omega) (Sg_fr hF217 (by decide)) (Ag_pf hQ218 (by omega)) sf204
          have sf235 : ND A209 (nd1) (3) (s) (ix) (0) (0) (0) (0) := ND_ag (by omega) (Ag_pf hQ218 (by omega)) sf205
          have sf236 : ND A209 (nd2_164) (24) (nd1) (0) (0) (0) (0) (0) := ND_ag (by omega) (Ag_pf hQ218 (by omega)) sf206
          have bat2_211 : (0 : Int) ≤ at2_211 ∧ at2_211 ≤ 3002 := e220 ▸ hW216.1 10
          have bfk2_212 : (0 : Int) ≤ fk2_212 ∧ fk2_212 ≤ 6 := e221 ▸ hW216.1 16
          have bop2_213 : (-2147483648 : Int) ≤ op2_213 ∧ op2_213 ≤ 2147483647 := e222 ▸ hW216.1 15
          have bnd2_214 : (0 : Int) ≤ nd2_214 ∧ nd2_214 ≤ 6999 := e223 ▸ hW216.1 31
          have ztk2_215 := tz_b tk2_215
          have btk2_215 : (0 : Int) ≤ tk2_215 ∧ tk2_215 ≤ 5 := e224 ▸ hW216.1 11
          refine .inr ⟨_, rfl, ?_⟩
          rcases q231 with ⟨a237, a238, a239, a240, a241, a242⟩ | ⟨a243, a244, a245⟩ | ⟨a246, a247, a248, a249⟩
          · have _q : True := trivial
            exfalso
            omega
          · have _q : True := trivial
            refine jr_st (pc' := 335) (i := 18) (m := 7000) (z := nd2_164) (y := r210) rfl (by decide) rfl (by decide) (by omega) (by omega) rfl ?_
            have hW251 : Wk G208 (uA A209 18 (nd2_164).toNat (r210)) := Wk_a hW216 (show (-2147483648 : Int) ≤ r210 by omega) (show r210 ≤ (2147483647 : Int) by omega)
            have hF252 := Fr_a (z := r210) (k := 18) (n := (nd2_164).toNat) hF232 (by decide)
            obtain ⟨A250, eA250⟩ : ∃ q, q = uA A209 18 (nd2_164).toNat (r210) := ⟨_, rfl⟩
            rw [← eA250]
            rw [← eA250] at hW251 hF252
            have q253 : A250 18 (nd2_164).toNat = r210 := by rw [eA250]; exact uA_eq
            have hP254 : Pf nd A A250 := eA250 ▸ Pf_a hP233 (z := nd2_164) (by omega) (by omega)
            have sf255 : wE A250 Vs sb (20) (ix) (nd) (nd1) := wE_ag (by omega) (Sg_ne eA250 rfl) (Ag_st eA250 (by omega) (by omega)) sf234
            have sf256 : ND A250 (nd1) (3) (s) (ix) (0) (0) (0) (0) := ND_ag (by omega) (Ag_st eA250 (by omega) (by omega)) sf235
            have sf257 : ND A250 (nd2_164) (24) (nd1) (r210) (0) (0) (0) (0) := ND_b eA250 sf236
            refine jx_ld (pc' := 336) (l' := L189) (st' := [.ref 66]) rfl (jl_aloadn gL189_0) ?_
            refine jx_vr (pc' := 339) (as := []) (st := []) rfl rfl rfl rfl ⟨rfl, rfl, Nat.le_of_ble_eq_true rfl⟩ rfl rfl (c_endLine (dd := d) (hd := by omega) (hW := hW251)  (ln := ln) (e_ln := show G208 9 = ln from ((hF217.1 9 rfl).trans ((hF195.1 9 rfl).trans ((hF179.1 9 rfl).trans ((hF166.1 9 rfl).trans (fx_9)))))) (li := li) (e_li := show G208 3 = li from ((hF217.1 3 rfl).trans ((hF195.1 3 rfl).trans ((hF179.1 3 rfl).trans ((hF166.1 3 rfl).trans ((hFx.1 3 rfl).trans (e_li))))))) (fk := fk2_212) (e_fk := show G208 16 = fk2_212 from (e221)) (tk0 := tk2_215) (e_tk0 := show G208 11 = tk2_215 from (e224))    (p_0 := by omega)) (fun o V' hq => ?_)
            obtain ⟨G258, A259, ln2_260, fk2_261, rfl, rfl, hW262, hF263, e264, e265, q266⟩ := hq
            have hF267 := Fr_tr hF252 hF263 (Fr_sub (by decide)) (Fr_sub (by decide))
            have hP268 := Pf_f hP254 hF263 (by decide)
            have sf269 : wE A259 Vs sb (20) (ix) (nd) (nd1) := wE_ag (by omega) (Sg_fr hF263 (by decide)) (Ag_fr hF263 (by decide)) sf255
            have sf270 : ND A259 (nd1) (3) (s) (ix) (0) (0) (0) (0) := ND_ag (by omega) (Ag_fr hF263 (by decide)) sf256
            have sf271 : ND A259 (nd2_164) (24) (nd1) (r210) (0) (0) (0) (0) := ND_ag (by omega) (Ag_fr hF263 (by decide)) sf257
            have bln2_260 : (0 : Int) ≤ ln2_260 ∧ ln2_260 ≤ 3000 := e264 ▸ hW262.1 9
            have bfk2_261 : (0 : Int) ≤ fk2_261 ∧ fk2_261 ≤ 6 := e265 ▸ hW262.1 16
            refine .inl ⟨rfl, ?_⟩
            rcases q266 with ⟨a272, a273, a274, a275, a276⟩ | ⟨a277, a278⟩
            · have _q : True := trivial
              exfalso
              omega
            · have _q : True := trivial
              refine jx_ld (pc' := 341) (l' := L189) (st' := [.int (i32 (nd2_164))]) rfl (jl_iload gL189_7) ?_
              refine jx_rt (v := some (.int (i32 (nd2_164)))) rfl rfl rfl rfl rfl rfl ?_
              exact ⟨_, _, _, at2_211, fk2_261, nd2_214, ln2_260, rfl, rfl, hW262, hF267, hP268, by omega, ((hF263.1 10 rfl).trans (e220)), (e265), ((hF263.1 31 rfl).trans (e223)), (e264), by omega, by omega, by omega, by omega, by omega, by first | exact Or.inl (⟨by omega, by omega, by omega⟩)⟩
          · have _q : True := trivial
            refine jr_st (pc' := 335) (i := 18) (m := 7000) (z := nd2_164) (y := r210) rfl (by decide) rfl (by decide) (by omega) (by omega) rfl ?_
            have hW280 : Wk G208 (uA A209 18 (nd2_164).toNat (r210)) := Wk_a hW216 (show (-2147483648 : Int) ≤ r210 by omega) (show r210 ≤ (2147483647 : Int) by omega)
            have hF281 := Fr_a (z := r210) (k := 18) (n := (nd2_164).toNat) hF232 (by decide)
            obtain ⟨A279, eA279⟩ : ∃ q, q = uA A209 18 (nd2_164).toNat (r210) := ⟨_, rfl⟩
            rw [← eA279]
            rw [← eA279] at hW280 hF281
            have q282 : A279 18 (nd2_164).toNat = r210 := by rw [eA279]; exact uA_eq
            have hP283 : Pf nd A A279 := eA279 ▸ Pf_a hP233 (z := nd2_164) (by omega) (by omega)
            have sf284 : wE A279 Vs sb (20) (ix) (nd) (nd1) := wE_ag (by omega) (Sg_ne eA279 rfl) (Ag_st eA279 (by omega) (by omega)) sf234
            have sf285 : ND A279 (nd1) (3) (s) (ix) (0) (0) (0) (0) := ND_ag (by omega) (Ag_st eA279 (by omega) (by omega)) sf235
            have sf286 : ND A279 (nd2_164) (24) (nd1) (r210) (0) (0) (0) (0) := ND_b eA279 sf236
            have sf287 : wR A279 Vs sb (20) (0) (r210) (nd2_177) (nd2_214) := wR_ag (by omega) (Sg_ne eA279 rfl) (Ag_st eA279 (by omega) (by omega)) a249
            refine jx_ld (pc' := 336) (l' := L189) (st' := [.ref 66]) rfl (jl_aloadn gL189_0) ?_
            refine jx_vr (pc' := 339) (as := []) (st := []) rfl rfl rfl rfl ⟨rfl, rfl, Nat.le_of_ble_eq_true rfl⟩ rfl rfl (c_endLine (dd := d) (hd := by omega) (hW := hW280)  (ln := ln) (e_ln := show G208 9 = ln from ((hF217.1 9 rfl).trans ((hF195.1 9 rfl).trans ((hF179.1 9 rfl).trans ((hF166.1 9 rfl).trans (fx_9)))))) (li := li) (e_li := show G208 3 = li from ((hF217.1 3 rfl).trans ((hF195.1 3 rfl).trans ((hF179.1 3 rfl).trans ((hF166.1 3 rfl).trans ((hFx.1 3 rfl).trans (e_li))))))) (fk := fk2_212) (e_fk := show G208 16 = fk2_212 from (e221)) (tk0 := tk2_215) (e_tk0 := show G208 11 = tk2_215 from (e224))    (p_0 := by omega)) (fun o V' hq => ?_)
            obtain ⟨G288, A289, ln2_290, fk2_291, rfl, rfl, hW292, hF293, e294, e295, q296⟩ := hq
            have hF297 := Fr_tr hF281 hF293 (Fr_sub (by decide)) (Fr_sub (by decide))
            have hP298 := Pf_f hP283 hF293 (by decide)
            have sf299 : wE A289 Vs sb (20) (ix) (nd) (nd1) := wE_ag (by omega) (Sg_fr hF293 (by decide)) (Ag_fr hF293 (by decide)) sf284
            have sf300 : ND A289 (nd1) (3) (s) (ix) (0) (0) (0) (0) := ND_ag (by omega) (Ag_fr hF293 (by decide)) sf285
            have sf301 : ND A289 (nd2_164) (24) (nd1) (r210) (0) (0) (0) (0) := ND_ag (by omega) (Ag_fr hF293 (by decide)) sf286
            have sf302 : wR A289 Vs sb (20) (0) (r210) (nd2_177) (nd2_214) := wR_ag (by omega) (Sg_fr hF293 (by decide)) (Ag_fr hF293 (by decide)) sf287
            have bln2_290 : (0 : Int) ≤ ln2_290 ∧ ln2_290 ≤ 3000 := e294 ▸ hW292.1 9
            have bfk2_291 : (0 : Int) ≤ fk2_291 ∧ fk2_291 ≤ 6 := e295 ▸ hW292.1 16
            refine .inl ⟨rfl, ?_⟩
            rcases q296 with ⟨a303, a304, a305, a306, a307⟩ | ⟨a308, a309⟩
            · have _q : True := trivial
              refine jx_ld (pc' := 341) (l' := L189) (st' := [.int (i32 (nd2_164))]) rfl (jl_iload gL189_7) ?_
              refine jx_rt (v := some (.int (i32 (nd2_164)))) rfl rfl rfl rfl rfl rfl ?_
              exact ⟨_, _, _, at2_211, fk2_291, nd2_214, ln2_290, rfl, rfl, hW292, hF297, hP298, by omega, ((hF293.1 10 rfl).trans (e220)), (e295), ((hF293.1 31 rfl).trans (e223)), (e294), by omega, by omega, by omega, by omega, by omega, by first | exact Or.inr ((⟨by omega, by omega, by omega, by omega, by omega, (wL_in sf301 (by omega) (by omega) (wR_elem sf300 (by omega) (by omega) iv_8 (kq (P := kRow (1)) (show A289 7 (s).toNat = ks from (congrFun ((hF293.2 7 rfl).trans (((congrFun eA279 7).trans (uA_ne (by decide))).trans ((hF217.2 7 rfl).trans ((hF195.2 7 rfl).trans ((hF179.2 7 rfl).trans (hF166.2 7 rfl)))))) _).trans (ex_ks)) (by first | exact .inr ⟨by omega, by omega⟩)) (wE_mono (by omega) (by omega) (by omega) sf299)) (wR_mono (by omega) (by omega) (by omega) sf302)), (NX_nd sf301)⟩))⟩
            · have _q : True := trivial
              refine jx_ld (pc' := 341) (l' := L189) (st' := [.int (i32 (nd2_164))]) rfl (jl_iload gL189_7) ?_
              refine jx_rt (v := some (.int (i32 (nd2_164)))) rfl rfl rfl rfl rfl rfl ?_
              exact ⟨_, _, _, at2_211, fk2_291, nd2_214, ln2_290, rfl, rfl, hW292, hF297, hP298, by omega, ((hF293.1 10 rfl).trans (e220)), (e295), ((hF293.1 31 rfl).trans (e223)), (e294), by omega, by omega, by omega, by omega, by omega, by first | exact Or.inl (⟨by omega, by omega, by omega⟩)⟩
        · have _q := h207
          exact absurd h207 (by omega)
    · have _q := h160
      exact absurd h160 (by omega)
set_option maxRecDepth 20000 in
set_option maxHeartbeats 4000000 in
theorem c_readNamed_at_259_0 {X : jX} {d : Nat} {Vs : Nat → Prop} {sb pb : Int} {c0 c1 : jC} {G : Nat → Int} {A : Nat → Nat → Int} {T : jH} {ln le at0 fk op0 nd tk0 li : Int} (hd : 72 ≤ d + 1) (hW : Wk G A) (e_ln : G 9 = ln) (e_le : A 4 (ln).toNat = le) (e_at0 : G 10 = at0) (e_fk : G 16 = fk) (e_op0 : G 15 = op0) (e_nd : G 31 = nd) (e_tk0 : G 11 = tk0) (e_li : G 3 = li) (i_SV : SV Vs sb G A) (i_PQ : PQ Vs sb pb G A) (p_0 : 0 ≤ op0 ∧ op0 ≤ 8) (p_1 : fk = 0) (p_2 : nd ≤ 2 * at0 - tz tk0 + 42) (p_3 : at0 ≤ le) (p_4 : ln < li) (p_5 : tk0 = 1) : ∀ (L : jL) (Gx : Nat → Int) (Ax : Nat → Nat → Int) (s at1 tk1 fk1 nd1 op1 ks : Int), jGet L 0 = some (.ref 66) → jGet L 5 = some (.int (i32 (0))) → jGet L 4 = some (.int (i32 (0))) → jGet L 2 = some (.int (i32 s)) → Wk Gx Ax → Fr [9, 10, 11, 12, 13, 14, 15, 16, 17, 18, 31] [15, 16, 17, 18, 19, 20, 21, 22, 24, 28] G A Gx Ax → Pf nd A Ax → Gx 10 = at1 → Gx 11 = tk1 → Gx 16 = fk1 → Gx 31 = nd1 → Gx 15 = op1 → Ax 7 (s).toNat = ks → Gx 9 = ln → ((-2147483648 : Int) ≤ s ∧ s ≤ 2147483647) → (at0 ≤ at1) → (at1 ≤ le) → (nd ≤ nd1) → (op1 = op0) → (fk1 = 0) → (nd1 - nd ≤ (2 * at1 - tz tk1) - (2 * at0 - tz tk0) - 1) → (tz tk1 = 1) → (0 ≤ s ∧ s ≤ 201) → (SY Vs sb (s)) → (kCh (ks)) → wj X d jm304 (259, L, [], rV c0 c1 Gx Ax T) (fun o V' => ∃ (G' : Nat → Int) (A' : Nat → Nat → Int) (r : Int) (at2 : Int) (fk2 : Int) (nd2 : Int) (ln2 : Int), V' = rV c0 c1 G' A' T ∧ o = .inl (some (.int (i32 r))) ∧ Wk G' A' ∧ Fr [9, 10, 11, 12, 13, 14, 15, 16, 17, 18, 31] [15, 16, 17, 18, 19, 20, 21, 22, 24, 28] G A G' A' ∧ Pf nd A A' ∧ ((-2147483648 : Int) ≤ r ∧ r ≤ 2147483647) ∧ G' 10 = at2 ∧ G' 16 = fk2 ∧ G' 31 = nd2 ∧ G' 9 = ln2 ∧ (at0 ≤ at2) ∧ (at2 ≤ le) ∧ (nd ≤ nd2) ∧ (0 ≤ r) ∧ (r ≤ nd2) ∧ (((1 ≤ fk2) ∧ (ln2 = ln) ∧ (nd2 - nd ≤ 2 * at2 - 2 * at0 + 8)) ∨ ((fk2 = 0) ∧ (ln2 = ln + 1) ∧ (nd2 - nd ≤ 2 * at2 - (2 * at0 - tz tk0) + 0) ∧ (nd ≤ r) ∧ (r < nd2) ∧ (wL A' sb pb Vs (r) (nd) (nd2)) ∧ (NX A' (r))))) := by
  have hF0 : Fr [9, 10, 11, 12, 13, 14, 15, 16, 17, 18, 31] [15, 16, 17, 18, 19, 20, 21, 22, 24, 28] G A G A := Fr_rf
  have hP0 : Pf nd A A := Pf_rf
  have b_ln : (0 : Int) ≤ ln ∧ ln ≤ 3000 := e_ln ▸ hW.1 9
  have b_le : (0 : Int) ≤ le ∧ le ≤ 3000 := e_le ▸ hW.2 4 _
  have b_at0 : (0 : Int) ≤ at0 ∧ at0 ≤ 3002 := e_at0 ▸ hW.1 10
  have b_fk : (0 : Int) ≤ fk ∧ fk ≤ 6 := e_fk ▸ hW.1 16
  have b_op0 : (-2147483648 : Int) ≤ op0 ∧ op0 ≤ 2147483647 := e_op0 ▸ hW.1 15
  have b_nd : (0 : Int) ≤ nd ∧ nd ≤ 6999 := e_nd ▸ hW.1 31
  have z_tk0 := tz_f tk0
  have b_tk0 : (0 : Int) ≤ tk0 ∧ tk0 ≤ 5 := e_tk0 ▸ hW.1 11
  have b_li : (0 : Int) ≤ li ∧ li ≤ 3000 := e_li ▸ hW.1 3
  intro L Gx Ax s at1 tk1 fk1 nd1 op1 ks gL_0 gL_5 gL_4 gL_2 hWx hFx hPx ex_at1 ex_tk1 ex_fk1 ex_nd1 ex_op1 ex_ks fx_9 rx_s iv_0 iv_1 iv_2 iv_3 iv_4 iv_5 iv_6 iv_7 iv_8 iv_9
  have b_at1 : (0 : Int) ≤ at1 ∧ at1 ≤ 3002 := ex_at1 ▸ hWx.1 10
  have z_tk1 := tz_f tk1
  have b_tk1 : (0 : Int) ≤ tk1 ∧ tk1 ≤ 5 := ex_tk1 ▸ hWx.1 11
  have b_fk1 : (0 : Int) ≤ fk1 ∧ fk1 ≤ 6 := ex_fk1 ▸ hWx.1 16
  have b_nd1 : (0 : Int) ≤ nd1 ∧ nd1 ≤ 6999 := ex_nd1 ▸ hWx.1 31
  have b_op1 : (-2147483648 : Int) ≤ op1 ∧ op1 ≤ 2147483647 := ex_op1 ▸ hWx.1 15
  have b_ks : (0 : Int) ≤ ks ∧ ks ≤ 14 := ex_ks ▸ hWx.2 7 _
  refine jx_ld (pc' := 260) (l' := L) (st' := [.ref 66]) rfl (jl_aloadn gL_0) ?_
  refine jx_ar (pc' := 262) (st' := [.int (i32 (33)), .ref 66]) rfl rfl rfl rfl ?_
  have b310 : (-2147483648 : Int) ≤ Gx 13 ∧ Gx 13 ≤ 2147483647 := hWx.1 13
  refine jx_vr (pc' := 265) (as := [.int (i32 (33))]) (st := []) rfl rfl rfl rfl ⟨rfl, rfl, Nat.le_of_ble_eq_true rfl⟩ rfl rfl (c_is (dd := d) (hd := by omega) (hW := hWx) (k := 33) (tk := tk1) (e_tk := show Gx 11 = tk1 from (ex_tk1)) (tn := Gx 13) (e_tn := show Gx 13 = Gx 13 from rfl)  (h_k := ⟨(by decide), (by decide)⟩)  ) (fun o V' hq => ?_)
  obtain ⟨r311, rfl, rfl, b312, q313⟩ := hq
  refine .inr ⟨_, rfl, ?_⟩
  rcases q313 with ⟨rfl, a314, a315, a316⟩ | rfl
  · have _q : True := trivial
    refine jx_ld (pc' := 267) (l' := jSto1 L 6 (.int (i32 (1)))) (st' := []) rfl rfl ?_
    obtain ⟨L317, eL317⟩ : ∃ q, q = jSto1 L 6 (.int (i32 (1))) := ⟨_, rfl⟩
    rw [← eL317]
    have gL317_0 : jGet L317 0 = some (.ref 66) := eL317 ▸ jg_ne (by decide) gL_0 rfl
    have gL317_5 : jGet L317 5 = some (.int (i32 (0))) := eL317 ▸ jg_ne (by decide) gL_5 rfl
    have gL317_4 : jGet L317 4 = some (.int (i32 (0))) := eL317 ▸ jg_ne (by decide) gL_4 rfl
    have gL317_2 : jGet L317 2 = some (.int (i32 (s))) := eL317 ▸ jg_ne (by decide) gL_2 rfl
    have gL317_6 : jGet L317 6 = some (.int (i32 (1))) := eL317 ▸ jg_eq
    refine jx_ld (pc' := 268) (l' := L317) (st' := [.ref 66]) rfl (jl_aloadn gL317_0) ?_
    refine jx_ld (pc' := 270) (l' := L317) (st' := [.int (i32 (1)), .ref 66]) rfl (jl_iload gL317_6) ?_
    refine jx_if_eq (pc' := 273) (tg := 278) rfl rfl rfl (by decide) (by decide) (fun h318 => ?_) (fun h318 => ?_)
    · have _q := h318
      exact absurd h318 (by omega)
    · have _q := h318
      refine jx_ar (pc' := 275) (st' := [.int (i32 (23)), .ref 66]) rfl rfl rfl rfl ?_
      refine jx_go (tg := 280) rfl rfl ?_
      refine jx_ld (pc' := 281) (l' := L317) (st' := [.ref 66, .int (i32 (23)), .ref 66]) rfl (jl_aloadn gL317_0) ?_
      refine jx_ld (pc' := 283) (l' := L317) (st' := [.int (i32 (0)), .ref 66, .int (i32 (23)), .ref 66]) rfl (jl_iload gL317_5) ?_
      refine jx_if_eq (pc' := 286) (tg := 290) rfl rfl rfl (by decide) (by decide) (fun h319 => ?_) (fun h319 => ?_)
      · have _q := h319
        refine jx_ar (pc' := 291) (st' := [.int (i32 (2)), .ref 66, .int (i32 (23)), .ref 66]) rfl rfl rfl rfl ?_
        refine jx_ld (pc' := 292) (l' := L317) (st' := [.int (i32 (s)), .int (i32 (2)), .ref 66, .int (i32 (23)), .ref 66]) rfl (jl_iloadn gL317_2) ?_
        refine jx_ld (pc' := 294) (l' := L317) (st' := [.int (i32 (0)), .int (i32 (s)), .int (i32 (2)), .ref 66, .int (i32 (23)), .ref 66]) rfl (jl_iload gL317_4) ?_
        refine jx_ar (pc' := 295) (st' := [.int (i32 (0)), .int (i32 (0)), .int (i32 (s)), .int (i32 (2)), .ref 66, .int (i32 (23)), .ref 66]) rfl rfl rfl rfl ?_
        refine jx_ar (pc' := 296) (st' := [.int (i32 (0)), .int (i32 (0)), .int (i32 (0)), .int (i32 (s)), .int (i32 (2)), .ref 66, .int (i32 (23)), .ref 66]) rfl rfl rfl rfl ?_
        refine jx_vr (pc' := 299) (as := [.int (i32 (2)), .int (i32 (s)), .int (i32 (0)), .int (i32 (0)), .int (i32 (0))]) (st := [.int (i32 (23)), .ref 66]) rfl rfl rfl rfl ⟨rfl, rfl, Nat.le_of_ble_eq_true rfl⟩ rfl rfl (c_node (dd := d) (hd := by omega) (hW := hWx) (kind := 2) (a := s) (b := 0) (c := 0) (e := 0) (nd := nd1) (e_nd := show Gx 31 = nd1 from (ex_nd1))  (h_kind := ⟨(by decide), (by decide)⟩) (h_a := ⟨(Int.le_trans (by decide : (-2147483648 : Int) ≤ -2147483648) rx_s.1), (Int.le_trans rx_s.2 (by decide : (2147483647 : Int) ≤ 2147483647))⟩) (h_b := ⟨(by decide), (by decide)⟩) (h_c := ⟨(by decide), (by decide)⟩) (h_e := ⟨(by decide), (by decide)⟩)  (p_0 := by omega) (p_1 := by omega)) (fun o V' hq => ?_)
        obtain ⟨G320, A321, nd2_322, rfl, rfl, hW323, hF324, hQ325, e326, p327, p328, -⟩ := hq
        have hF330 := Fr_tr hFx hF324 (Fr_sub (by decide)) (Fr_sub (by decide))
        have hP331 := Pf_tr hPx hQ325 (by omega)
        have bnd2_322 : (0 : Int) ≤ nd2_322 ∧ nd2_322 ≤ 6999 := e326 ▸ hW323.1 31
        refine .inr ⟨_, rfl, ?_⟩
        refine jx_ar (pc' := 300) (st' := [.int (i32 (0)), .int (i32 (nd1)), .int (i32 (23)), .ref 66]) rfl rfl rfl rfl ?_
        refine jx_ar (pc' := 301) (st' := [.int (i32 (0)), .int (i32 (0)), .int (i32 (nd1)), .int (i32 (23)), .ref 66]) rfl rfl rfl rfl ?_
        refine jx_ar (pc' := 302) (st' := [.int (i32 (0)), .int (i32 (0)), .int (i32 (0)), .int (i32 (nd1)), .int (i32 (23)), .ref 66]) rfl rfl rfl rfl ?_
        refine jx_vr (pc' := 305) (as := [.int (i32 (23)), .int (i32 (nd1)), .int (i32 (0)), .int (i32 (0)), .int (i32 (0))]) (st := []) rfl rfl rfl rfl ⟨rfl, rfl, Nat.le_of_ble_eq_true rfl⟩ rfl rfl (c_node (dd := d) (hd := by omega) (hW := hW323) (kind := 23) (a := nd1) (b := 0) (c := 0) (e := 0) (nd := nd2_322) (e_nd := show G320 31 = nd2_322 from (e326))  (h_kind := ⟨(by decide), (by decide)⟩) (h_a := ⟨(Int.le_trans (by decide : (-2147483648 : Int) ≤ 0) b_nd1.1), (Int.le_trans b_nd1.2 (by decide : (6999 : Int) ≤ 2147483647))⟩) (h_b := ⟨(by decide), (by decide)⟩) (h_c := ⟨(by decide), (by decide)⟩) (h_e := ⟨(by decide), (by decide)⟩)  (p_0 := by omega) (p_1 := by omega)) (fun o V' hq => ?_)
        obtain ⟨G332, A333, nd2_334, rfl, rfl, hW335, hF336, hQ337, e338, p339, p340, -⟩ := hq
        have hF342 := Fr_tr hF330 hF336 (Fr_sub (by decide)) (Fr_sub (by decide))
        have hP343 := Pf_tr hP331 hQ337 (by omega)
        have sf344 : ND A333 (nd1) (2) (s) (0) (0) (0) (0) (0) := ND_ag (by omega) (Ag_pf hQ337 (by omega)) p328
        have bnd2_334 : (0 : Int) ≤ nd2_334 ∧ nd2_334 ≤ 6999 := e338 ▸ hW335.1 31
        refine .inr ⟨_, rfl, ?_⟩
        refine jx_ld (pc' := 307) (l' := jSto1 L317 7 (.int (i32 (nd2_322)))) (st' := []) rfl rfl ?_
        obtain ⟨L345, eL345⟩ : ∃ q, q = jSto1 L317 7 (.int (i32 (nd2_322))) := ⟨_, rfl⟩
        rw [← eL345]
        have gL345_0 : jGet L345 0 = some (.ref 66) := eL345 ▸ jg_ne (by decide) gL317_0 rfl
        have gL345_5 : jGet L345 5 = some (.int (i32 (0))) := eL345 ▸ jg_ne (by decide) gL317_5 rfl
        have gL345_4 : jGet L345 4 = some (.int (i32 (0))) := eL345 ▸ jg_ne (by decide) gL317_4 rfl
        have gL345_2 : jGet L345 2 = some (.int (i32 (s))) := eL345 ▸ jg_ne (by decide) gL317_2 rfl
        have gL345_6 : jGet L345 6 = some (.int (i32 (1))) := eL345 ▸ jg_ne (by decide) gL317_6 rfl
        have gL345_7 : jGet L345 7 = some (.int (i32 (nd2_322))) := eL345 ▸ jg_eq
        refine jx_ld (pc' := 308) (l' := L345) (st' := [.ref 66]) rfl (jl_aloadn gL345_0) ?_
        refine jx_vr (pc' := 311) (as := []) (st := []) rfl rfl rfl rfl ⟨rfl, rfl, Nat.le_of_ble_eq_true rfl⟩ rfl rfl (c_next (dd := d) (hd := by omega) (hW := hW335)  (ln := ln) (e_ln := show G332 9 = ln from ((hF336.1 9 rfl).trans ((hF324.1 9 rfl).trans (fx_9)))) (le := le) (e_le := show A333 4 (ln).toNat = le from (congrFun ((hF336.2 4 rfl).trans ((hF324.2 4 rfl).trans (hFx.2 4 rfl))) _).trans (e_le)) (at0 := at1) (e_at0 := show G332 10 = at1 from ((hF336.1 10 rfl).trans ((hF324.1 10 rfl).trans (ex_at1))))    (p_0 := by omega)) (fun o V' hq => ?_)
        obtain ⟨G346, A347, at2_348, tk2_349, rfl, rfl, hW350, hF351, e352, e353, p354, p355, p356, -⟩ := hq
        have hF358 := Fr_tr hF342 hF351 (Fr_sub (by decide)) (Fr_sub (by decide))
        have hP359 := Pf_f hP343 hF351 (by decide)
        have sf360 : ND A347 (nd1) (2) (s) (0) (0) (0) (0) (0) := ND_ag (by omega) (Ag_fr hF351 (by decide)) sf344
        have sf361 : ND A347 (nd2_322) (23) (nd1) (0) (0) (0) (0) (0) := ND_ag (by omega) (Ag_fr hF351 (by decide)) p340
        have bat2_348 : (0 : Int) ≤ at2_348 ∧ at2_348 ≤ 3002 := e352 ▸ hW350.1 10
        have ztk2_349 := tz_b tk2_349
        have btk2_349 : (0 : Int) ≤ tk2_349 ∧ tk2_349 ≤ 5 := e353 ▸ hW350.1 11
        refine .inl ⟨rfl, ?_⟩
        refine jx_ld (pc' := 312) (l' := L345) (st' := [.ref 66]) rfl (jl_aloadn gL345_0) ?_
        refine jr_get (pc' := 315) (i := 35) (v := .ref 85) rfl rfl (by decide) rfl rfl ?_
        refine jx_ld (pc' := 317) (l' := L345) (st' := [.int (i32 (nd2_322)), .ref 85]) rfl (jl_iload gL345_7) ?_
        refine jx_ld (pc' := 319) (l' := L345) (st' := [.int (i32 (1)), .int (i32 (nd2_322)), .ref 85]) rfl (jl_iload gL345_6) ?_
        refine jx_if_eq (pc' := 322) (tg := 329) rfl rfl rfl (by decide) (by decide) (fun h362 => ?_) (fun h362 => ?_)
        · have _q := h362
          exact absurd h362 (by omega)
        · have _q := h362
          refine jx_ld (pc' := 323) (l' := L345) (st' := [.ref 66, .int (i32 (nd2_322)), .ref 85]) rfl (jl_aloadn gL345_0) ?_
          refine jx_vr (pc' := 326) (as := []) (st := [.int (i32 (nd2_322)), .ref 85]) rfl rfl rfl rfl ⟨rfl, rfl, Nat.le_of_ble_eq_true rfl⟩ rfl rfl (RE_all X 9 (dd := d) (hd := by omega) (hW := hW350)  (ln := ln) (e_ln := show G346 9 = ln from ((hF351.1 9 rfl).trans ((hF336.1 9 rfl).trans ((hF324.1 9 rfl).trans (fx_9))))) (le := le) (e_le := show A347 4 (ln).toNat = le from (congrFun ((hF351.2 4 rfl).trans ((hF336.2 4 rfl).trans ((hF324.2 4 rfl).trans (hFx.2 4 rfl)))) _).trans (e_le)) (at0 := at2_348) (e_at0 := show G346 10 = at2_348 from (e352)) (fk := fk1) (e_fk := show G346 16 = fk1 from ((hF351.1 16 rfl).trans ((hF336.1 16 rfl).trans ((hF324.1 16 rfl).trans (ex_fk1))))) (op0 := op1) (e_op0 := show G346 15 = op1 from ((hF351.1 15 rfl).trans ((hF336.1 15 rfl).trans ((hF324.1 15 rfl).trans (ex_op1))))) (nd := nd2_334) (e_nd := show G346 31 = nd2_334 from ((hF351.1 31 rfl).trans (e338))) (tk0 := tk2_349) (e_tk0 := show G346 11 = tk2_349 from (e353)) (i_SV := (SV_ext (((hF351.1 29 rfl).trans ((hF336.1 29 rfl).trans ((hF324.1 29 rfl).trans (hFx.1 29 rfl))))) (((hF351.2 14 rfl).trans ((hF336.2 14 rfl).trans ((hF324.2 14 rfl).trans (hFx.2 14 rfl))))) i_SV))   (p_0 := by omega) (p_1 := by omega) (p_2 := by omega) (p_3 := by omega) (p_4 := by omega) (p_5 := by omega)) (fun o V' hq => ?_)
          obtain ⟨G363, A364, r365, at2_366, fk2_367, op2_368, nd2_369, tk2_370, rfl, rfl, hW371, hF372, hQ373, b374, e375, e376, e377, e378, e379, p380, p381, p382, p383, p384, p385, q386⟩ := hq
          have hF387 := Fr_tr hF358 hF372 (Fr_sub (by decide)) (Fr_sub (by decide))
          have hP388 := Pf_tr hP359 hQ373 (by omega)
          have sf389 : ND A364 (nd1) (2) (s) (0) (0) (0) (0) (0) := ND_ag (by omega) (Ag_pf hQ373 (by omega)) sf360
          have sf390 : ND A364 (nd2_322) (23) (nd1) (0) (0) (0) (0) (0) := ND_ag (by omega) (Ag_pf hQ373 (by omega)) sf361
          have bat2_366 : (0 : Int) ≤ at2_366 ∧ at2_366 ≤ 3002 := e375 ▸ hW371.1 10
          have bfk2_367 : (0 : Int) ≤ fk2_367 ∧ fk2_367 ≤ 6 := e376 ▸ hW371.1 16
          have bop2_368 : (-2147483648 : Int) ≤ op2_368 ∧ op2_368 ≤ 2147483647 := e377 ▸ hW371.1 15
          have bnd2_369 : (0 : Int) ≤ nd2_369 ∧ nd2_369 ≤ 6999 := e378 ▸ hW371.1 31
          have ztk2_370 := tz_b tk2_370
          have btk2_370 : (0 : Int) ≤ tk2_370 ∧ tk2_370 ≤ 5 := e379 ▸ hW371.1 11
          refine .inr ⟨_, rfl, ?_⟩
          rcases q386 with ⟨a391, a392, a393, a394, a395, a396⟩ | ⟨a397, a398, a399⟩ | ⟨a400, a401, a402, a403⟩
          · have _q : True := trivial
            exfalso
            omega
          · have _q : True := trivial
            refine jx_go (tg := 334) rfl rfl ?_
            refine jr_st (pc' := 335) (i := 18) (m := 7000) (z := nd2_322) (y := r365) rfl (by decide) rfl (by decide) (by omega) (by omega) rfl ?_
            have hW405 : Wk G363 (uA A364 18 (nd2_322).toNat (r365)) := Wk_a hW371 (show (-2147483648 : Int) ≤ r365 by omega) (show r365 ≤ (2147483647 : Int) by omega)
            have hF406 := Fr_a (z := r365) (k := 18) (n := (nd2_322).toNat) hF387 (by decide)
            obtain ⟨A404, eA404⟩ : ∃ q, q = uA A364 18 (nd2_322).toNat (r365) := ⟨_, rfl⟩
            rw [← eA404]
            rw [← eA404] at hW405 hF406
            have q407 : A404 18 (nd2_322).toNat = r365 := by rw [eA404]; exact uA_eq
            have hP408 : Pf nd A A404 := eA404 ▸ Pf_a hP388 (z := nd2_322) (by omega) (by omega)
            have sf409 : ND A404 (nd1) (2) (s) (0) (0) (0) (0) (0) := ND_ag (by omega) (Ag_st eA404 (by omega) (by omega)) sf389
            have sf410 : ND A404 (nd2_322) (23) (nd1) (r365) (0) (0) (0) (0) := ND_b eA404 sf390
            refine jx_ld (pc' := 336) (l' := L345) (st' := [.ref 66]) rfl (jl_aloadn gL345_0) ?_
            refine jx_vr (pc' := 339) (as := []) (st := []) rfl rfl rfl rfl ⟨rfl, rfl, Nat.le_of_ble_eq_true rfl⟩ rfl rfl (c_endLine (dd := d) (hd := by omega) (hW := hW405)  (ln := ln) (e_ln := show G363 9 = ln from ((hF372.1 9 rfl).trans ((hF351.1 9 rfl).trans ((hF336.1 9 rfl).trans ((hF324.1 9 rfl).trans (fx_9)))))) (li := li) (e_li := show G363 3 = li from ((hF372.1 3 rfl).trans ((hF351.1 3 rfl).trans ((hF336.1 3 rfl).trans ((hF324.1 3 rfl).trans ((hFx.1 3 rfl).trans (e_li))))))) (fk := fk2_367) (e_fk := show G363 16 = fk2_367 from (e376)) (tk0 := tk2_370) (e_tk0 := show G363 11 = tk2_370 from (e379))    (p_0 := by omega)) (fun o V' hq => ?_)
            obtain ⟨G411, A412, ln2_413, fk2_414, rfl, rfl, hW415, hF416, e417, e418, q419⟩ := hq
            have hF420 := Fr_tr hF406 hF416 (Fr_sub (by decide)) (Fr_sub (by decide))
            have hP421 := Pf_f hP408 hF416 (by decide)
            have sf422 : ND A412 (nd1) (2) (s) (0) (0) (0) (0) (0) := ND_ag (by omega) (Ag_fr hF416 (by decide)) sf409
            have sf423 : ND A412 (nd2_322) (23) (nd1) (r365) (0) (0) (0) (0) := ND_ag (by omega) (Ag_fr hF416 (by decide)) sf410
            have bln2_413 : (0 : Int) ≤ ln2_413 ∧ ln2_413 ≤ 3000 := e417 ▸ hW415.1 9
            have bfk2_414 : (0 : Int) ≤ fk2_414 ∧ fk2_414 ≤ 6 := e418 ▸ hW415.1 16
            refine .inl ⟨rfl, ?_⟩
            rcases q419 with ⟨a424, a425, a426, a427, a428⟩ | ⟨a429, a430⟩
            · have _q : True := trivial
              exfalso
              omega
            · have _q : True := trivial
              refine jx_ld (pc' := 341) (l' := L345) (st' := [.int (i32 (nd2_322))]) rfl (jl_iload gL345_7) ?_
              refine jx_rt (v := some (.int (i32 (nd2_322)))) rfl rfl rfl rfl rfl rfl ?_
              exact ⟨_, _, _, at2_366, fk2_414, nd2_369, ln2_413, rfl, rfl, hW415, hF420, hP421, by omega, ((hF416.1 10 rfl).trans (e375)), (e418), ((hF416.1 31 rfl).trans (e378)), (e417), by omega, by omega, by omega, by omega, by omega, by first | exact Or.inl (⟨by omega, by omega, by omega⟩)⟩
          · have _q : True := trivial
            refine jx_go (tg := 334) rfl rfl ?_
            refine jr_st (pc' := 335) (i := 18) (m := 7000) (z := nd2_322) (y := r365) rfl (by decide) rfl (by decide) (by omega) (by omega) rfl ?_
            have hW432 : Wk G363 (uA A364 18 (nd2_322).toNat (r365)) := Wk_a hW371 (show (-2147483648 : Int) ≤ r365 by omega) (show r365 ≤ (2147483647 : Int) by omega)
            have hF433 := Fr_a (z := r365) (k := 18) (n := (nd2_322).toNat) hF387 (by decide)
            obtain ⟨A431, eA431⟩ : ∃ q, q = uA A364 18 (nd2_322).toNat (r365) := ⟨_, rfl⟩
            rw [← eA431]
            rw [← eA431] at hW432 hF433
            have q434 : A431 18 (nd2_322).toNat = r365 := by rw [eA431]; exact uA_eq
            have hP435 : Pf nd A A431 := eA431 ▸ Pf_a hP388 (z := nd2_322) (by omega) (by omega)
            have sf436 : ND A431 (nd1) (2) (s) (0) (0) (0) (0) (0) := ND_ag (by omega) (Ag_st eA431 (by omega) (by omega)) sf389
            have sf437 : ND A431 (nd2_322) (23) (nd1) (r365) (0) (0) (0) (0) := ND_b eA431 sf390
            have sf438 : wE A431 Vs sb (2 * 9 + 2) (r365) (nd2_334) (nd2_369) := wE_ag (by omega) (Sg_ne eA431 rfl) (Ag_st eA431 (by omega) (by omega)) a403
            refine jx_ld (pc' := 336) (l' := L345) (st' := [.ref 66]) rfl (jl_aloadn gL345_0) ?_
            refine jx_vr (pc' := 339) (as := []) (st := []) rfl rfl rfl rfl ⟨rfl, rfl, Nat.le_of_ble_eq_true rfl⟩ rfl rfl (c_endLine (dd := d) (hd := by omega) (hW := hW432)  (ln := ln) (e_ln := show G363 9 = ln from ((hF372.1 9 rfl).trans ((hF351.1 9 rfl).trans ((hF336.1 9 rfl).trans ((hF324.1 9 rfl).trans (fx_9)))))) (li := li) (e_li := show G363 3 = li from ((hF372.1 3 rfl).trans ((hF351.1 3 rfl).trans ((hF336.1 3 rfl).trans ((hF324.1 3 rfl).trans ((hFx.1 3 rfl).trans (e_li))))))) (fk := fk2_367) (e_fk := show G363 16 = fk2_367 from (e376)) (tk0 := tk2_370) (e_tk0 := show G363 11 = tk2_370 from (e379))    (p_0 := by omega)) (fun o V' hq => ?_)
            obtain ⟨G439, A440, ln2_441, fk2_442, rfl, rfl, hW443, hF444, e445, e446, q447⟩ := hq
            have hF448 := Fr_tr hF433 hF444 (Fr_sub (by decide)) (Fr_sub (by decide))
            have hP449 := Pf_f hP435 hF444 (by decide)
            have sf450 : ND A440 (nd1) (2) (s) (0) (0) (0) (0) (0) := ND_ag (by omega) (Ag_fr hF444 (by decide)) sf436
            have sf451 : ND A440 (nd2_322) (23) (nd1) (r365) (0) (0) (0) (0) := ND_ag (by omega) (Ag_fr hF444 (by decide)) sf437
            have sf452 : wE A440 Vs sb (2 * 9 + 2) (r365) (nd2_334) (nd2_369) := wE_ag (by omega) (Sg_fr hF444 (by decide)) (Ag_fr hF444 (by decide)) sf438
            have bln2_441 : (0 : Int) ≤ ln2_441 ∧ ln2_441 ≤ 3000 := e445 ▸ hW443.1 9
            have bfk2_442 : (0 : Int) ≤ fk2_442 ∧ fk2_442 ≤ 6 := e446 ▸ hW443.1 16
            refine .inl ⟨rfl, ?_⟩
            rcases q447 with ⟨a453, a454, a455, a456, a457⟩ | ⟨a458, a459⟩
            · have _q : True := trivial
              refine jx_ld (pc' := 341) (l' := L345) (st' := [.int (i32 (nd2_322))]) rfl (jl_iload gL345_7) ?_
              refine jx_rt (v := some (.int (i32 (nd2_322)))) rfl rfl rfl rfl rfl rfl ?_
              exact ⟨_, _, _, at2_366, fk2_442, nd2_369, ln2_441, rfl, rfl, hW443, hF448, hP449, by omega, ((hF444.1 10 rfl).trans (e375)), (e446), ((hF444.1 31 rfl).trans (e378)), (e445), by omega, by omega, by omega, by omega, by omega, by first | exact Or.inr ((⟨by omega, by omega, by omega, by omega, by omega, (wL_out sf451 (by omega) (by omega) (wR_var sf450 (by omega) (by omega) iv_8 (kq (P := kRef (1)) (show A440 7 (s).toNat = ks from (congrFun ((hF444.2 7 rfl).trans (((congrFun eA431 7).trans (uA_ne (by decide))).trans ((hF372.2 7 rfl).trans ((hF351.2 7 rfl).trans ((hF336.2 7 rfl).trans (hF324.2 7 rfl)))))) _).trans (ex_ks)) (by first | exact .inr ⟨by omega, iv_9⟩))) (wE_mono (by omega) (by omega) (by omega) sf452)), (NX_nd sf451)⟩))⟩
            · have _q : True := trivial
              refine jx_ld (pc' := 341) (l' := L345) (st' := [.int (i32 (nd2_322))]) rfl (jl_iload gL345_7) ?_
              refine jx_rt (v := some (.int (i32 (nd2_322)))) rfl rfl rfl rfl rfl rfl ?_
              exact ⟨_, _, _, at2_366, fk2_442, nd2_369, ln2_441, rfl, rfl, hW443, hF448, hP449, by omega, ((hF444.1 10 rfl).trans (e375)), (e446), ((hF444.1 31 rfl).trans (e378)), (e445), by omega, by omega, by omega, by omega, by omega, by first | exact Or.inl (⟨by omega, by omega, by omega⟩)⟩
      · have _q := h319
        exact absurd h319 (by omega)
  · have _q : True := trivial
    refine jx_ld (pc' := 267) (l' := jSto1 L 6 (.int (i32 (0)))) (st' := []) rfl rfl ?_
    obtain ⟨L460, eL460⟩ : ∃ q, q = jSto1 L 6 (.int (i32 (0))) := ⟨_, rfl⟩
    rw [← eL460]
    have gL460_0 : jGet L460 0 = some (.ref 66) := eL460 ▸ jg_ne (by decide) gL_0 rfl
    have gL460_5 : jGet L460 5 = some (.int (i32 (0))) := eL460 ▸ jg_ne (by decide) gL_5 rfl
    have gL460_4 : jGet L460 4 = some (.int (i32 (0))) := eL460 ▸ jg_ne (by decide) gL_4 rfl
    have gL460_2 : jGet L460 2 = some (.int (i32 (s))) := eL460 ▸ jg_ne (by decide) gL_2 rfl
    have gL460_6 : jGet L460 6 = some (.int (i32 (0))) := eL460 ▸ jg_eq
    refine jx_ld (pc' := 268) (l' := L460) (st' := [.ref 66]) rfl (jl_aloadn gL460_0) ?_
    refine jx_ld (pc' := 270) (l' := L460) (st' := [.int (i32 (0)), .ref 66]) rfl (jl_iload gL460_6) ?_
    refine jx_if_eq (pc' := 273) (tg := 278) rfl rfl rfl (by decide) (by decide) (fun h461 => ?_) (fun h461 => ?_)
    · have _q := h461
      refine jx_ar (pc' := 280) (st' := [.int (i32 (24)), .ref 66]) rfl rfl rfl rfl ?_
      refine jx_ld (pc' := 281) (l' := L460) (st' := [.ref 66, .int (i32 (24)), .ref 66]) rfl (jl_aloadn gL460_0) ?_
      refine jx_ld (pc' := 283) (l' := L460) (st' := [.int (i32 (0)), .ref 66, .int (i32 (24)), .ref 66]) rfl (jl_iload gL460_5) ?_
      refine jx_if_eq (pc' := 286) (tg := 290) rfl rfl rfl (by decide) (by decide) (fun h462 => ?_) (fun h462 => ?_)
      · have _q := h462
        refine jx_ar (pc' := 291) (st' := [.int (i32 (2)), .ref 66, .int (i32 (24)), .ref 66]) rfl rfl rfl rfl ?_
        refine jx_ld (pc' := 292) (l' := L460) (st' := [.int (i32 (s)), .int (i32 (2)), .ref 66, .int (i32 (24)), .ref 66]) rfl (jl_iloadn gL460_2) ?_
        refine jx_ld (pc' := 294) (l' := L460) (st' := [.int (i32 (0)), .int (i32 (s)), .int (i32 (2)), .ref 66, .int (i32 (24)), .ref 66]) rfl (jl_iload gL460_4) ?_
        refine jx_ar (pc' := 295) (st' := [.int (i32 (0)), .int (i32 (0)), .int (i32 (s)), .int (i32 (2)), .ref 66, .int (i32 (24)), .ref 66]) rfl rfl rfl rfl ?_
        refine jx_ar (pc' := 296) (st' := [.int (i32 (0)), .int (i32 (0)), .int (i32 (0)), .int (i32 (s)), .int (i32 (2)), .ref 66, .int (i32 (24)), .ref 66]) rfl rfl rfl rfl ?_
        refine jx_vr (pc' := 299) (as := [.int (i32 (2)), .int (i32 (s)), .int (i32 (0)), .int (i32 (0)), .int (i32 (0))]) (st := [.int (i32 (24)), .ref 66]) rfl rfl rfl rfl ⟨rfl, rfl, Nat.le_of_ble_eq_true rfl⟩ rfl rfl (c_node (dd := d) (hd := by omega) (hW := hWx) (kind := 2) (a := s) (b := 0) (c := 0) (e := 0) (nd := nd1) (e_nd := show Gx 31 = nd1 from (ex_nd1))  (h_kind := ⟨(by decide), (by decide)⟩) (h_a := ⟨(Int.le_trans (by decide : (-2147483648 : Int) ≤ -2147483648) rx_s.1), (Int.le_trans rx_s.2 (by decide : (2147483647 : Int) ≤ 2147483647))⟩) (h_b := ⟨(by decide), (by decide)⟩) (h_c := ⟨(by decide), (by decide)⟩) (h_e := ⟨(by decide), (by decide)⟩)  (p_0 := by omega) (p_1 := by omega)) (fun o V' hq => ?_)
        obtain ⟨G463, A464, nd2_465, rfl, rfl, hW466, hF467, hQ468, e469, p470, p471, -⟩ := hq
        have hF473 := Fr_tr hFx hF467 (Fr_sub (by decide)) (Fr_sub (by decide))
        have hP474 := Pf_tr hPx hQ468 (by omega)
        have bnd2_465 : (0 : Int) ≤ nd2_465 ∧ nd2_465 ≤ 6999 := e469 ▸ hW466.1 31
        refine .inr ⟨_, rfl, ?_⟩
        refine jx_ar (pc' := 300) (st' := [.int (i32 (0)), .int (i32 (nd1)), .int (i32 (24)), .ref 66]) rfl rfl rfl rfl ?_
        refine jx_ar (pc' := 301) (st' := [.int (i32 (0)), .int (i32 (0)), .int (i32 (nd1)), .int (i32 (24)), .ref 66]) rfl rfl rfl rfl ?_
        refine jx_ar (pc' := 302) (st' := [.int (i32 (0)), .int (i32 (0)), .int (i32 (0)), .int (i32 (nd1)), .int (i32 (24)), .ref 66]) rfl rfl rfl rfl ?_
        refine jx_vr (pc' := 305) (as := [.int (i32 (24)), .int (i32 (nd1)), .int (i32 (0)), .int (i32 (0)), .int (i32 (0))]) (st := []) rfl rfl rfl rfl ⟨rfl, rfl, Nat.le_of_ble_eq_true rfl⟩ rfl rfl (c_node (dd := d) (hd := by omega) (hW := hW466) (kind := 24) (a := nd1) (b := 0) (c := 0) (e := 0) (nd := nd2_465) (e_nd := show G463 31 = nd2_465 from (e469))  (h_kind := ⟨(by decide), (by decide)⟩) (h_a := ⟨(Int.le_trans (by decide : (-2147483648 : Int) ≤ 0) b_nd1.1), (Int.le_trans b_nd1.2 (by decide : (6999 : Int) ≤ 2147483647))⟩) (h_b := ⟨(by decide), (by decide)⟩) (h_c := ⟨(by decide), (by decide)⟩) (h_e := ⟨(by decide), (by decide)⟩)  (p_0 := by omega) (p_1 := by omega)) (fun o V' hq => ?_)
        obtain ⟨G475, A476, nd2_477, rfl, rfl, hW478, hF479, hQ480, e481, p482, p483, -⟩ := hq
        have hF485 := Fr_tr hF473 hF479 (Fr_sub (by decide)) (Fr_sub (by decide))
        have hP486 := Pf_tr hP474 hQ480 (by omega)
        have sf487 : ND A476 (nd1) (2) (s) (0) (0) (0) (0) (0) := ND_ag (by omega) (Ag_pf hQ480 (by omega)) p471
        have bnd2_477 : (0 : Int) ≤ nd2_477 ∧ nd2_477 ≤ 6999 := e481 ▸ hW478.1 31
        refine .inr ⟨_, rfl, ?_⟩
        refine jx_ld (pc' := 307) (l' := jSto1 L460 7 (.int (i32 (nd2_465)))) (st' := []) rfl rfl ?_
        obtain ⟨L488, eL488⟩ : ∃ q, q = jSto1 L460 7 (.int (i32 (nd2_465))) := ⟨_, rfl⟩
        rw [← eL488]
        have gL488_0 : jGet L488 0 = some (.ref 66) := eL488 ▸ jg_ne (by decide) gL460_0 rfl
        have gL488_5 : jGet L488 5 = some (.int (i32 (0))) := eL488 ▸ jg_ne (by decide) gL460_5 rfl
        have gL488_4 : jGet L488 4 = some (.int (i32 (0))) := eL488 ▸ jg_ne (by decide) gL460_4 rfl
        have gL488_2 : jGet L488 2 = some (.int (i32 (s))) := eL488 ▸ jg_ne (by decide) gL460_2 rfl
        have gL488_6 : jGet L488 6 = some (.int (i32 (0))) := eL488 ▸ jg_ne (by decide) gL460_6 rfl
        have gL488_7 : jGet L488 7 = some (.int (i32 (nd2_465))) := eL488 ▸ jg_eq
        refine jx_ld (pc' := 308) (l' := L488) (st' := [.ref 66]) rfl (jl_aloadn gL488_0) ?_
        refine jx_vr (pc' := 311) (as := []) (st := []) rfl rfl rfl rfl ⟨rfl, rfl, Nat.le_of_ble_eq_true rfl⟩ rfl rfl (c_next (dd := d) (hd := by omega) (hW := hW478)  (ln := ln) (e_ln := show G475 9 = ln from ((hF479.1 9 rfl).trans ((hF467.1 9 rfl).trans (fx_9)))) (le := le) (e_le := show A476 4 (ln).toNat = le from (congrFun ((hF479.2 4 rfl).trans ((hF467.2 4 rfl).trans (hFx.2 4 rfl))) _).trans (e_le)) (at0 := at1) (e_at0 := show G475 10 = at1 from ((hF479.1 10 rfl).trans ((hF467.1 10 rfl).trans (ex_at1))))    (p_0 := by omega)) (fun o V' hq => ?_)
        obtain ⟨G489, A490, at2_491, tk2_492, rfl, rfl, hW493, hF494, e495, e496, p497, p498, p499, -⟩ := hq
        have hF501 := Fr_tr hF485 hF494 (Fr_sub (by decide)) (Fr_sub (by decide))
        have hP502 := Pf_f hP486 hF494 (by decide)
        have sf503 : ND A490 (nd1) (2) (s) (0) (0) (0) (0) (0) := ND_ag (by omega) (Ag_fr hF494 (by decide)) sf487
        have sf504 : ND A490 (nd2_465) (24) (nd1) (0) (0) (0) (0) (0) := ND_ag (by omega) (Ag_fr hF494 (by decide)) p483
        have bat2_491 : (0 : Int) ≤ at2_491 ∧ at2_491 ≤ 3002 := e495 ▸ hW493.1 10
        have ztk2_492 := tz_b tk2_492
        have btk2_492 : (0 : Int) ≤ tk2_492 ∧ tk2_492 ≤ 5 := e496 ▸ hW493.1 11
        refine .inl ⟨rfl, ?_⟩
        refine jx_ld (pc' := 312) (l' := L488) (st' := [.ref 66]) rfl (jl_aloadn gL488_0) ?_
        refine jr_get (pc' := 315) (i := 35) (v := .ref 85) rfl rfl (by decide) rfl rfl ?_
        refine jx_ld (pc' := 317) (l' := L488) (st' := [.int (i32 (nd2_465)), .ref 85]) rfl (jl_iload gL488_7) ?_
        refine jx_ld (pc' := 319) (l' := L488) (st' := [.int (i32 (0)), .int (i32 (nd2_465)), .ref 85]) rfl (jl_iload gL488_6) ?_
        refine jx_if_eq (pc' := 322) (tg := 329) rfl rfl rfl (by decide) (by decide) (fun h505 => ?_) (fun h505 => ?_)
        · have _q := h505
          refine jx_ld (pc' := 330) (l' := L488) (st' := [.ref 66, .int (i32 (nd2_465)), .ref 85]) rfl (jl_aloadn gL488_0) ?_
          refine jx_ar (pc' := 331) (st' := [.int (i32 (0)), .ref 66, .int (i32 (nd2_465)), .ref 85]) rfl rfl rfl rfl ?_
          refine jx_vr (pc' := 334) (as := [.int (i32 (0))]) (st := [.int (i32 (nd2_465)), .ref 85]) rfl rfl rfl rfl ⟨rfl, rfl, Nat.le_of_ble_eq_true rfl⟩ rfl rfl (c_readReference (dd := d) (hd := by omega) (hW := hW493) (ch := 0) (ln := ln) (e_ln := show G489 9 = ln from ((hF494.1 9 rfl).trans ((hF479.1 9 rfl).trans ((hF467.1 9 rfl).trans (fx_9))))) (le := le) (e_le := show A490 4 (ln).toNat = le from (congrFun ((hF494.2 4 rfl).trans ((hF479.2 4 rfl).trans ((hF467.2 4 rfl).trans (hFx.2 4 rfl)))) _).trans (e_le)) (at0 := at2_491) (e_at0 := show G489 10 = at2_491 from (e495)) (fk := fk1) (e_fk := show G489 16 = fk1 from ((hF494.1 16 rfl).trans ((hF479.1 16 rfl).trans ((hF467.1 16 rfl).trans (ex_fk1))))) (op0 := op1) (e_op0 := show G489 15 = op1 from ((hF494.1 15 rfl).trans ((hF479.1 15 rfl).trans ((hF467.1 15 rfl).trans (ex_op1))))) (nd := nd2_477) (e_nd := show G489 31 = nd2_477 from ((hF494.1 31 rfl).trans (e481))) (tk0 := tk2_492) (e_tk0 := show G489 11 = tk2_492 from (e496)) (i_SV := (SV_ext (((hF494.1 29 rfl).trans ((hF479.1 29 rfl).trans ((hF467.1 29 rfl).trans (hFx.1 29 rfl))))) (((hF494.2 14 rfl).trans ((hF479.2 14 rfl).trans ((hF467.2 14 rfl).trans (hFx.2 14 rfl))))) i_SV)) (h_ch := ⟨(by decide), (by decide)⟩)  (p_0 := by omega) (p_1 := by omega) (p_2 := by omega) (p_3 := by omega) (p_4 := by omega)) (fun o V' hq => ?_)
          obtain ⟨G506, A507, r508, at2_509, fk2_510, op2_511, nd2_512, tk2_513, rfl, rfl, hW514, hF515, hQ516, b517, e518, e519, e520, e521, e522, p523, p524, p525, p526, p527, p528, q529⟩ := hq
          have hF530 := Fr_tr hF501 hF515 (Fr_sub (by decide)) (Fr_sub (by decide))
          have hP531 := Pf_tr hP502 hQ516 (by omega)
          have sf532 : ND A507 (nd1) (2) (s) (0) (0) (0) (0) (0) := ND_ag (by omega) (Ag_pf hQ516 (by omega)) sf503
          have sf533 : ND A507 (nd2_465) (24) (nd1) (0) (0) (0) (0) (0) := ND_ag (by omega) (Ag_pf hQ516 (by omega)) sf504
          have bat2_509 : (0 : Int) ≤ at2_509 ∧ at2_509 ≤ 3002 := e518 ▸ hW514.1 10
          have bfk2_510 : (0 : Int) ≤ fk2_510 ∧ fk2_510 ≤ 6 := e519 ▸ hW514.1 16
          have bop2_511 : (-2147483648 : Int) ≤ op2_511 ∧ op2_511 ≤ 2147483647 := e520 ▸ hW514.1 15
          have bnd2_512 : (0 : Int) ≤ nd2_512 ∧ nd2_512 ≤ 6999 := e521 ▸ hW514.1 31
          have ztk2_513 := tz_b tk2_513
          have btk2_513 : (0 : Int) ≤ tk2_513 ∧ tk2_513 ≤ 5 := e522 ▸ hW514.1 11
          refine .inr ⟨_, rfl, ?_⟩
          rcases q529 with ⟨a534, a535, a536, a537, a538, a539⟩ | ⟨a540, a541, a542⟩ | ⟨a543, a544, a545, a546⟩
          · have _q : True := trivial
            exfalso
            omega
          · have _q : True := trivial
            refine jr_st (pc' := 335) (i := 18) (m := 7000) (z := nd2_465) (y := r508) rfl (by decide) rfl (by decide) (by omega) (by omega) rfl ?_
            have hW548 : Wk G506 (uA A507 18 (nd2_465).toNat (r508)) := Wk_a hW514 (show (-2147483648 : Int) ≤ r508 by omega) (show r508 ≤ (2147483647 : Int) by omega)
            have hF549 := Fr_a (z := r508) (k := 18) (n := (nd2_465).toNat) hF530 (by decide)
            obtain ⟨A547, eA547⟩ : ∃ q, q = uA A507 18 (nd2_465).toNat (r508) := ⟨_, rfl⟩
            rw [← eA547]
            rw [← eA547] at hW548 hF549
            have q550 : A547 18 (nd2_465).toNat = r508 := by rw [eA547]; exact uA_eq
            have hP551 : Pf nd A A547 := eA547 ▸ Pf_a hP531 (z := nd2_465) (by omega) (by omega)
            have sf552 : ND A547 (nd1) (2) (s) (0) (0) (0) (0) (0) := ND_ag (by omega) (Ag_st eA547 (by omega) (by omega)) sf532
            have sf553 : ND A547 (nd2_465) (24) (nd1) (r508) (0) (0) (0) (0) := ND_b eA547 sf533
            refine jx_ld (pc' := 336) (l' := L488) (st' := [.ref 66]) rfl (jl_aloadn gL488_0) ?_
            refine jx_vr (pc' := 339) (as := []) (st := []) rfl rfl rfl rfl ⟨rfl, rfl, Nat.le_of_ble_eq_true rfl⟩ rfl rfl (c_endLine (dd := d) (hd := by omega) (hW := hW548)  (ln := ln) (e_ln := show G506 9 = ln from ((hF515.1 9 rfl).trans ((hF494.1 9 rfl).trans ((hF479.1 9 rfl).trans ((hF467.1 9 rfl).trans (fx_9)))))) (li := li) (e_li := show G506 3 = li from ((hF515.1 3 rfl).trans ((hF494.1 3 rfl).trans ((hF479.1 3 rfl).trans ((hF467.1 3 rfl).trans ((hFx.1 3 rfl).trans (e_li))))))) (fk := fk2_510) (e_fk := show G506 16 = fk2_510 from (e519)) (tk0 := tk2_513) (e_tk0 := show G506 11 = tk2_513 from (e522))    (p_0 := by omega)) (fun o V' hq => ?_)
            obtain ⟨G554, A555, ln2_556, fk2_557, rfl, rfl, hW558, hF559, e560, e561, q562⟩ := hq
            have hF563 := Fr_tr hF549 hF559 (Fr_sub (by decide)) (Fr_sub (by decide))
            have hP564 := Pf_f hP551 hF559 (by decide)
            have sf565 : ND A555 (nd1) (2) (s) (0) (0) (0) (0) (0) := ND_ag (by omega) (Ag_fr hF559 (by decide)) sf552
            have sf566 : ND A555 (nd2_465) (24) (nd1) (r508) (0) (0) (0) (0) := ND_ag (by omega) (Ag_fr hF559 (by decide)) sf553
            have bln2_556 : (0 : Int) ≤ ln2_556 ∧ ln2_556 ≤ 3000 := e560 ▸ hW558.1 9
            have bfk2_557 : (0 : Int) ≤ fk2_557 ∧ fk2_557 ≤ 6 := e561 ▸ hW558.1 16
            refine .inl ⟨rfl, ?_⟩
            rcases q562 with ⟨a567, a568, a569, a570, a571⟩ | ⟨a572, a573⟩
            · have _q : True := trivial
              exfalso
              omega
            · have _q : True := trivial
              refine jx_ld (pc' := 341) (l' := L488) (st' := [.int (i32 (nd2_465))]) rfl (jl_iload gL488_7) ?_
              refine jx_rt (v := some (.int (i32 (nd2_465)))) rfl rfl rfl rfl rfl rfl ?_
              exact ⟨_, _, _, at2_509, fk2_557, nd2_512, ln2_556, rfl, rfl, hW558, hF563, hP564, by omega, ((hF559.1 10 rfl).trans (e518)), (e561), ((hF559.1 31 rfl).trans (e521)), (e560), by omega, by omega, by omega, by omega, by omega, by first | exact Or.inl (⟨by omega, by omega, by omega⟩)⟩
          · have _q : True := trivial
            refine jr_st (pc' := 335) (i := 18) (m := 7000) (z := nd2_465) (y := r508) rfl (by decide) rfl (by decide) (by omega) (by omega) rfl ?_
            have hW575 : Wk G506 (uA A507 18 (nd2_465).toNat (r508)) := Wk_a hW514 (show (-2147483648 : Int) ≤ r508 by omega) (show r508 ≤ (2147483647 : Int) by omega)
            have hF576 := Fr_a (z := r508) (k := 18) (n := (nd2_465).toNat) hF530 (by decide)
            obtain ⟨A574, eA574⟩ : ∃ q, q = uA A507 18 (nd2_465).toNat (r508) := ⟨_, rfl⟩
            rw [← eA574]
            rw [← eA574] at hW575 hF576
            have q577 : A574 18 (nd2_465).toNat = r508 := by rw [eA574]; exact uA_eq
            have hP578 : Pf nd A A574 := eA574 ▸ Pf_a hP531 (z := nd2_465) (by omega) (by omega)
            have sf579 : ND A574 (nd1) (2) (s) (0) (0) (0) (0) (0) := ND_ag (by omega) (Ag_st eA574 (by omega) (by omega)) sf532
            have sf580 : ND A574 (nd2_465) (24) (nd1) (r508) (0) (0) (0) (0) := ND_b eA574 sf533
            have sf581 : wR A574 Vs sb (20) (0) (r508) (nd2_477) (nd2_512) := wR_ag (by omega) (Sg_ne eA574 rfl) (Ag_st eA574 (by omega) (by omega)) a546
            refine jx_ld (pc' := 336) (l' := L488) (st' := [.ref 66]) rfl (jl_aloadn gL488_0) ?_
            refine jx_vr (pc' := 339) (as := []) (st := []) rfl rfl rfl rfl ⟨rfl, rfl, Nat.le_of_ble_eq_true rfl⟩ rfl rfl (c_endLine (dd := d) (hd := by omega) (hW := hW575)  (ln := ln) (e_ln := show G506 9 = ln from ((hF515.1 9 rfl).trans ((hF494.1 9 rfl).trans ((hF479.1 9 rfl).trans ((hF467.1 9 rfl).trans (fx_9)))))) (li := li) (e_li := show G506 3 = li from ((hF515.1 3 rfl).trans ((hF494.1 3 rfl).trans ((hF479.1 3 rfl).trans ((hF467.1 3 rfl).trans ((hFx.1 3 rfl).trans (e_li))))))) (fk := fk2_510) (e_fk := show G506 16 = fk2_510 from (e519)) (tk0 := tk2_513) (e_tk0 := show G506 11 = tk2_513 from (e522))    (p_0 := by omega)) (fun o V' hq => ?_)
            obtain ⟨G582, A583, ln2_584, fk2_585, rfl, rfl, hW586, hF587, e588, e589, q590⟩ := hq
            have hF591 := Fr_tr hF576 hF587 (Fr_sub (by decide)) (Fr_sub (by decide))
            have hP592 := Pf_f hP578 hF587 (by decide)
            have sf593 : ND A583 (nd1) (2) (s) (0) (0) (0) (0) (0) := ND_ag (by omega) (Ag_fr hF587 (by decide)) sf579
            have sf594 : ND A583 (nd2_465) (24) (nd1) (r508) (0) (0) (0) (0) := ND_ag (by omega) (Ag_fr hF587 (by decide)) sf580
            have sf595 : wR A583 Vs sb (20) (0) (r508) (nd2_477) (nd2_512) := wR_ag (by omega) (Sg_fr hF587 (by decide)) (Ag_fr hF587 (by decide)) sf581
            have bln2_584 : (0 : Int) ≤ ln2_584 ∧ ln2_584 ≤ 3000 := e588 ▸ hW586.1 9
            have bfk2_585 : (0 : Int) ≤ fk2_585 ∧ fk2_585 ≤ 6 := e589 ▸ hW586.1 16
            refine .inl ⟨rfl, ?_⟩
            rcases q590 with ⟨a596, a597, a598, a599, a600⟩ | ⟨a601, a602⟩
            · have _q : True := trivial
              refine jx_ld (pc' := 341) (l' := L488) (st' := [.int (i32 (nd2_465))]) rfl (jl_iload gL488_7) ?_
              refine jx_rt (v := some (.int (i32 (nd2_465)))) rfl rfl rfl rfl rfl rfl ?_
              exact ⟨_, _, _, at2_509, fk2_585, nd2_512, ln2_584, rfl, rfl, hW586, hF591, hP592, by omega, ((hF587.1 10 rfl).trans (e518)), (e589), ((hF587.1 31 rfl).trans (e521)), (e588), by omega, by omega, by omega, by omega, by omega, by first | exact Or.inr ((⟨by omega, by omega, by omega, by omega, by omega, (wL_in sf594 (by omega) (by omega) (wR_var sf593 (by omega) (by omega) iv_8 (kq (P := kRef (1)) (show A583 7 (s).toNat = ks from (congrFun ((hF587.2 7 rfl).trans (((congrFun eA574 7).trans (uA_ne (by decide))).trans ((hF515.2 7 rfl).trans ((hF494.2 7 rfl).trans ((hF479.2 7 rfl).trans (hF467.2 7 rfl)))))) _).trans (ex_ks)) (by first | exact .inr ⟨by omega, iv_9⟩))) (wR_mono (by omega) (by omega) (by omega) sf595)), (NX_nd sf594)⟩))⟩
            · have _q : True := trivial
              refine jx_ld (pc' := 341) (l' := L488) (st' := [.int (i32 (nd2_465))]) rfl (jl_iload gL488_7) ?_
              refine jx_rt (v := some (.int (i32 (nd2_465)))) rfl rfl rfl rfl rfl rfl ?_
              exact ⟨_, _, _, at2_509, fk2_585, nd2_512, ln2_584, rfl, rfl, hW586, hF591, hP592, by omega, ((hF587.1 10 rfl).trans (e518)), (e589), ((hF587.1 31 rfl).trans (e521)), (e588), by omega, by omega, by omega, by omega, by omega, by first | exact Or.inl (⟨by omega, by omega, by omega⟩)⟩
        · have _q := h505
          exact absurd h505 (by omega)
      · have _q := h462
        exact absurd h462 (by omega)
    · have _q := h461
      exact absurd h461 (by omega)
set_option maxRecDepth 20000 in
set_option maxHeartbeats 4000000 in
theorem c_readNamed_at_231_1 {X : jX} {d : Nat} {Vs : Nat → Prop} {sb pb : Int} {c0 c1 : jC} {G : Nat → Int} {A : Nat → Nat → Int} {T : jH} {ln le at0 fk op0 nd tk0 li : Int} (hd : 72 ≤ d + 1) (hW : Wk G A) (e_ln : G 9 = ln) (e_le : A 4 (ln).toNat = le) (e_at0 : G 10 = at0) (e_fk : G 16 = fk) (e_op0 : G 15 = op0) (e_nd : G 31 = nd) (e_tk0 : G 11 = tk0) (e_li : G 3 = li) (i_SV : SV Vs sb G A) (i_PQ : PQ Vs sb pb G A) (p_0 : 0 ≤ op0 ∧ op0 ≤ 8) (p_1 : fk = 0) (p_2 : nd ≤ 2 * at0 - tz tk0 + 42) (p_3 : at0 ≤ le) (p_4 : ln < li) (p_5 : tk0 = 1) : ∀ (L : jL) (Gx : Nat → Int) (Ax : Nat → Nat → Int) (pl s ix at1 tk1 fk1 nd1 op1 ks : Int), jGet L 0 = some (.ref 66) → jGet L 5 = some (.int (i32 (1))) → jGet L 3 = some (.int (i32 (ks))) → jGet L 1 = some (.int (i32 pl)) → jGet L 2 = some (.int (i32 s)) → jGet L 4 = some (.int (i32 ix)) → Wk Gx Ax → Fr [9, 10, 11, 12, 13, 14, 15, 16, 17, 18, 31] [15, 16, 17, 18, 19, 20, 21, 22, 24, 28] G A Gx Ax → Pf nd A Ax → Gx 10 = at1 → Gx 11 = tk1 → Gx 16 = fk1 → Gx 31 = nd1 → Gx 15 = op1 → Ax 7 (s).toNat = ks → Gx 9 = ln → ((-2147483648 : Int) ≤ pl ∧ pl ≤ 2147483647) → ((-2147483648 : Int) ≤ s ∧ s ≤ 2147483647) → ((-2147483648 : Int) ≤ ix ∧ ix ≤ 2147483647) → (at0 ≤ at1) → (at1 ≤ le) → (nd ≤ nd1) → (op1 = op0) → (fk1 = 0) → (nd1 - nd ≤ (2 * at1 - tz tk1) - (2 * at0 - tz tk0) - 1) → (tz tk1 = 1) → (0 ≤ s ∧ s ≤ 201) → (-3000 ≤ pl ∧ pl ≤ 3002) → (SY Vs sb (s)) → (wE Ax Vs sb (20) (ix) (nd) (nd1)) → wj X d jm304 (231, L, [], rV c0 c1 Gx Ax T) (fun o V' => ∃ (G' : Nat → Int) (A' : Nat → Nat → Int) (r : Int) (at2 : Int) (fk2 : Int) (nd2 : Int) (ln2 : Int), V' = rV c0 c1 G' A' T ∧ o = .inl (some (.int (i32 r))) ∧ Wk G' A' ∧ Fr [9, 10, 11, 12, 13, 14, 15, 16, 17, 18, 31] [15, 16, 17, 18, 19, 20, 21, 22, 24, 28] G A G' A' ∧ Pf nd A A' ∧ ((-2147483648 : Int) ≤ r ∧ r ≤ 2147483647) ∧ G' 10 = at2 ∧ G' 16 = fk2 ∧ G' 31 = nd2 ∧ G' 9 = ln2 ∧ (at0 ≤ at2) ∧ (at2 ≤ le) ∧ (nd ≤ nd2) ∧ (0 ≤ r) ∧ (r ≤ nd2) ∧ (((1 ≤ fk2) ∧ (ln2 = ln) ∧ (nd2 - nd ≤ 2 * at2 - 2 * at0 + 8)) ∨ ((fk2 = 0) ∧ (ln2 = ln + 1) ∧ (nd2 - nd ≤ 2 * at2 - (2 * at0 - tz tk0) + 0) ∧ (nd ≤ r) ∧ (r < nd2) ∧ (wL A' sb pb Vs (r) (nd) (nd2)) ∧ (NX A' (r))))) := by
  have hF0 : Fr [9, 10, 11, 12, 13, 14, 15, 16, 17, 18, 31] [15, 16, 17, 18, 19, 20, 21, 22, 24, 28] G A G A := Fr_rf
  have hP0 : Pf nd A A := Pf_rf
  have b_ln : (0 : Int) ≤ ln ∧ ln ≤ 3000 := e_ln ▸ hW.1 9
  have b_le : (0 : Int) ≤ le ∧ le ≤ 3000 := e_le ▸ hW.2 4 _
  have b_at0 : (0 : Int) ≤ at0 ∧ at0 ≤ 3002 := e_at0 ▸ hW.1 10
  have b_fk : (0 : Int) ≤ fk ∧ fk ≤ 6 := e_fk ▸ hW.1 16
  have b_op0 : (-2147483648 : Int) ≤ op0 ∧ op0 ≤ 2147483647 := e_op0 ▸ hW.1 15
  have b_nd : (0 : Int) ≤ nd ∧ nd ≤ 6999 := e_nd ▸ hW.1 31
  have z_tk0 := tz_f tk0
  have b_tk0 : (0 : Int) ≤ tk0 ∧ tk0 ≤ 5 := e_tk0 ▸ hW.1 11
  have b_li : (0 : Int) ≤ li ∧ li ≤ 3000 := e_li ▸ hW.1 3
  intro L Gx Ax pl s ix at1 tk1 fk1 nd1 op1 ks gL_0 gL_5 gL_3 gL_1 gL_2 gL_4 hWx hFx hPx ex_at1 ex_tk1 ex_fk1 ex_nd1 ex_op1 ex_ks fx_9 rx_pl rx_s rx_ix iv_0 iv_1 iv_2 iv_3 iv_4 iv_5 iv_6 iv_7 iv_8 iv_9 iv_10
  have b_at1 : (0 : Int) ≤ at1 ∧ at1 ≤ 3002 := ex_at1 ▸ hWx.1 10
  have z_tk1 := tz_f tk1
  have b_tk1 : (0 : Int) ≤ tk1 ∧ tk1 ≤ 5 := ex_tk1 ▸ hWx.1 11
  have b_fk1 : (0 : Int) ≤ fk1 ∧ fk1 ≤ 6 := ex_fk1 ▸ hWx.1 16
  have b_nd1 : (0 : Int) ≤ nd1 ∧ nd1 ≤ 6999 := ex_nd1 ▸ hWx.1 31
  have b_op1 : (-2147483648 : Int) ≤ op1 ∧ op1 ≤ 2147483647 := ex_op1 ▸ hWx.1 15
  have b_ks : (0 : Int) ≤ ks ∧ ks ≤ 14 := ex_ks ▸ hWx.2 7 _
  refine jx_ld (pc' := 233) (l' := L) (st' := [.int (i32 (1))]) rfl (jl_iload gL_5) ?_
  refine jx_if_eq (pc' := 236) (tg := 244) rfl rfl rfl (by decide) (by decide) (fun h603 => ?_) (fun h603 => ?_)
  · have _q := h603
    exact absurd h603 (by omega)
  · have _q := h603
    refine jx_ld (pc' := 237) (l' := L) (st' := [.int (i32 (ks))]) rfl (jl_iloadn gL_3) ?_
    refine jx_ar (pc' := 238) (st' := [.int (i32 (4)), .int (i32 (ks))]) rfl rfl rfl rfl ?_
    refine jx_icmp_eq (pc' := 241) (tg := 259) rfl rfl rfl (Int.le_trans (by decide : (-2147483648 : Int) ≤ 0) b_ks.1) (Int.le_trans b_ks.2 (by decide : (14 : Int) ≤ 2147483647)) (by decide) (by decide) (fun h604 => ?_) (fun h604 => ?_)
    · have _q := h604
      have z605 := tz_f (tk1)
      exact c_readNamed_at_259_1 (X := X) (d := d) (Vs := Vs) (sb := sb) (pb := pb) (c0 := c0) (c1 := c1) (G := G) (A := A) (T := T) (ln := ln) (le := le) (at0 := at0) (fk := fk) (op0 := op0) (nd := nd) (tk0 := tk0) (li := li) (hd := hd) (hW := hW) (e_ln := e_ln) (e_le := e_le) (e_at0 := e_at0) (e_fk := e_fk) (e_op0 := e_op0) (e_nd := e_nd) (e_tk0 := e_tk0) (e_li := e_li) (i_SV := i_SV) (i_PQ := i_PQ) (p_0 := p_0) (p_1 := p_1) (p_2 := p_2) (p_3 := p_3) (p_4 := p_4) (p_5 := p_5) L Gx Ax (s) (ix) (at1) (tk1) (fk1) (nd1) (op1) (ks) gL_0 gL_5 gL_2 gL_4 hWx hFx hPx ((ex_at1)) ((ex_tk1)) ((ex_fk1)) ((ex_nd1)) ((ex_op1)) ((ex_ks)) ((fx_9)) (by omega) (by omega) (by omega) (by omega) (by omega) (by omega) (by omega) (by omega) (by omega) (by omega) (iv_9) (by omega) (iv_10)
    · have _q := h604
      refine jx_go (tg := 251) rfl rfl ?_
      refine jx_ld (pc' := 252) (l' := L) (st' := [.ref 66]) rfl (jl_aloadn gL_0) ?_
      refine jx_ar (pc' := 253) (st' := [.int (i32 (4)), .ref 66]) rfl rfl rfl rfl ?_
      refine jx_ld (pc' := 254) (l' := L) (st' := [.int (i32 (pl)), .int (i32 (4)), .ref 66]) rfl (jl_iloadn gL_1) ?_
      refine jx_vr (pc' := 257) (as := [.int (i32 (4)), .int (i32 (pl))]) (st := []) rfl rfl rfl rfl ⟨rfl, rfl, Nat.le_of_ble_eq_true rfl⟩ rfl rfl (c_fail (dd := d) (hd := by omega) (hW := hWx) (kind := 4) (place := pl) (fk := fk1) (e_fk := show Gx 16 = fk1 from (ex_fk1))  (h_kind := ⟨(by decide), (by decide)⟩) (h_place := ⟨(Int.le_trans (by decide : (-2147483648 : Int) ≤ -2147483648) rx_pl.1), (Int.le_trans rx_pl.2 (by decide : (2147483647 : Int) ≤ 2147483647))⟩)  (p_0 := by omega) (p_1 := by omega)) (fun o V' hq => ?_)
      obtain ⟨G606, A607, fk2_608, rfl, rfl, hW609, hF610, e611, p612, -⟩ := hq
      have hF614 := Fr_tr hFx hF610 (Fr_sub (by decide)) (Fr_sub (by decide))
      have hP615 := Pf_f hPx hF610 (by decide)
      have sf616 : wE A607 Vs sb (20) (ix) (nd) (nd1) := wE_ag (by omega) (Sg_fr hF610 (by decide)) (Ag_fr hF610 (by decide)) iv_10
      have bfk2_608 : (0 : Int) ≤ fk2_608 ∧ fk2_608 ≤ 6 := e611 ▸ hW609.1 16
      refine .inl ⟨rfl, ?_⟩
      refine jx_ar (pc' := 258) (st' := [.int (i32 (0))]) rfl rfl rfl rfl ?_
      refine jx_rt (v := some (.int (i32 (0)))) rfl rfl rfl rfl rfl rfl ?_
      exact ⟨_, _, _, at1, fk2_608, nd1, ln, rfl, rfl, hW609, hF614, hP615, by omega, ((hF610.1 10 rfl).trans (ex_at1)), (e611), ((hF610.1 31 rfl).trans (ex_nd1)), ((hF610.1 9 rfl).trans (fx_9)), by omega, by omega, by omega, by omega, by omega, by first | exact Or.inl (⟨by omega, by omega, by omega⟩)⟩
set_option maxRecDepth 20000 in
set_option maxHeartbeats 4000000 in
theorem c_readNamed_at_231_0 {X : jX} {d : Nat} {Vs : Nat → Prop} {sb pb : Int} {c0 c1 : jC} {G : Nat → Int} {A : Nat → Nat → Int} {T : jH} {ln le at0 fk op0 nd tk0 li : Int} (hd : 72 ≤ d + 1) (hW : Wk G A) (e_ln : G 9 = ln) (e_le : A 4 (ln).toNat = le) (e_at0 : G 10 = at0) (e_fk : G 16 = fk) (e_op0 : G 15 = op0) (e_nd : G 31 = nd) (e_tk0 : G 11 = tk0) (e_li : G 3 = li) (i_SV : SV Vs sb G A) (i_PQ : PQ Vs sb pb G A) (p_0 : 0 ≤ op0 ∧ op0 ≤ 8) (p_1 : fk = 0) (p_2 : nd ≤ 2 * at0 - tz tk0 + 42) (p_3 : at0 ≤ le) (p_4 : ln < li) (p_5 : tk0 = 1) : ∀ (L : jL) (Gx : Nat → Int) (Ax : Nat → Nat → Int) (pl s at1 tk1 fk1 nd1 op1 ks : Int), jGet L 0 = some (.ref 66) → jGet L 5 = some (.int (i32 (0))) → jGet L 3 = some (.int (i32 (ks))) → jGet L 4 = some (.int (i32 (0))) → jGet L 1 = some (.int (i32 pl)) → jGet L 2 = some (.int (i32 s)) → Wk Gx Ax → Fr [9, 10, 11, 12, 13, 14, 15, 16, 17, 18, 31] [15, 16, 17, 18, 19, 20, 21, 22, 24, 28] G A Gx Ax → Pf nd A Ax → Gx 10 = at1 → Gx 11 = tk1 → Gx 16 = fk1 → Gx 31 = nd1 → Gx 15 = op1 → Ax 7 (s).toNat = ks → Gx 9 = ln → ((-2147483648 : Int) ≤ pl ∧ pl ≤ 2147483647) → ((-2147483648 : Int) ≤ s ∧ s ≤ 2147483647) → (at0 ≤ at1) → (at1 ≤ le) → (nd ≤ nd1) → (op1 = op0) → (fk1 = 0) → (nd1 - nd ≤ (2 * at1 - tz tk1) - (2 * at0 - tz tk0) - 1) → (tz tk1 = 1) → (0 ≤ s ∧ s ≤ 201) → (-3000 ≤ pl ∧ pl ≤ 3002) → (SY Vs sb (s)) → wj X d jm304 (231, L, [], rV c0 c1 Gx Ax T) (fun o V' => ∃ (G' : Nat → Int) (A' : Nat → Nat → Int) (r : Int) (at2 : Int) (fk2 : Int) (nd2 : Int) (ln2 : Int), V' = rV c0 c1 G' A' T ∧ o = .inl (some (.int (i32 r))) ∧ Wk G' A' ∧ Fr [9, 10, 11, 12, 13, 14, 15, 16, 17, 18, 31] [15, 16, 17, 18, 19, 20, 21, 22, 24, 28] G A G' A' ∧ Pf nd A A' ∧ ((-2147483648 : Int) ≤ r ∧ r ≤ 2147483647) ∧ G' 10 = at2 ∧ G' 16 = fk2 ∧ G' 31 = nd2 ∧ G' 9 = ln2 ∧ (at0 ≤ at2) ∧ (at2 ≤ le) ∧ (nd ≤ nd2) ∧ (0 ≤ r) ∧ (r ≤ nd2) ∧ (((1 ≤ fk2) ∧ (ln2 = ln) ∧ (nd2 - nd ≤ 2 * at2 - 2 * at0 + 8)) ∨ ((fk2 = 0) ∧ (ln2 = ln + 1) ∧ (nd2 - nd ≤ 2 * at2 - (2 * at0 - tz tk0) + 0) ∧ (nd ≤ r) ∧ (r < nd2) ∧ (wL A' sb pb Vs (r) (nd) (nd2)) ∧ (NX A' (r))))) := by
  have hF0 : Fr [9, 10, 11, 12, 13, 14, 15, 16, 17, 18, 31] [15, 16, 17, 18, 19, 20, 21, 22, 24, 28] G A G A := Fr_rf
  have hP0 : Pf nd A A := Pf_rf
  have b_ln : (0 : Int) ≤ ln ∧ ln ≤ 3000 := e_ln ▸ hW.1 9
  have b_le : (0 : Int) ≤ le ∧ le ≤ 3000 := e_le ▸ hW.2 4 _
  have b_at0 : (0 : Int) ≤ at0 ∧ at0 ≤ 3002 := e_at0 ▸ hW.1 10
  have b_fk : (0 : Int) ≤ fk ∧ fk ≤ 6 := e_fk ▸ hW.1 16
  have b_op0 : (-2147483648 : Int) ≤ op0 ∧ op0 ≤ 2147483647 := e_op0 ▸ hW.1 15
  have b_nd : (0 : Int) ≤ nd ∧ nd ≤ 6999 := e_nd ▸ hW.1 31
  have z_tk0 := tz_f tk0
  have b_tk0 : (0 : Int) ≤ tk0 ∧ tk0 ≤ 5 := e_tk0 ▸ hW.1 11
  have b_li : (0 : Int) ≤ li ∧ li ≤ 3000 := e_li ▸ hW.1 3
  intro L Gx Ax pl s at1 tk1 fk1 nd1 op1 ks gL_0 gL_5 gL_3 gL_4 gL_1 gL_2 hWx hFx hPx ex_at1 ex_tk1 ex_fk1 ex_nd1 ex_op1 ex_ks fx_9 rx_pl rx_s iv_0 iv_1 iv_2 iv_3 iv_4 iv_5 iv_6 iv_7 iv_8 iv_9
  have b_at1 : (0 : Int) ≤ at1 ∧ at1 ≤ 3002 := ex_at1 ▸ hWx.1 10
  have z_tk1 := tz_f tk1
  have b_tk1 : (0 : Int) ≤ tk1 ∧ tk1 ≤ 5 := ex_tk1 ▸ hWx.1 11
  have b_fk1 : (0 : Int) ≤ fk1 ∧ fk1 ≤ 6 := ex_fk1 ▸ hWx.1 16
  have b_nd1 : (0 : Int) ≤ nd1 ∧ nd1 ≤ 6999 := ex_nd1 ▸ hWx.1 31
  have b_op1 : (-2147483648 : Int) ≤ op1 ∧ op1 ≤ 2147483647 := ex_op1 ▸ hWx.1 15
  have b_ks : (0 : Int) ≤ ks ∧ ks ≤ 14 := ex_ks ▸ hWx.2 7 _
  refine jx_ld (pc' := 233) (l' := L) (st' := [.int (i32 (0))]) rfl (jl_iload gL_5) ?_
  refine jx_if_eq (pc' := 236) (tg := 244) rfl rfl rfl (by decide) (by decide) (fun h617 => ?_) (fun h617 => ?_)
  · have _q := h617
    refine jx_ld (pc' := 245) (l' := L) (st' := [.int (i32 (ks))]) rfl (jl_iloadn gL_3) ?_
    refine jx_st (pc' := 248) (as := [.int (i32 (ks))]) (st := []) rfl rfl ⟨rfl, Nat.le_of_ble_eq_true rfl⟩ rfl rfl rfl (c_isChannel (dd := d) (hd := by omega) (k := ks)   (h_k := ⟨(Int.le_trans (by decide : (-2147483648 : Int) ≤ 0) b_ks.1), (Int.le_trans b_ks.2 (by decide : (14 : Int) ≤ 2147483647))⟩)  ) (fun o V' hq => ?_)
    obtain ⟨r618, rfl, rfl, b619, q620⟩ := hq
    refine .inr ⟨_, rfl, ?_⟩
    rcases q620 with ⟨rfl, a621⟩ | rfl
    · have _q : True := trivial
      refine jx_if_ne (pc' := 251) (tg := 259) rfl rfl rfl (by decide) (by decide) (fun h622 => ?_) (fun h622 => ?_)
      · have _q := h622
        have z623 := tz_f (tk1)
        exact c_readNamed_at_259_0 (X := X) (d := d) (Vs := Vs) (sb := sb) (pb := pb) (c0 := c0) (c1 := c1) (G := G) (A := A) (T := T) (ln := ln) (le := le) (at0 := at0) (fk := fk) (op0 := op0) (nd := nd) (tk0 := tk0) (li := li) (hd := hd) (hW := hW) (e_ln := e_ln) (e_le := e_le) (e_at0 := e_at0) (e_fk := e_fk) (e_op0 := e_op0) (e_nd := e_nd) (e_tk0 := e_tk0) (e_li := e_li) (i_SV := i_SV) (i_PQ := i_PQ) (p_0 := p_0) (p_1 := p_1) (p_2 := p_2) (p_3 := p_3) (p_4 := p_4) (p_5 := p_5) L Gx Ax (s) (at1) (tk1) (fk1) (nd1) (op1) (ks) gL_0 gL_5 gL_4 gL_2 hWx hFx hPx ((ex_at1)) ((ex_tk1)) ((ex_fk1)) ((ex_nd1)) ((ex_op1)) ((ex_ks)) ((fx_9)) (by omega) (by omega) (by omega) (by omega) (by omega) (by omega) (by omega) (by omega) (by omega) (iv_9) (a621)
      · have _q := h622
        exact absurd h622 (by omega)
    · have _q : True := trivial
      refine jx_if_ne (pc' := 251) (tg := 259) rfl rfl rfl (by decide) (by decide) (fun h624 => ?_) (fun h624 => ?_)
      · have _q := h624
        exact absurd h624 (by omega)
      · have _q := h624
        refine jx_ld (pc' := 252) (l' := L) (st' := [.ref 66]) rfl (jl_aloadn gL_0) ?_
        refine jx_ar (pc' := 253) (st' := [.int (i32 (4)), .ref 66]) rfl rfl rfl rfl ?_
        refine jx_ld (pc' := 254) (l' := L) (st' := [.int (i32 (pl)), .int (i32 (4)), .ref 66]) rfl (jl_iloadn gL_1) ?_
        refine jx_vr (pc' := 257) (as := [.int (i32 (4)), .int (i32 (pl))]) (st := []) rfl rfl rfl rfl ⟨rfl, rfl, Nat.le_of_ble_eq_true rfl⟩ rfl rfl (c_fail (dd := d) (hd := by omega) (hW := hWx) (kind := 4) (place := pl) (fk := fk1) (e_fk := show Gx 16 = fk1 from (ex_fk1))  (h_kind := ⟨(by decide), (by decide)⟩) (h_place := ⟨(Int.le_trans (by decide : (-2147483648 : Int) ≤ -2147483648) rx_pl.1), (Int.le_trans rx_pl.2 (by decide : (2147483647 : Int) ≤ 2147483647))⟩)  (p_0 := by omega) (p_1 := by omega)) (fun o V' hq => ?_)
        obtain ⟨G625, A626, fk2_627, rfl, rfl, hW628, hF629, e630, p631, -⟩ := hq
        have hF633 := Fr_tr hFx hF629 (Fr_sub (by decide)) (Fr_sub (by decide))
        have hP634 := Pf_f hPx hF629 (by decide)
        have bfk2_627 : (0 : Int) ≤ fk2_627 ∧ fk2_627 ≤ 6 := e630 ▸ hW628.1 16
        refine .inl ⟨rfl, ?_⟩
        refine jx_ar (pc' := 258) (st' := [.int (i32 (0))]) rfl rfl rfl rfl ?_
        refine jx_rt (v := some (.int (i32 (0)))) rfl rfl rfl rfl rfl rfl ?_
        exact ⟨_, _, _, at1, fk2_627, nd1, ln, rfl, rfl, hW628, hF633, hP634, by omega, ((hF629.1 10 rfl).trans (ex_at1)), (e630), ((hF629.1 31 rfl).trans (ex_nd1)), ((hF629.1 9 rfl).trans (fx_9)), by omega, by omega, by omega, by omega, by omega, by first | exact Or.inl (⟨by omega, by omega, by omega⟩)⟩
  · have _q := h617
    exact absurd h617 (by omega)
set_option maxRecDepth 20000 in
set_option maxHeartbeats 4000000 in
theorem c_readNamed_at_150_1 {X : jX} {d : Nat} {Vs : Nat → Prop} {sb pb : Int} {c0 c1 : jC} {G : Nat → Int} {A : Nat → Nat → Int} {T : jH} {ln le at0 fk op0 nd tk0 li : Int} (hd : 72 ≤ d + 1) (hW : Wk G A) (e_ln : G 9 = ln) (e_le : A 4 (ln).toNat = le) (e_at0 : G 10 = at0) (e_fk : G 16 = fk) (e_op0 : G 15 = op0) (e_nd : G 31 = nd) (e_tk0 : G 11 = tk0) (e_li : G 3 = li) (i_SV : SV Vs sb G A) (i_PQ : PQ Vs sb pb G A) (p_0 : 0 ≤ op0 ∧ op0 ≤ 8) (p_1 : fk = 0) (p_2 : nd ≤ 2 * at0 - tz tk0 + 42) (p_3 : at0 ≤ le) (p_4 : ln < li) (p_5 : tk0 = 1) : ∀ (L : jL) (Gx : Nat → Int) (Ax : Nat → Nat → Int) (s ix at1 tk1 fk1 nd1 op1 ks : Int), jGet L 0 = some (.ref 66) → jGet L 5 = some (.int (i32 (1))) → jGet L 2 = some (.int (i32 s)) → jGet L 4 = some (.int (i32 ix)) → Wk Gx Ax → Fr [9, 10, 11, 12, 13, 14, 15, 16, 17, 18, 31] [15, 16, 17, 18, 19, 20, 21, 22, 24, 28] G A Gx Ax → Pf nd A Ax → Gx 10 = at1 → Gx 11 = tk1 → Gx 16 = fk1 → Gx 31 = nd1 → Gx 15 = op1 → Ax 7 (s).toNat = ks → Gx 9 = ln → ((-2147483648 : Int) ≤ s ∧ s ≤ 2147483647) → ((-2147483648 : Int) ≤ ix ∧ ix ≤ 2147483647) → (at0 ≤ at1) → (at1 ≤ le) → (nd ≤ nd1) → (op1 = op0) → (fk1 = 0) → (nd1 - nd ≤ (2 * at1 - tz tk1) - (2 * at0 - tz tk0) - 1) → (tz tk1 = 1) → (0 ≤ s ∧ s ≤ 201) → (SY Vs sb (s)) → (kArr (ks)) → (wE Ax Vs sb (20) (ix) (nd) (nd1)) → wj X d jm304 (150, L, [], rV c0 c1 Gx Ax T) (fun o V' => ∃ (G' : Nat → Int) (A' : Nat → Nat → Int) (r : Int) (at2 : Int) (fk2 : Int) (nd2 : Int) (ln2 : Int), V' = rV c0 c1 G' A' T ∧ o = .inl (some (.int (i32 r))) ∧ Wk G' A' ∧ Fr [9, 10, 11, 12, 13, 14, 15, 16, 17, 18, 31] [15, 16, 17, 18, 19, 20, 21, 22, 24, 28] G A G' A' ∧ Pf nd A A' ∧ ((-2147483648 : Int) ≤ r ∧ r ≤ 2147483647) ∧ G' 10 = at2 ∧ G' 16 = fk2 ∧ G' 31 = nd2 ∧ G' 9 = ln2 ∧ (at0 ≤ at2) ∧ (at2 ≤ le) ∧ (nd ≤ nd2) ∧ (0 ≤ r) ∧ (r ≤ nd2) ∧ (((1 ≤ fk2) ∧ (ln2 = ln) ∧ (nd2 - nd ≤ 2 * at2 - 2 * at0 + 8)) ∨ ((fk2 = 0) ∧ (ln2 = ln + 1) ∧ (nd2 - nd ≤ 2 * at2 - (2 * at0 - tz tk0) + 0) ∧ (nd ≤ r) ∧ (r < nd2) ∧ (wL A' sb pb Vs (r) (nd) (nd2)) ∧ (NX A' (r))))) := by
  have hF0 : Fr [9, 10, 11, 12, 13, 14, 15, 16, 17, 18, 31] [15, 16, 17, 18, 19, 20, 21, 22, 24, 28] G A G A := Fr_rf
  have hP0 : Pf nd A A := Pf_rf
  have b_ln : (0 : Int) ≤ ln ∧ ln ≤ 3000 := e_ln ▸ hW.1 9
  have b_le : (0 : Int) ≤ le ∧ le ≤ 3000 := e_le ▸ hW.2 4 _
  have b_at0 : (0 : Int) ≤ at0 ∧ at0 ≤ 3002 := e_at0 ▸ hW.1 10
  have b_fk : (0 : Int) ≤ fk ∧ fk ≤ 6 := e_fk ▸ hW.1 16
  have b_op0 : (-2147483648 : Int) ≤ op0 ∧ op0 ≤ 2147483647 := e_op0 ▸ hW.1 15
  have b_nd : (0 : Int) ≤ nd ∧ nd ≤ 6999 := e_nd ▸ hW.1 31
  have z_tk0 := tz_f tk0
  have b_tk0 : (0 : Int) ≤ tk0 ∧ tk0 ≤ 5 := e_tk0 ▸ hW.1 11
  have b_li : (0 : Int) ≤ li ∧ li ≤ 3000 := e_li ▸ hW.1 3
  intro L Gx Ax s ix at1 tk1 fk1 nd1 op1 ks gL_0 gL_5 gL_2 gL_4 hWx hFx hPx ex_at1 ex_tk1 ex_fk1 ex_nd1 ex_op1 ex_ks fx_9 rx_s rx_ix iv_0 iv_1 iv_2 iv_3 iv_4 iv_5 iv_6 iv_7 iv_8 iv_9 iv_10
  have b_at1 : (0 : Int) ≤ at1 ∧ at1 ≤ 3002 := ex_at1 ▸ hWx.1 10
  have z_tk1 := tz_f tk1
  have b_tk1 : (0 : Int) ≤ tk1 ∧ tk1 ≤ 5 := ex_tk1 ▸ hWx.1 11
  have b_fk1 : (0 : Int) ≤ fk1 ∧ fk1 ≤ 6 := ex_fk1 ▸ hWx.1 16
  have b_nd1 : (0 : Int) ≤ nd1 ∧ nd1 ≤ 6999 := ex_nd1 ▸ hWx.1 31
  have b_op1 : (-2147483648 : Int) ≤ op1 ∧ op1 ≤ 2147483647 := ex_op1 ▸ hWx.1 15
  have b_ks : (0 : Int) ≤ ks ∧ ks ≤ 14 := ex_ks ▸ hWx.2 7 _
  refine jx_ld (pc' := 151) (l' := L) (st' := [.ref 66]) rfl (jl_aloadn gL_0) ?_
  refine jx_ar (pc' := 153) (st' := [.int (i32 (22)), .ref 66]) rfl rfl rfl rfl ?_
  refine jx_ld (pc' := 154) (l' := L) (st' := [.ref 66, .int (i32 (22)), .ref 66]) rfl (jl_aloadn gL_0) ?_
  refine jx_ld (pc' := 156) (l' := L) (st' := [.int (i32 (1)), .ref 66, .int (i32 (22)), .ref 66]) rfl (jl_iload gL_5) ?_
  refine jx_if_eq (pc' := 159) (tg := 163) rfl rfl rfl (by decide) (by decide) (fun h635 => ?_) (fun h635 => ?_)
  · have _q := h635
    exact absurd h635 (by omega)
  · have _q := h635
    refine jx_ar (pc' := 160) (st' := [.int (i32 (3)), .ref 66, .int (i32 (22)), .ref 66]) rfl rfl rfl rfl ?_
    refine jx_go (tg := 164) rfl rfl ?_
    refine jx_ld (pc' := 165) (l' := L) (st' := [.int (i32 (s)), .int (i32 (3)), .ref 66, .int (i32 (22)), .ref 66]) rfl (jl_iloadn gL_2) ?_
    refine jx_ld (pc' := 167) (l' := L) (st' := [.int (i32 (ix)), .int (i32 (s)), .int (i32 (3)), .ref 66, .int (i32 (22)), .ref 66]) rfl (jl_iload gL_4) ?_
    refine jx_ar (pc' := 168) (st' := [.int (i32 (0)), .int (i32 (ix)), .int (i32 (s)), .int (i32 (3)), .ref 66, .int (i32 (22)), .ref 66]) rfl rfl rfl rfl ?_
    refine jx_ar (pc' := 169) (st' := [.int (i32 (0)), .int (i32 (0)), .int (i32 (ix)), .int (i32 (s)), .int (i32 (3)), .ref 66, .int (i32 (22)), .ref 66]) rfl rfl rfl rfl ?_
    refine jx_vr (pc' := 172) (as := [.int (i32 (3)), .int (i32 (s)), .int (i32 (ix)), .int (i32 (0)), .int (i32 (0))]) (st := [.int (i32 (22)), .ref 66]) rfl rfl rfl rfl ⟨rfl, rfl, Nat.le_of_ble_eq_true rfl⟩ rfl rfl (c_node (dd := d) (hd := by omega) (hW := hWx) (kind := 3) (a := s) (b := ix) (c := 0) (e := 0) (nd := nd1) (e_nd := show Gx 31 = nd1 from (ex_nd1))  (h_kind := ⟨(by decide), (by decide)⟩) (h_a := ⟨(Int.le_trans (by decide : (-2147483648 : Int) ≤ -2147483648) rx_s.1), (Int.le_trans rx_s.2 (by decide : (2147483647 : Int) ≤ 2147483647))⟩) (h_b := ⟨(Int.le_trans (by decide : (-2147483648 : Int) ≤ -2147483648) rx_ix.1), (Int.le_trans rx_ix.2 (by decide : (2147483647 : Int) ≤ 2147483647))⟩) (h_c := ⟨(by decide), (by decide)⟩) (h_e := ⟨(by decide), (by decide)⟩)  (p_0 := by omega) (p_1 := by omega)) (fun o V' hq => ?_)
    obtain ⟨G636, A637, nd2_638, rfl, rfl, hW639, hF640, hQ641, e642, p643, p644, -⟩ := hq
    have hF646 := Fr_tr hFx hF640 (Fr_sub (by decide)) (Fr_sub (by decide))
    have hP647 := Pf_tr hPx hQ641 (by omega)
    have sf648 : wE A637 Vs sb (20) (ix) (nd) (nd1) := wE_ag (by omega) (Sg_fr hF640 (by decide)) (Ag_pf hQ641 (by omega)) iv_10
    have bnd2_638 : (0 : Int) ≤ nd2_638 ∧ nd2_638 ≤ 6999 := e642 ▸ hW639.1 31
    refine .inr ⟨_, rfl, ?_⟩
    refine jx_ar (pc' := 173) (st' := [.int (i32 (0)), .int (i32 (nd1)), .int (i32 (22)), .ref 66]) rfl rfl rfl rfl ?_
    refine jx_ar (pc' := 174) (st' := [.int (i32 (0)), .int (i32 (0)), .int (i32 (nd1)), .int (i32 (22)), .ref 66]) rfl rfl rfl rfl ?_
    refine jx_ar (pc' := 175) (st' := [.int (i32 (0)), .int (i32 (0)), .int (i32 (0)), .int (i32 (nd1)), .int (i32 (22)), .ref 66]) rfl rfl rfl rfl ?_
    refine jx_vr (pc' := 178) (as := [.int (i32 (22)), .int (i32 (nd1)), .int (i32 (0)), .int (i32 (0)), .int (i32 (0))]) (st := []) rfl rfl rfl rfl ⟨rfl, rfl, Nat.le_of_ble_eq_true rfl⟩ rfl rfl (c_node (dd := d) (hd := by omega) (hW := hW639) (kind := 22) (a := nd1) (b := 0) (c := 0) (e := 0) (nd := nd2_638) (e_nd := show G636 31 = nd2_638 from (e642))  (h_kind := ⟨(by decide), (by decide)⟩) (h_a := ⟨(Int.le_trans (by decide : (-2147483648 : Int) ≤ 0) b_nd1.1), (Int.le_trans b_nd1.2 (by decide : (6999 : Int) ≤ 2147483647))⟩) (h_b := ⟨(by decide), (by decide)⟩) (h_c := ⟨(by decide), (by decide)⟩) (h_e := ⟨(by decide), (by decide)⟩)  (p_0 := by omega) (p_1 := by omega)) (fun o V' hq => ?_)
    obtain ⟨G649, A650, nd2_651, rfl, rfl, hW652, hF653, hQ654, e655, p656, p657, -⟩ := hq
    have hF659 := Fr_tr hF646 hF653 (Fr_sub (by decide)) (Fr_sub (by decide))
    have hP660 := Pf_tr hP647 hQ654 (by omega)
    have sf661 : wE A650 Vs sb (20) (ix) (nd) (nd1) := wE_ag (by omega) (Sg_fr hF653 (by decide)) (Ag_pf hQ654 (by omega)) sf648
    have sf662 : ND A650 (nd1) (3) (s) (ix) (0) (0) (0) (0) := ND_ag (by omega) (Ag_pf hQ654 (by omega)) p644
    have bnd2_651 : (0 : Int) ≤ nd2_651 ∧ nd2_651 ≤ 6999 := e655 ▸ hW652.1 31
    refine .inr ⟨_, rfl, ?_⟩
    refine jx_ld (pc' := 180) (l' := jSto1 L 6 (.int (i32 (nd2_638)))) (st' := []) rfl rfl ?_
    obtain ⟨L663, eL663⟩ : ∃ q, q = jSto1 L 6 (.int (i32 (nd2_638))) := ⟨_, rfl⟩
    rw [← eL663]
    have gL663_0 : jGet L663 0 = some (.ref 66) := eL663 ▸ jg_ne (by decide) gL_0 rfl
    have gL663_5 : jGet L663 5 = some (.int (i32 (1))) := eL663 ▸ jg_ne (by decide) gL_5 rfl
    have gL663_2 : jGet L663 2 = some (.int (i32 (s))) := eL663 ▸ jg_ne (by decide) gL_2 rfl
    have gL663_4 : jGet L663 4 = some (.int (i32 (ix))) := eL663 ▸ jg_ne (by decide) gL_4 rfl
    have gL663_6 : jGet L663 6 = some (.int (i32 (nd2_638))) := eL663 ▸ jg_eq
    refine jx_ld (pc' := 181) (l' := L663) (st' := [.ref 66]) rfl (jl_aloadn gL663_0) ?_
    refine jx_vr (pc' := 184) (as := []) (st := []) rfl rfl rfl rfl ⟨rfl, rfl, Nat.le_of_ble_eq_true rfl⟩ rfl rfl (c_next (dd := d) (hd := by omega) (hW := hW652)  (ln := ln) (e_ln := show G649 9 = ln from ((hF653.1 9 rfl).trans ((hF640.1 9 rfl).trans (fx_9)))) (le := le) (e_le := show A650 4 (ln).toNat = le from (congrFun ((hF653.2 4 rfl).trans ((hF640.2 4 rfl).trans (hFx.2 4 rfl))) _).trans (e_le)) (at0 := at1) (e_at0 := show G649 10 = at1 from ((hF653.1 10 rfl).trans ((hF640.1 10 rfl).trans (ex_at1))))    (p_0 := by omega)) (fun o V' hq => ?_)
    obtain ⟨G664, A665, at2_666, tk2_667, rfl, rfl, hW668, hF669, e670, e671, p672, p673, p674, -⟩ := hq
    have hF676 := Fr_tr hF659 hF669 (Fr_sub (by decide)) (Fr_sub (by decide))
    have hP677 := Pf_f hP660 hF669 (by decide)
    have sf678 : wE A665 Vs sb (20) (ix) (nd) (nd1) := wE_ag (by omega) (Sg_fr hF669 (by decide)) (Ag_fr hF669 (by decide)) sf661
    have sf679 : ND A665 (nd1) (3) (s) (ix) (0) (0) (0) (0) := ND_ag (by omega) (Ag_fr hF669 (by decide)) sf662
    have sf680 : ND A665 (nd2_638) (22) (nd1) (0) (0) (0) (0) (0) := ND_ag (by omega) (Ag_fr hF669 (by decide)) p657
    have bat2_666 : (0 : Int) ≤ at2_666 ∧ at2_666 ≤ 3002 := e670 ▸ hW668.1 10
    have ztk2_667 := tz_b tk2_667
    have btk2_667 : (0 : Int) ≤ tk2_667 ∧ tk2_667 ≤ 5 := e671 ▸ hW668.1 11
    refine .inl ⟨rfl, ?_⟩
    refine jx_ld (pc' := 185) (l' := L663) (st' := [.ref 66]) rfl (jl_aloadn gL663_0) ?_
    refine jr_get (pc' := 188) (i := 35) (v := .ref 85) rfl rfl (by decide) rfl rfl ?_
    refine jx_ld (pc' := 190) (l' := L663) (st' := [.int (i32 (nd2_638)), .ref 85]) rfl (jl_iload gL663_6) ?_
    refine jx_ld (pc' := 191) (l' := L663) (st' := [.ref 66, .int (i32 (nd2_638)), .ref 85]) rfl (jl_aloadn gL663_0) ?_
    refine jx_vr (pc' := 194) (as := []) (st := [.int (i32 (nd2_638)), .ref 85]) rfl rfl rfl rfl ⟨rfl, rfl, Nat.le_of_ble_eq_true rfl⟩ rfl rfl (RE_all X 9 (dd := d) (hd := by omega) (hW := hW668)  (ln := ln) (e_ln := show G664 9 = ln from ((hF669.1 9 rfl).trans ((hF653.1 9 rfl).trans ((hF640.1 9 rfl).trans (fx_9))))) (le := le) (e_le := show A665 4 (ln).toNat = le from (congrFun ((hF669.2 4 rfl).trans ((hF653.2 4 rfl).trans ((hF640.2 4 rfl).trans (hFx.2 4 rfl)))) _).trans (e_le)) (at0 := at2_666) (e_at0 := show G664 10 = at2_666 from (e670)) (fk := fk1) (e_fk := show G664 16 = fk1 from ((hF669.1 16 rfl).trans ((hF653.1 16 rfl).trans ((hF640.1 16 rfl).trans (ex_fk1))))) (op0 := op1) (e_op0 := show G664 15 = op1 from ((hF669.1 15 rfl).trans ((hF653.1 15 rfl).trans ((hF640.1 15 rfl).trans (ex_op1))))) (nd := nd2_651) (e_nd := show G664 31 = nd2_651 from ((hF669.1 31 rfl).trans (e655))) (tk0 := tk2_667) (e_tk0 := show G664 11 = tk2_667 from (e671)) (i_SV := (SV_ext (((hF669.1 29 rfl).trans ((hF653.1 29 rfl).trans ((hF640.1 29 rfl).trans (hFx.1 29 rfl))))) (((hF669.2 14 rfl).trans ((hF653.2 14 rfl).trans ((hF640.2 14 rfl).trans (hFx.2 14 rfl))))) i_SV))   (p_0 := by omega) (p_1 := by omega) (p_2 := by omega) (p_3 := by omega) (p_4 := by omega) (p_5 := by omega)) (fun o V' hq => ?_)
    obtain ⟨G681, A682, r683, at2_684, fk2_685, op2_686, nd2_687, tk2_688, rfl, rfl, hW689, hF690, hQ691, b692, e693, e694, e695, e696, e697, p698, p699, p700, p701, p702, p703, q704⟩ := hq
    have hF705 := Fr_tr hF676 hF690 (Fr_sub (by decide)) (Fr_sub (by decide))
    have hP706 := Pf_tr hP677 hQ691 (by omega)
    have sf707 : wE A682 Vs sb (20) (ix) (nd) (nd1) := wE_ag (by omega) (Sg_fr hF690 (by decide)) (Ag_pf hQ691 (by omega)) sf678
    have sf708 : ND A682 (nd1) (3) (s) (ix) (0) (0) (0) (0) := ND_ag (by omega) (Ag_pf hQ691 (by omega)) sf679
    have sf709 : ND A682 (nd2_638) (22) (nd1) (0) (0) (0) (0) (0) := ND_ag (by omega) (Ag_pf hQ691 (by omega)) sf680
    have bat2_684 : (0 : Int) ≤ at2_684 ∧ at2_684 ≤ 3002 := e693 ▸ hW689.1 10
    have bfk2_685 : (0 : Int) ≤ fk2_685 ∧ fk2_685 ≤ 6 := e694 ▸ hW689.1 16
    have bop2_686 : (-2147483648 : Int) ≤ op2_686 ∧ op2_686 ≤ 2147483647 := e695 ▸ hW689.1 15
    have bnd2_687 : (0 : Int) ≤ nd2_687 ∧ nd2_687 ≤ 6999 := e696 ▸ hW689.1 31
    have ztk2_688 := tz_b tk2_688
    have btk2_688 : (0 : Int) ≤ tk2_688 ∧ tk2_688 ≤ 5 := e697 ▸ hW689.1 11
    refine .inr ⟨_, rfl, ?_⟩
    rcases q704 with ⟨a710, a711, a712, a713, a714, a715⟩ | ⟨a716, a717, a718⟩ | ⟨a719, a720, a721, a722⟩
    · have _q : True := trivial
      exfalso
      omega
    · have _q : True := trivial
      refine jr_st (pc' := 195) (i := 18) (m := 7000) (z := nd2_638) (y := r683) rfl (by decide) rfl (by decide) (by omega) (by omega) rfl ?_
      have hW724 : Wk G681 (uA A682 18 (nd2_638).toNat (r683)) := Wk_a hW689 (show (-2147483648 : Int) ≤ r683 by omega) (show r683 ≤ (2147483647 : Int) by omega)
      have hF725 := Fr_a (z := r683) (k := 18) (n := (nd2_638).toNat) hF705 (by decide)
      obtain ⟨A723, eA723⟩ : ∃ q, q = uA A682 18 (nd2_638).toNat (r683) := ⟨_, rfl⟩
      rw [← eA723]
      rw [← eA723] at hW724 hF725
      have q726 : A723 18 (nd2_638).toNat = r683 := by rw [eA723]; exact uA_eq
      have hP727 : Pf nd A A723 := eA723 ▸ Pf_a hP706 (z := nd2_638) (by omega) (by omega)
      have sf728 : wE A723 Vs sb (20) (ix) (nd) (nd1) := wE_ag (by omega) (Sg_ne eA723 rfl) (Ag_st eA723 (by omega) (by omega)) sf707
      have sf729 : ND A723 (nd1) (3) (s) (ix) (0) (0) (0) (0) := ND_ag (by omega) (Ag_st eA723 (by omega) (by omega)) sf708
      have sf730 : ND A723 (nd2_638) (22) (nd1) (r683) (0) (0) (0) (0) := ND_b eA723 sf709
      refine jx_ld (pc' := 196) (l' := L663) (st' := [.ref 66]) rfl (jl_aloadn gL663_0) ?_
      refine jx_vr (pc' := 199) (as := []) (st := []) rfl rfl rfl rfl ⟨rfl, rfl, Nat.le_of_ble_eq_true rfl⟩ rfl rfl (c_endLine (dd := d) (hd := by omega) (hW := hW724)  (ln := ln) (e_ln := show G681 9 = ln from ((hF690.1 9 rfl).trans ((hF669.1 9 rfl).trans ((hF653.1 9 rfl).trans ((hF640.1 9 rfl).trans (fx_9)))))) (li := li) (e_li := show G681 3 = li from ((hF690.1 3 rfl).trans ((hF669.1 3 rfl).trans ((hF653.1 3 rfl).trans ((hF640.1 3 rfl).trans ((hFx.1 3 rfl).trans (e_li))))))) (fk := fk2_685) (e_fk := show G681 16 = fk2_685 from (e694)) (tk0 := tk2_688) (e_tk0 := show G681 11 = tk2_688 from (e697))    (p_0 := by omega)) (fun o V' hq => ?_)
      obtain ⟨G731, A732, ln2_733, fk2_734, rfl, rfl, hW735, hF736, e737, e738, q739⟩ := hq
      have hF740 := Fr_tr hF725 hF736 (Fr_sub (by decide)) (Fr_sub (by decide))
      have hP741 := Pf_f hP727 hF736 (by decide)
      have sf742 : wE A732 Vs sb (20) (ix) (nd) (nd1) := wE_ag (by omega) (Sg_fr hF736 (by decide)) (Ag_fr hF736 (by decide)) sf728
      have sf743 : ND A732 (nd1) (3) (s) (ix) (0) (0) (0) (0) := ND_ag (by omega) (Ag_fr hF736 (by decide)) sf729
      have sf744 : ND A732 (nd2_638) (22) (nd1) (r683) (0) (0) (0) (0) := ND_ag (by omega) (Ag_fr hF736 (by decide)) sf730
      have bln2_733 : (0 : Int) ≤ ln2_733 ∧ ln2_733 ≤ 3000 := e737 ▸ hW735.1 9
      have bfk2_734 : (0 : Int) ≤ fk2_734 ∧ fk2_734 ≤ 6 := e738 ▸ hW735.1 16
      refine .inl ⟨rfl, ?_⟩
      rcases q739 with ⟨a745, a746, a747, a748, a749⟩ | ⟨a750, a751⟩
      · have _q : True := trivial
        exfalso
        omega
      · have _q : True := trivial
        refine jx_ld (pc' := 201) (l' := L663) (st' := [.int (i32 (nd2_638))]) rfl (jl_iload gL663_6) ?_
        refine jx_rt (v := some (.int (i32 (nd2_638)))) rfl rfl rfl rfl rfl rfl ?_
        exact ⟨_, _, _, at2_684, fk2_734, nd2_687, ln2_733, rfl, rfl, hW735, hF740, hP741, by omega, ((hF736.1 10 rfl).trans (e693)), (e738), ((hF736.1 31 rfl).trans (e696)), (e737), by omega, by omega, by omega, by omega, by omega, by first | exact Or.inl (⟨by omega, by omega, by omega⟩)⟩
    · have _q : True := trivial
      refine jr_st (pc' := 195) (i := 18) (m := 7000) (z := nd2_638) (y := r683) rfl (by decide) rfl (by decide) (by omega) (by omega) rfl ?_
      have hW753 : Wk G681 (uA A682 18 (nd2_638).toNat (r683)) := Wk_a hW689 (show (-2147483648 : Int) ≤ r683 by omega) (show r683 ≤ (2147483647 : Int) by omega)
      have hF754 := Fr_a (z := r683) (k := 18) (n := (nd2_638).toNat) hF705 (by decide)
      obtain ⟨A752, eA752⟩ : ∃ q, q = uA A682 18 (nd2_638).toNat (r683) := ⟨_, rfl⟩
      rw [← eA752]
      rw [← eA752] at hW753 hF754
      have q755 : A752 18 (nd2_638).toNat = r683 := by rw [eA752]; exact uA_eq
      have hP756 : Pf nd A A752 := eA752 ▸ Pf_a hP706 (z := nd2_638) (by omega) (by omega)
      have sf757 : wE A752 Vs sb (20) (ix) (nd) (nd1) := wE_ag (by omega) (Sg_ne eA752 rfl) (Ag_st eA752 (by omega) (by omega)) sf707
      have sf758 : ND A752 (nd1) (3) (s) (ix) (0) (0) (0) (0) := ND_ag (by omega) (Ag_st eA752 (by omega) (by omega)) sf708
      have sf759 : ND A752 (nd2_638) (22) (nd1) (r683) (0) (0) (0) (0) := ND_b eA752 sf709
      have sf760 : wE A752 Vs sb (2 * 9 + 2) (r683) (nd2_651) (nd2_687) := wE_ag (by omega) (Sg_ne eA752 rfl) (Ag_st eA752 (by omega) (by omega)) a722
      refine jx_ld (pc' := 196) (l' := L663) (st' := [.ref 66]) rfl (jl_aloadn gL663_0) ?_
      refine jx_vr (pc' := 199) (as := []) (st := []) rfl rfl rfl rfl ⟨rfl, rfl, Nat.le_of_ble_eq_true rfl⟩ rfl rfl (c_endLine (dd := d) (hd := by omega) (hW := hW753)  (ln := ln) (e_ln := show G681 9 = ln from ((hF690.1 9 rfl).trans ((hF669.1 9 rfl).trans ((hF653.1 9 rfl).trans ((hF640.1 9 rfl).trans (fx_9)))))) (li := li) (e_li := show G681 3 = li from ((hF690.1 3 rfl).trans ((hF669.1 3 rfl).trans ((hF653.1 3 rfl).trans ((hF640.1 3 rfl).trans ((hFx.1 3 rfl).trans (e_li))))))) (fk := fk2_685) (e_fk := show G681 16 = fk2_685 from (e694)) (tk0 := tk2_688) (e_tk0 := show G681 11 = tk2_688 from (e697))    (p_0 := by omega)) (fun o V' hq => ?_)
      obtain ⟨G761, A762, ln2_763, fk2_764, rfl, rfl, hW765, hF766, e767, e768, q769⟩ := hq
      have hF770 := Fr_tr hF754 hF766 (Fr_sub (by decide)) (Fr_sub (by decide))
      have hP771 := Pf_f hP756 hF766 (by decide)
      have sf772 : wE A762 Vs sb (20) (ix) (nd) (nd1) := wE_ag (by omega) (Sg_fr hF766 (by decide)) (Ag_fr hF766 (by decide)) sf757
      have sf773 : ND A762 (nd1) (3) (s) (ix) (0) (0) (0) (0) := ND_ag (by omega) (Ag_fr hF766 (by decide)) sf758
      have sf774 : ND A762 (nd2_638) (22) (nd1) (r683) (0) (0) (0) (0) := ND_ag (by omega) (Ag_fr hF766 (by decide)) sf759
      have sf775 : wE A762 Vs sb (2 * 9 + 2) (r683) (nd2_651) (nd2_687) := wE_ag (by omega) (Sg_fr hF766 (by decide)) (Ag_fr hF766 (by decide)) sf760
      have bln2_763 : (0 : Int) ≤ ln2_763 ∧ ln2_763 ≤ 3000 := e767 ▸ hW765.1 9
      have bfk2_764 : (0 : Int) ≤ fk2_764 ∧ fk2_764 ≤ 6 := e768 ▸ hW765.1 16
      refine .inl ⟨rfl, ?_⟩
      rcases q769 with ⟨a776, a777, a778, a779, a780⟩ | ⟨a781, a782⟩
      · have _q : True := trivial
        refine jx_ld (pc' := 201) (l' := L663) (st' := [.int (i32 (nd2_638))]) rfl (jl_iload gL663_6) ?_
        refine jx_rt (v := some (.int (i32 (nd2_638)))) rfl rfl rfl rfl rfl rfl ?_
        exact ⟨_, _, _, at2_684, fk2_764, nd2_687, ln2_763, rfl, rfl, hW765, hF770, hP771, by omega, ((hF766.1 10 rfl).trans (e693)), (e768), ((hF766.1 31 rfl).trans (e696)), (e767), by omega, by omega, by omega, by omega, by omega, by first | exact Or.inr ((⟨by omega, by omega, by omega, by omega, by omega, (wL_set sf774 (by omega) (by omega) (wR_elem sf773 (by omega) (by omega) iv_8 (kq (P := kRow (0)) (show A762 7 (s).toNat = ks from (congrFun ((hF766.2 7 rfl).trans (((congrFun eA752 7).trans (uA_ne (by decide))).trans ((hF690.2 7 rfl).trans ((hF669.2 7 rfl).trans ((hF653.2 7 rfl).trans (hF640.2 7 rfl)))))) _).trans (ex_ks)) (by first | exact .inl ⟨by omega, iv_9⟩ | exact .inr ⟨by omega, by omega⟩)) (wE_mono (by omega) (by omega) (by omega) sf772)) (wE_mono (by omega) (by omega) (by omega) sf775)), (NX_nd sf774)⟩))⟩
      · have _q : True := trivial
        refine jx_ld (pc' := 201) (l' := L663) (st' := [.int (i32 (nd2_638))]) rfl (jl_iload gL663_6) ?_
        refine jx_rt (v := some (.int (i32 (nd2_638)))) rfl rfl rfl rfl rfl rfl ?_
        exact ⟨_, _, _, at2_684, fk2_764, nd2_687, ln2_763, rfl, rfl, hW765, hF770, hP771, by omega, ((hF766.1 10 rfl).trans (e693)), (e768), ((hF766.1 31 rfl).trans (e696)), (e767), by omega, by omega, by omega, by omega, by omega, by first | exact Or.inl (⟨by omega, by omega, by omega⟩)⟩
set_option maxRecDepth 20000 in
set_option maxHeartbeats 4000000 in
theorem c_readNamed_at_150_0 {X : jX} {d : Nat} {Vs : Nat → Prop} {sb pb : Int} {c0 c1 : jC} {G : Nat → Int} {A : Nat → Nat → Int} {T : jH} {ln le at0 fk op0 nd tk0 li : Int} (hd : 72 ≤ d + 1) (hW : Wk G A) (e_ln : G 9 = ln) (e_le : A 4 (ln).toNat = le) (e_at0 : G 10 = at0) (e_fk : G 16 = fk) (e_op0 : G 15 = op0) (e_nd : G 31 = nd) (e_tk0 : G 11 = tk0) (e_li : G 3 = li) (i_SV : SV Vs sb G A) (i_PQ : PQ Vs sb pb G A) (p_0 : 0 ≤ op0 ∧ op0 ≤ 8) (p_1 : fk = 0) (p_2 : nd ≤ 2 * at0 - tz tk0 + 42) (p_3 : at0 ≤ le) (p_4 : ln < li) (p_5 : tk0 = 1) : ∀ (L : jL) (Gx : Nat → Int) (Ax : Nat → Nat → Int) (s at1 tk1 fk1 nd1 op1 ks : Int), jGet L 0 = some (.ref 66) → jGet L 5 = some (.int (i32 (0))) → jGet L 4 = some (.int (i32 (0))) → jGet L 2 = some (.int (i32 s)) → Wk Gx Ax → Fr [9, 10, 11, 12, 13, 14, 15, 16, 17, 18, 31] [15, 16, 17, 18, 19, 20, 21, 22, 24, 28] G A Gx Ax → Pf nd A Ax → Gx 10 = at1 → Gx 11 = tk1 → Gx 16 = fk1 → Gx 31 = nd1 → Gx 15 = op1 → Ax 7 (s).toNat = ks → Gx 9 = ln → ((-2147483648 : Int) ≤ s ∧ s ≤ 2147483647) → (at0 ≤ at1) → (at1 ≤ le) → (nd ≤ nd1) → (op1 = op0) → (fk1 = 0) → (nd1 - nd ≤ (2 * at1 - tz tk1) - (2 * at0 - tz tk0) - 1) → (tz tk1 = 1) → (0 ≤ s ∧ s ≤ 201) → (SY Vs sb (s)) → (kVar (ks)) → wj X d jm304 (150, L, [], rV c0 c1 Gx Ax T) (fun o V' => ∃ (G' : Nat → Int) (A' : Nat → Nat → Int) (r : Int) (at2 : Int) (fk2 : Int) (nd2 : Int) (ln2 : Int), V' = rV c0 c1 G' A' T ∧ o = .inl (some (.int (i32 r))) ∧ Wk G' A' ∧ Fr [9, 10, 11, 12, 13, 14, 15, 16, 17, 18, 31] [15, 16, 17, 18, 19, 20, 21, 22, 24, 28] G A G' A' ∧ Pf nd A A' ∧ ((-2147483648 : Int) ≤ r ∧ r ≤ 2147483647) ∧ G' 10 = at2 ∧ G' 16 = fk2 ∧ G' 31 = nd2 ∧ G' 9 = ln2 ∧ (at0 ≤ at2) ∧ (at2 ≤ le) ∧ (nd ≤ nd2) ∧ (0 ≤ r) ∧ (r ≤ nd2) ∧ (((1 ≤ fk2) ∧ (ln2 = ln) ∧ (nd2 - nd ≤ 2 * at2 - 2 * at0 + 8)) ∨ ((fk2 = 0) ∧ (ln2 = ln + 1) ∧ (nd2 - nd ≤ 2 * at2 - (2 * at0 - tz tk0) + 0) ∧ (nd ≤ r) ∧ (r < nd2) ∧ (wL A' sb pb Vs (r) (nd) (nd2)) ∧ (NX A' (r))))) := by
  have hF0 : Fr [9, 10, 11, 12, 13, 14, 15, 16, 17, 18, 31] [15, 16, 17, 18, 19, 20, 21, 22, 24, 28] G A G A := Fr_rf
  have hP0 : Pf nd A A := Pf_rf
  have b_ln : (0 : Int) ≤ ln ∧ ln ≤ 3000 := e_ln ▸ hW.1 9
  have b_le : (0 : Int) ≤ le ∧ le ≤ 3000 := e_le ▸ hW.2 4 _
  have b_at0 : (0 : Int) ≤ at0 ∧ at0 ≤ 3002 := e_at0 ▸ hW.1 10
  have b_fk : (0 : Int) ≤ fk ∧ fk ≤ 6 := e_fk ▸ hW.1 16
  have b_op0 : (-2147483648 : Int) ≤ op0 ∧ op0 ≤ 2147483647 := e_op0 ▸ hW.1 15
  have b_nd : (0 : Int) ≤ nd ∧ nd ≤ 6999 := e_nd ▸ hW.1 31
  have z_tk0 := tz_f tk0
  have b_tk0 : (0 : Int) ≤ tk0 ∧ tk0 ≤ 5 := e_tk0 ▸ hW.1 11
  have b_li : (0 : Int) ≤ li ∧ li ≤ 3000 := e_li ▸ hW.1 3
  intro L Gx Ax s at1 tk1 fk1 nd1 op1 ks gL_0 gL_5 gL_4 gL_2 hWx hFx hPx ex_at1 ex_tk1 ex_fk1 ex_nd1 ex_op1 ex_ks fx_9 rx_s iv_0 iv_1 iv_2 iv_3 iv_4 iv_5 iv_6 iv_7 iv_8 iv_9
  have b_at1 : (0 : Int) ≤ at1 ∧ at1 ≤ 3002 := ex_at1 ▸ hWx.1 10
  have z_tk1 := tz_f tk1
  have b_tk1 : (0 : Int) ≤ tk1 ∧ tk1 ≤ 5 := ex_tk1 ▸ hWx.1 11
  have b_fk1 : (0 : Int) ≤ fk1 ∧ fk1 ≤ 6 := ex_fk1 ▸ hWx.1 16
  have b_nd1 : (0 : Int) ≤ nd1 ∧ nd1 ≤ 6999 := ex_nd1 ▸ hWx.1 31
  have b_op1 : (-2147483648 : Int) ≤ op1 ∧ op1 ≤ 2147483647 := ex_op1 ▸ hWx.1 15
  have b_ks : (0 : Int) ≤ ks ∧ ks ≤ 14 := ex_ks ▸ hWx.2 7 _
  refine jx_ld (pc' := 151) (l' := L) (st' := [.ref 66]) rfl (jl_aloadn gL_0) ?_
  refine jx_ar (pc' := 153) (st' := [.int (i32 (22)), .ref 66]) rfl rfl rfl rfl ?_
  refine jx_ld (pc' := 154) (l' := L) (st' := [.ref 66, .int (i32 (22)), .ref 66]) rfl (jl_aloadn gL_0) ?_
  refine jx_ld (pc' := 156) (l' := L) (st' := [.int (i32 (0)), .ref 66, .int (i32 (22)), .ref 66]) rfl (jl_iload gL_5) ?_
  refine jx_if_eq (pc' := 159) (tg := 163) rfl rfl rfl (by decide) (by decide) (fun h783 => ?_) (fun h783 => ?_)
  · have _q := h783
    refine jx_ar (pc' := 164) (st' := [.int (i32 (2)), .ref 66, .int (i32 (22)), .ref 66]) rfl rfl rfl rfl ?_
    refine jx_ld (pc' := 165) (l' := L) (st' := [.int (i32 (s)), .int (i32 (2)), .ref 66, .int (i32 (22)), .ref 66]) rfl (jl_iloadn gL_2) ?_
    refine jx_ld (pc' := 167) (l' := L) (st' := [.int (i32 (0)), .int (i32 (s)), .int (i32 (2)), .ref 66, .int (i32 (22)), .ref 66]) rfl (jl_iload gL_4) ?_
    refine jx_ar (pc' := 168) (st' := [.int (i32 (0)), .int (i32 (0)), .int (i32 (s)), .int (i32 (2)), .ref 66, .int (i32 (22)), .ref 66]) rfl rfl rfl rfl ?_
    refine jx_ar (pc' := 169) (st' := [.int (i32 (0)), .int (i32 (0)), .int (i32 (0)), .int (i32 (s)), .int (i32 (2)), .ref 66, .int (i32 (22)), .ref 66]) rfl rfl rfl rfl ?_
    refine jx_vr (pc' := 172) (as := [.int (i32 (2)), .int (i32 (s)), .int (i32 (0)), .int (i32 (0)), .int (i32 (0))]) (st := [.int (i32 (22)), .ref 66]) rfl rfl rfl rfl ⟨rfl, rfl, Nat.le_of_ble_eq_true rfl⟩ rfl rfl (c_node (dd := d) (hd := by omega) (hW := hWx) (kind := 2) (a := s) (b := 0) (c := 0) (e := 0) (nd := nd1) (e_nd := show Gx 31 = nd1 from (ex_nd1))  (h_kind := ⟨(by decide), (by decide)⟩) (h_a := ⟨(Int.le_trans (by decide : (-2147483648 : Int) ≤ -2147483648) rx_s.1), (Int.le_trans rx_s.2 (by decide : (2147483647 : Int) ≤ 2147483647))⟩) (h_b := ⟨(by decide), (by decide)⟩) (h_c := ⟨(by decide), (by decide)⟩) (h_e := ⟨(by decide), (by decide)⟩)  (p_0 := by omega) (p_1 := by omega)) (fun o V' hq => ?_)
    obtain ⟨G784, A785, nd2_786, rfl, rfl, hW787, hF788, hQ789, e790, p791, p792, -⟩ := hq
    have hF794 := Fr_tr hFx hF788 (Fr_sub (by decide)) (Fr_sub (by decide))
    have hP795 := Pf_tr hPx hQ789 (by omega)
    have bnd2_786 : (0 : Int) ≤ nd2_786 ∧ nd2_786 ≤ 6999 := e790 ▸ hW787.1 31
    refine .inr ⟨_, rfl, ?_⟩
    refine jx_ar (pc' := 173) (st' := [.int (i32 (0)), .int (i32 (nd1)), .int (i32 (22)), .ref 66]) rfl rfl rfl rfl ?_
    refine jx_ar (pc' := 174) (st' := [.int (i32 (0)), .int (i32 (0)), .int (i32 (nd1)), .int (i32 (22)), .ref 66]) rfl rfl rfl rfl ?_
    refine jx_ar (pc' := 175) (st' := [.int (i32 (0)), .int (i32 (0)), .int (i32 (0)), .int (i32 (nd1)), .int (i32 (22)), .ref 66]) rfl rfl rfl rfl ?_
    refine jx_vr (pc' := 178) (as := [.int (i32 (22)), .int (i32 (nd1)), .int (i32 (0)), .int (i32 (0)), .int (i32 (0))]) (st := []) rfl rfl rfl rfl ⟨rfl, rfl, Nat.le_of_ble_eq_true rfl⟩ rfl rfl (c_node (dd := d) (hd := by omega) (hW := hW787) (kind := 22) (a := nd1) (b := 0) (c := 0) (e := 0) (nd := nd2_786) (e_nd := show G784 31 = nd2_786 from (e790))  (h_kind := ⟨(by decide), (by decide)⟩) (h_a := ⟨(Int.le_trans (by decide : (-2147483648 : Int) ≤ 0) b_nd1.1), (Int.le_trans b_nd1.2 (by decide : (6999 : Int) ≤ 2147483647))⟩) (h_b := ⟨(by decide), (by decide)⟩) (h_c := ⟨(by decide), (by decide)⟩) (h_e := ⟨(by decide), (by decide)⟩)  (p_0 := by omega) (p_1 := by omega)) (fun o V' hq => ?_)
    obtain ⟨G796, A797, nd2_798, rfl, rfl, hW799, hF800, hQ801, e802, p803, p804, -⟩ := hq
    have hF806 := Fr_tr hF794 hF800 (Fr_sub (by decide)) (Fr_sub (by decide))
    have hP807 := Pf_tr hP795 hQ801 (by omega)
    have sf808 : ND A797 (nd1) (2) (s) (0) (0) (0) (0) (0) := ND_ag (by omega) (Ag_pf hQ801 (by omega)) p792
    have bnd2_798 : (0 : Int) ≤ nd2_798 ∧ nd2_798 ≤ 6999 := e802 ▸ hW799.1 31
    refine .inr ⟨_, rfl, ?_⟩
    refine jx_ld (pc' := 180) (l' := jSto1 L 6 (.int (i32 (nd2_786)))) (st' := []) rfl rfl ?_
    obtain ⟨L809, eL809⟩ : ∃ q, q = jSto1 L 6 (.int (i32 (nd2_786))) := ⟨_, rfl⟩
    rw [← eL809]
    have gL809_0 : jGet L809 0 = some (.ref 66) := eL809 ▸ jg_ne (by decide) gL_0 rfl
    have gL809_5 : jGet L809 5 = some (.int (i32 (0))) := eL809 ▸ jg_ne (by decide) gL_5 rfl
    have gL809_4 : jGet L809 4 = some (.int (i32 (0))) := eL809 ▸ jg_ne (by decide) gL_4 rfl
    have gL809_2 : jGet L809 2 = some (.int (i32 (s))) := eL809 ▸ jg_ne (by decide) gL_2 rfl
    have gL809_6 : jGet L809 6 = some (.int (i32 (nd2_786))) := eL809 ▸ jg_eq
    refine jx_ld (pc' := 181) (l' := L809) (st' := [.ref 66]) rfl (jl_aloadn gL809_0) ?_
    refine jx_vr (pc' := 184) (as := []) (st := []) rfl rfl rfl rfl ⟨rfl, rfl, Nat.le_of_ble_eq_true rfl⟩ rfl rfl (c_next (dd := d) (hd := by omega) (hW := hW799)  (ln := ln) (e_ln := show G796 9 = ln from ((hF800.1 9 rfl).trans ((hF788.1 9 rfl).trans (fx_9)))) (le := le) (e_le := show A797 4 (ln).toNat = le from (congrFun ((hF800.2 4 rfl).trans ((hF788.2 4 rfl).trans (hFx.2 4 rfl))) _).trans (e_le)) (at0 := at1) (e_at0 := show G796 10 = at1 from ((hF800.1 10 rfl).trans ((hF788.1 10 rfl).trans (ex_at1))))    (p_0 := by omega)) (fun o V' hq => ?_)
    obtain ⟨G810, A811, at2_812, tk2_813, rfl, rfl, hW814, hF815, e816, e817, p818, p819, p820, -⟩ := hq
    have hF822 := Fr_tr hF806 hF815 (Fr_sub (by decide)) (Fr_sub (by decide))
    have hP823 := Pf_f hP807 hF815 (by decide)
    have sf824 : ND A811 (nd1) (2) (s) (0) (0) (0) (0) (0) := ND_ag (by omega) (Ag_fr hF815 (by decide)) sf808
    have sf825 : ND A811 (nd2_786) (22) (nd1) (0) (0) (0) (0) (0) := ND_ag (by omega) (Ag_fr hF815 (by decide)) p804
    have bat2_812 : (0 : Int) ≤ at2_812 ∧ at2_812 ≤ 3002 := e816 ▸ hW814.1 10
    have ztk2_813 := tz_b tk2_813
    have btk2_813 : (0 : Int) ≤ tk2_813 ∧ tk2_813 ≤ 5 := e817 ▸ hW814.1 11
    refine .inl ⟨rfl, ?_⟩
    refine jx_ld (pc' := 185) (l' := L809) (st' := [.ref 66]) rfl (jl_aloadn gL809_0) ?_
    refine jr_get (pc' := 188) (i := 35) (v := .ref 85) rfl rfl (by decide) rfl rfl ?_
    refine jx_ld (pc' := 190) (l' := L809) (st' := [.int (i32 (nd2_786)), .ref 85]) rfl (jl_iload gL809_6) ?_
    refine jx_ld (pc' := 191) (l' := L809) (st' := [.ref 66, .int (i32 (nd2_786)), .ref 85]) rfl (jl_aloadn gL809_0) ?_
    refine jx_vr (pc' := 194) (as := []) (st := [.int (i32 (nd2_786)), .ref 85]) rfl rfl rfl rfl ⟨rfl, rfl, Nat.le_of_ble_eq_true rfl⟩ rfl rfl (RE_all X 9 (dd := d) (hd := by omega) (hW := hW814)  (ln := ln) (e_ln := show G810 9 = ln from ((hF815.1 9 rfl).trans ((hF800.1 9 rfl).trans ((hF788.1 9 rfl).trans (fx_9))))) (le := le) (e_le := show A811 4 (ln).toNat = le from (congrFun ((hF815.2 4 rfl).trans ((hF800.2 4 rfl).trans ((hF788.2 4 rfl).trans (hFx.2 4 rfl)))) _).trans (e_le)) (at0 := at2_812) (e_at0 := show G810 10 = at2_812 from (e816)) (fk := fk1) (e_fk := show G810 16 = fk1 from ((hF815.1 16 rfl).trans ((hF800.1 16 rfl).trans ((hF788.1 16 rfl).trans (ex_fk1))))) (op0 := op1) (e_op0 := show G810 15 = op1 from ((hF815.1 15 rfl).trans ((hF800.1 15 rfl).trans ((hF788.1 15 rfl).trans (ex_op1))))) (nd := nd2_798) (e_nd := show G810 31 = nd2_798 from ((hF815.1 31 rfl).trans (e802))) (tk0 := tk2_813) (e_tk0 := show G810 11 = tk2_813 from (e817)) (i_SV := (SV_ext (((hF815.1 29 rfl).trans ((hF800.1 29 rfl).trans ((hF788.1 29 rfl).trans (hFx.1 29 rfl))))) (((hF815.2 14 rfl).trans ((hF800.2 14 rfl).trans ((hF788.2 14 rfl).trans (hFx.2 14 rfl))))) i_SV))   (p_0 := by omega) (p_1 := by omega) (p_2 := by omega) (p_3 := by omega) (p_4 := by omega) (p_5 := by omega)) (fun o V' hq => ?_)
    obtain ⟨G826, A827, r828, at2_829, fk2_830, op2_831, nd2_832, tk2_833, rfl, rfl, hW834, hF835, hQ836, b837, e838, e839, e840, e841, e842, p843, p844, p845, p846, p847, p848, q849⟩ := hq
    have hF850 := Fr_tr hF822 hF835 (Fr_sub (by decide)) (Fr_sub (by decide))
    have hP851 := Pf_tr hP823 hQ836 (by omega)
    have sf852 : ND A827 (nd1) (2) (s) (0) (0) (0) (0) (0) := ND_ag (by omega) (Ag_pf hQ836 (by omega)) sf824
    have sf853 : ND A827 (nd2_786) (22) (nd1) (0) (0) (0) (0) (0) := ND_ag (by omega) (Ag_pf hQ836 (by omega)) sf825
    have bat2_829 : (0 : Int) ≤ at2_829 ∧ at2_829 ≤ 3002 := e838 ▸ hW834.1 10
    have bfk2_830 : (0 : Int) ≤ fk2_830 ∧ fk2_830 ≤ 6 := e839 ▸ hW834.1 16
    have bop2_831 : (-2147483648 : Int) ≤ op2_831 ∧ op2_831 ≤ 2147483647 := e840 ▸ hW834.1 15
    have bnd2_832 : (0 : Int) ≤ nd2_832 ∧ nd2_832 ≤ 6999 := e841 ▸ hW834.1 31
    have ztk2_833 := tz_b tk2_833
    have btk2_833 : (0 : Int) ≤ tk2_833 ∧ tk2_833 ≤ 5 := e842 ▸ hW834.1 11
    refine .inr ⟨_, rfl, ?_⟩
    rcases q849 with ⟨a854, a855, a856, a857, a858, a859⟩ | ⟨a860, a861, a862⟩ | ⟨a863, a864, a865, a866⟩
    · have _q : True := trivial
      exfalso
      omega
    · have _q : True := trivial
      refine jr_st (pc' := 195) (i := 18) (m := 7000) (z := nd2_786) (y := r828) rfl (by decide) rfl (by decide) (by omega) (by omega) rfl ?_
      have hW868 : Wk G826 (uA A827 18 (nd2_786).toNat (r828)) := Wk_a hW834 (show (-2147483648 : Int) ≤ r828 by omega) (show r828 ≤ (2147483647 : Int) by omega)
      have hF869 := Fr_a (z := r828) (k := 18) (n := (nd2_786).toNat) hF850 (by decide)
      obtain ⟨A867, eA867⟩ : ∃ q, q = uA A827 18 (nd2_786).toNat (r828) := ⟨_, rfl⟩
      rw [← eA867]
      rw [← eA867] at hW868 hF869
      have q870 : A867 18 (nd2_786).toNat = r828 := by rw [eA867]; exact uA_eq
      have hP871 : Pf nd A A867 := eA867 ▸ Pf_a hP851 (z := nd2_786) (by omega) (by omega)
      have sf872 : ND A867 (nd1) (2) (s) (0) (0) (0) (0) (0) := ND_ag (by omega) (Ag_st eA867 (by omega) (by omega)) sf852
      have sf873 : ND A867 (nd2_786) (22) (nd1) (r828) (0) (0) (0) (0) := ND_b eA867 sf853
      refine jx_ld (pc' := 196) (l' := L809) (st' := [.ref 66]) rfl (jl_aloadn gL809_0) ?_
      refine jx_vr (pc' := 199) (as := []) (st := []) rfl rfl rfl rfl ⟨rfl, rfl, Nat.le_of_ble_eq_true rfl⟩ rfl rfl (c_endLine (dd := d) (hd := by omega) (hW := hW868)  (ln := ln) (e_ln := show G826 9 = ln from ((hF835.1 9 rfl).trans ((hF815.1 9 rfl).trans ((hF800.1 9 rfl).trans ((hF788.1 9 rfl).trans (fx_9)))))) (li := li) (e_li := show G826 3 = li from ((hF835.1 3 rfl).trans ((hF815.1 3 rfl).trans ((hF800.1 3 rfl).trans ((hF788.1 3 rfl).trans ((hFx.1 3 rfl).trans (e_li))))))) (fk := fk2_830) (e_fk := show G826 16 = fk2_830 from (e839)) (tk0 := tk2_833) (e_tk0 := show G826 11 = tk2_833 from (e842))    (p_0 := by omega)) (fun o V' hq => ?_)
      obtain ⟨G874, A875, ln2_876, fk2_877, rfl, rfl, hW878, hF879, e880, e881, q882⟩ := hq
      have hF883 := Fr_tr hF869 hF879 (Fr_sub (by decide)) (Fr_sub (by decide))
      have hP884 := Pf_f hP871 hF879 (by decide)
      have sf885 : ND A875 (nd1) (2) (s) (0) (0) (0) (0) (0) := ND_ag (by omega) (Ag_fr hF879 (by decide)) sf872
      have sf886 : ND A875 (nd2_786) (22) (nd1) (r828) (0) (0) (0) (0) := ND_ag (by omega) (Ag_fr hF879 (by decide)) sf873
      have bln2_876 : (0 : Int) ≤ ln2_876 ∧ ln2_876 ≤ 3000 := e880 ▸ hW878.1 9
      have bfk2_877 : (0 : Int) ≤ fk2_877 ∧ fk2_877 ≤ 6 := e881 ▸ hW878.1 16
      refine .inl ⟨rfl, ?_⟩
      rcases q882 with ⟨a887, a888, a889, a890, a891⟩ | ⟨a892, a893⟩
      · have _q : True := trivial
        exfalso
        omega
      · have _q : True := trivial
        refine jx_ld (pc' := 201) (l' := L809) (st' := [.int (i32 (nd2_786))]) rfl (jl_iload gL809_6) ?_
        refine jx_rt (v := some (.int (i32 (nd2_786)))) rfl rfl rfl rfl rfl rfl ?_
        exact ⟨_, _, _, at2_829, fk2_877, nd2_832, ln2_876, rfl, rfl, hW878, hF883, hP884, by omega, ((hF879.1 10 rfl).trans (e838)), (e881), ((hF879.1 31 rfl).trans (e841)), (e880), by omega, by omega, by omega, by omega, by omega, by first | exact Or.inl (⟨by omega, by omega, by omega⟩)⟩
    · have _q : True := trivial
      refine jr_st (pc' := 195) (i := 18) (m := 7000) (z := nd2_786) (y := r828) rfl (by decide) rfl (by decide) (by omega) (by omega) rfl ?_
      have hW895 : Wk G826 (uA A827 18 (nd2_786).toNat (r828)) := Wk_a hW834 (show (-2147483648 : Int) ≤ r828 by omega) (show r828 ≤ (2147483647 : Int) by omega)
      have hF896 := Fr_a (z := r828) (k := 18) (n := (nd2_786).toNat) hF850 (by decide)
      obtain ⟨A894, eA894⟩ : ∃ q, q = uA A827 18 (nd2_786).toNat (r828) := ⟨_, rfl⟩
      rw [← eA894]
      rw [← eA894] at hW895 hF896
      have q897 : A894 18 (nd2_786).toNat = r828 := by rw [eA894]; exact uA_eq
      have hP898 : Pf nd A A894 := eA894 ▸ Pf_a hP851 (z := nd2_786) (by omega) (by omega)
      have sf899 : ND A894 (nd1) (2) (s) (0) (0) (0) (0) (0) := ND_ag (by omega) (Ag_st eA894 (by omega) (by omega)) sf852
      have sf900 : ND A894 (nd2_786) (22) (nd1) (r828) (0) (0) (0) (0) := ND_b eA894 sf853
      have sf901 : wE A894 Vs sb (2 * 9 + 2) (r828) (nd2_798) (nd2_832) := wE_ag (by omega) (Sg_ne eA894 rfl) (Ag_st eA894 (by omega) (by omega)) a866
      refine jx_ld (pc' := 196) (l' := L809) (st' := [.ref 66]) rfl (jl_aloadn gL809_0) ?_
      refine jx_vr (pc' := 199) (as := []) (st := []) rfl rfl rfl rfl ⟨rfl, rfl, Nat.le_of_ble_eq_true rfl⟩ rfl rfl (c_endLine (dd := d) (hd := by omega) (hW := hW895)  (ln := ln) (e_ln := show G826 9 = ln from ((hF835.1 9 rfl).trans ((hF815.1 9 rfl).trans ((hF800.1 9 rfl).trans ((hF788.1 9 rfl).trans (fx_9)))))) (li := li) (e_li := show G826 3 = li from ((hF835.1 3 rfl).trans ((hF815.1 3 rfl).trans ((hF800.1 3 rfl).trans ((hF788.1 3 rfl).trans ((hFx.1 3 rfl).trans (e_li))))))) (fk := fk2_830) (e_fk := show G826 16 = fk2_830 from (e839)) (tk0 := tk2_833) (e_tk0 := show G826 11 = tk2_833 from (e842))    (p_0 := by omega)) (fun o V' hq => ?_)
      obtain ⟨G902, A903, ln2_904, fk2_905, rfl, rfl, hW906, hF907, e908, e909, q910⟩ := hq
      have hF911 := Fr_tr hF896 hF907 (Fr_sub (by decide)) (Fr_sub (by decide))
      have hP912 := Pf_f hP898 hF907 (by decide)
      have sf913 : ND A903 (nd1) (2) (s) (0) (0) (0) (0) (0) := ND_ag (by omega) (Ag_fr hF907 (by decide)) sf899
      have sf914 : ND A903 (nd2_786) (22) (nd1) (r828) (0) (0) (0) (0) := ND_ag (by omega) (Ag_fr hF907 (by decide)) sf900
      have sf915 : wE A903 Vs sb (2 * 9 + 2) (r828) (nd2_798) (nd2_832) := wE_ag (by omega) (Sg_fr hF907 (by decide)) (Ag_fr hF907 (by decide)) sf901
      have bln2_904 : (0 : Int) ≤ ln2_904 ∧ ln2_904 ≤ 3000 := e908 ▸ hW906.1 9
      have bfk2_905 : (0 : Int) ≤ fk2_905 ∧ fk2_905 ≤ 6 := e909 ▸ hW906.1 16
      refine .inl ⟨rfl, ?_⟩
      rcases q910 with ⟨a916, a917, a918, a919, a920⟩ | ⟨a921, a922⟩
      · have _q : True := trivial
        refine jx_ld (pc' := 201) (l' := L809) (st' := [.int (i32 (nd2_786))]) rfl (jl_iload gL809_6) ?_
        refine jx_rt (v := some (.int (i32 (nd2_786)))) rfl rfl rfl rfl rfl rfl ?_
        exact ⟨_, _, _, at2_829, fk2_905, nd2_832, ln2_904, rfl, rfl, hW906, hF911, hP912, by omega, ((hF907.1 10 rfl).trans (e838)), (e909), ((hF907.1 31 rfl).trans (e841)), (e908), by omega, by omega, by omega, by omega, by omega, by first | exact Or.inr ((⟨by omega, by omega, by omega, by omega, by omega, (wL_set sf914 (by omega) (by omega) (wR_var sf913 (by omega) (by omega) iv_8 (kq (P := kRef (0)) (show A903 7 (s).toNat = ks from (congrFun ((hF907.2 7 rfl).trans (((congrFun eA894 7).trans (uA_ne (by decide))).trans ((hF835.2 7 rfl).trans ((hF815.2 7 rfl).trans ((hF800.2 7 rfl).trans (hF788.2 7 rfl)))))) _).trans (ex_ks)) (by first | exact .inl ⟨by omega, iv_9⟩))) (wE_mono (by omega) (by omega) (by omega) sf915)), (NX_nd sf914)⟩))⟩
      · have _q : True := trivial
        refine jx_ld (pc' := 201) (l' := L809) (st' := [.int (i32 (nd2_786))]) rfl (jl_iload gL809_6) ?_
        refine jx_rt (v := some (.int (i32 (nd2_786)))) rfl rfl rfl rfl rfl rfl ?_
        exact ⟨_, _, _, at2_829, fk2_905, nd2_832, ln2_904, rfl, rfl, hW906, hF911, hP912, by omega, ((hF907.1 10 rfl).trans (e838)), (e909), ((hF907.1 31 rfl).trans (e841)), (e908), by omega, by omega, by omega, by omega, by omega, by first | exact Or.inl (⟨by omega, by omega, by omega⟩)⟩
  · have _q := h783
    exact absurd h783 (by omega)
set_option maxRecDepth 20000 in
set_option maxHeartbeats 4000000 in
theorem c_readNamed_at_110_1 {X : jX} {d : Nat} {Vs : Nat → Prop} {sb pb : Int} {c0 c1 : jC} {G : Nat → Int} {A : Nat → Nat → Int} {T : jH} {ln le at0 fk op0 nd tk0 li : Int} (hd : 72 ≤ d + 1) (hW : Wk G A) (e_ln : G 9 = ln) (e_le : A 4 (ln).toNat = le) (e_at0 : G 10 = at0) (e_fk : G 16 = fk) (e_op0 : G 15 = op0) (e_nd : G 31 = nd) (e_tk0 : G 11 = tk0) (e_li : G 3 = li) (i_SV : SV Vs sb G A) (i_PQ : PQ Vs sb pb G A) (p_0 : 0 ≤ op0 ∧ op0 ≤ 8) (p_1 : fk = 0) (p_2 : nd ≤ 2 * at0 - tz tk0 + 42) (p_3 : at0 ≤ le) (p_4 : ln < li) (p_5 : tk0 = 1) : ∀ (L : jL) (Gx : Nat → Int) (Ax : Nat → Nat → Int) (pl s ix at1 tk1 fk1 nd1 op1 ks : Int), jGet L 0 = some (.ref 66) → jGet L 5 = some (.int (i32 (1))) → jGet L 3 = some (.int (i32 (ks))) → jGet L 1 = some (.int (i32 pl)) → jGet L 2 = some (.int (i32 s)) → jGet L 4 = some (.int (i32 ix)) → Wk Gx Ax → Fr [9, 10, 11, 12, 13, 14, 15, 16, 17, 18, 31] [15, 16, 17, 18, 19, 20, 21, 22, 24, 28] G A Gx Ax → Pf nd A Ax → Gx 10 = at1 → Gx 11 = tk1 → Gx 16 = fk1 → Gx 31 = nd1 → Gx 15 = op1 → Ax 7 (s).toNat = ks → Gx 9 = ln → ((-2147483648 : Int) ≤ pl ∧ pl ≤ 2147483647) → ((-2147483648 : Int) ≤ s ∧ s ≤ 2147483647) → ((-2147483648 : Int) ≤ ix ∧ ix ≤ 2147483647) → (at0 ≤ at1) → (at1 ≤ le) → (nd ≤ nd1) → (op1 = op0) → (fk1 = 0) → (nd1 - nd ≤ (2 * at1 - tz tk1) - (2 * at0 - tz tk0) - 1) → (0 ≤ s ∧ s ≤ 201) → (-3000 ≤ pl ∧ pl ≤ 3002) → (SY Vs sb (s)) → (wE Ax Vs sb (20) (ix) (nd) (nd1)) → wj X d jm304 (110, L, [], rV c0 c1 Gx Ax T) (fun o V' => ∃ (G' : Nat → Int) (A' : Nat → Nat → Int) (r : Int) (at2 : Int) (fk2 : Int) (nd2 : Int) (ln2 : Int), V' = rV c0 c1 G' A' T ∧ o = .inl (some (.int (i32 r))) ∧ Wk G' A' ∧ Fr [9, 10, 11, 12, 13, 14, 15, 16, 17, 18, 31] [15, 16, 17, 18, 19, 20, 21, 22, 24, 28] G A G' A' ∧ Pf nd A A' ∧ ((-2147483648 : Int) ≤ r ∧ r ≤ 2147483647) ∧ G' 10 = at2 ∧ G' 16 = fk2 ∧ G' 31 = nd2 ∧ G' 9 = ln2 ∧ (at0 ≤ at2) ∧ (at2 ≤ le) ∧ (nd ≤ nd2) ∧ (0 ≤ r) ∧ (r ≤ nd2) ∧ (((1 ≤ fk2) ∧ (ln2 = ln) ∧ (nd2 - nd ≤ 2 * at2 - 2 * at0 + 8)) ∨ ((fk2 = 0) ∧ (ln2 = ln + 1) ∧ (nd2 - nd ≤ 2 * at2 - (2 * at0 - tz tk0) + 0) ∧ (nd ≤ r) ∧ (r < nd2) ∧ (wL A' sb pb Vs (r) (nd) (nd2)) ∧ (NX A' (r))))) := by
  have hF0 : Fr [9, 10, 11, 12, 13, 14, 15, 16, 17, 18, 31] [15, 16, 17, 18, 19, 20, 21, 22, 24, 28] G A G A := Fr_rf
  have hP0 : Pf nd A A := Pf_rf
  have b_ln : (0 : Int) ≤ ln ∧ ln ≤ 3000 := e_ln ▸ hW.1 9
  have b_le : (0 : Int) ≤ le ∧ le ≤ 3000 := e_le ▸ hW.2 4 _
  have b_at0 : (0 : Int) ≤ at0 ∧ at0 ≤ 3002 := e_at0 ▸ hW.1 10
  have b_fk : (0 : Int) ≤ fk ∧ fk ≤ 6 := e_fk ▸ hW.1 16
  have b_op0 : (-2147483648 : Int) ≤ op0 ∧ op0 ≤ 2147483647 := e_op0 ▸ hW.1 15
  have b_nd : (0 : Int) ≤ nd ∧ nd ≤ 6999 := e_nd ▸ hW.1 31
  have z_tk0 := tz_f tk0
  have b_tk0 : (0 : Int) ≤ tk0 ∧ tk0 ≤ 5 := e_tk0 ▸ hW.1 11
  have b_li : (0 : Int) ≤ li ∧ li ≤ 3000 := e_li ▸ hW.1 3
  intro L Gx Ax pl s ix at1 tk1 fk1 nd1 op1 ks gL_0 gL_5 gL_3 gL_1 gL_2 gL_4 hWx hFx hPx ex_at1 ex_tk1 ex_fk1 ex_nd1 ex_op1 ex_ks fx_9 rx_pl rx_s rx_ix iv_0 iv_1 iv_2 iv_3 iv_4 iv_5 iv_6 iv_7 iv_8 iv_9
  have b_at1 : (0 : Int) ≤ at1 ∧ at1 ≤ 3002 := ex_at1 ▸ hWx.1 10
  have z_tk1 := tz_f tk1
  have b_tk1 : (0 : Int) ≤ tk1 ∧ tk1 ≤ 5 := ex_tk1 ▸ hWx.1 11
  have b_fk1 : (0 : Int) ≤ fk1 ∧ fk1 ≤ 6 := ex_fk1 ▸ hWx.1 16
  have b_nd1 : (0 : Int) ≤ nd1 ∧ nd1 ≤ 6999 := ex_nd1 ▸ hWx.1 31
  have b_op1 : (-2147483648 : Int) ≤ op1 ∧ op1 ≤ 2147483647 := ex_op1 ▸ hWx.1 15
  have b_ks : (0 : Int) ≤ ks ∧ ks ≤ 14 := ex_ks ▸ hWx.2 7 _
  refine jx_ld (pc' := 111) (l' := L) (st' := [.ref 66]) rfl (jl_aloadn gL_0) ?_
  refine jx_ar (pc' := 114) (st' := [.int (i32 (300)), .ref 66]) rfl rfl rfl rfl ?_
  have b923 : (-2147483648 : Int) ≤ Gx 13 ∧ Gx 13 ≤ 2147483647 := hWx.1 13
  refine jx_vr (pc' := 117) (as := [.int (i32 (300))]) (st := []) rfl rfl rfl rfl ⟨rfl, rfl, Nat.le_of_ble_eq_true rfl⟩ rfl rfl (c_is (dd := d) (hd := by omega) (hW := hWx) (k := 300) (tk := tk1) (e_tk := show Gx 11 = tk1 from (ex_tk1)) (tn := Gx 13) (e_tn := show Gx 13 = Gx 13 from rfl)  (h_k := ⟨(by decide), (by decide)⟩)  ) (fun o V' hq => ?_)
  obtain ⟨r924, rfl, rfl, b925, q926⟩ := hq
  refine .inr ⟨_, rfl, ?_⟩
  rcases q926 with ⟨rfl, a927, a928, a929⟩ | rfl
  · have _q : True := trivial
    refine jx_if_eq (pc' := 120) (tg := 202) rfl rfl rfl (by decide) (by decide) (fun h930 => ?_) (fun h930 => ?_)
    · have _q := h930
      exact absurd h930 (by omega)
    · have _q := h930
      refine jx_ld (pc' := 122) (l' := L) (st' := [.int (i32 (1))]) rfl (jl_iload gL_5) ?_
      refine jx_if_eq (pc' := 125) (tg := 135) rfl rfl rfl (by decide) (by decide) (fun h931 => ?_) (fun h931 => ?_)
      · have _q := h931
        exact absurd h931 (by omega)
      · have _q := h931
        refine jx_ld (pc' := 126) (l' := L) (st' := [.int (i32 (ks))]) rfl (jl_iloadn gL_3) ?_
        refine jx_st (pc' := 129) (as := [.int (i32 (ks))]) (st := []) rfl rfl ⟨rfl, Nat.le_of_ble_eq_true rfl⟩ rfl rfl rfl (c_isArray (dd := d) (hd := by omega) (k := ks)   (h_k := ⟨(Int.le_trans (by decide : (-2147483648 : Int) ≤ 0) b_ks.1), (Int.le_trans b_ks.2 (by decide : (14 : Int) ≤ 2147483647))⟩)  ) (fun o V' hq => ?_)
        obtain ⟨r932, rfl, rfl, b933, q934⟩ := hq
        refine .inr ⟨_, rfl, ?_⟩
        rcases q934 with ⟨rfl, a935⟩ | rfl
        · have _q : True := trivial
          refine jx_if_ne (pc' := 132) (tg := 150) rfl rfl rfl (by decide) (by decide) (fun h936 => ?_) (fun h936 => ?_)
          · have _q := h936
            have z937 := tz_f (tk1)
            exact c_readNamed_at_150_1 (X := X) (d := d) (Vs := Vs) (sb := sb) (pb := pb) (c0 := c0) (c1 := c1) (G := G) (A := A) (T := T) (ln := ln) (le := le) (at0 := at0) (fk := fk) (op0 := op0) (nd := nd) (tk0 := tk0) (li := li) (hd := hd) (hW := hW) (e_ln := e_ln) (e_le := e_le) (e_at0 := e_at0) (e_fk := e_fk) (e_op0 := e_op0) (e_nd := e_nd) (e_tk0 := e_tk0) (e_li := e_li) (i_SV := i_SV) (i_PQ := i_PQ) (p_0 := p_0) (p_1 := p_1) (p_2 := p_2) (p_3 := p_3) (p_4 := p_4) (p_5 := p_5) L Gx Ax (s) (ix) (at1) (tk1) (fk1) (nd1) (op1) (ks) gL_0 gL_5 gL_2 gL_4 hWx hFx hPx ((ex_at1)) ((ex_tk1)) ((ex_fk1)) ((ex_nd1)) ((ex_op1)) ((ex_ks)) ((fx_9)) (by omega) (by omega) (by omega) (by omega) (by omega) (by omega) (by omega) (by omega) (by omega) (by omega) (iv_8) (a935) (iv_9)
          · have _q := h936
            exact absurd h936 (by omega)
        · have _q : True := trivial
          refine jx_if_ne (pc' := 132) (tg := 150) rfl rfl rfl (by decide) (by decide) (fun h938 => ?_) (fun h938 => ?_)
          · have _q := h938
            exact absurd h938 (by omega)
          · have _q := h938
            refine jx_go (tg := 142) rfl rfl ?_
            refine jx_ld (pc' := 143) (l' := L) (st' := [.ref 66]) rfl (jl_aloadn gL_0) ?_
            refine jx_ar (pc' := 144) (st' := [.int (i32 (4)), .ref 66]) rfl rfl rfl rfl ?_
            refine jx_ld (pc' := 145) (l' := L) (st' := [.int (i32 (pl)), .int (i32 (4)), .ref 66]) rfl (jl_iloadn gL_1) ?_
            refine jx_vr (pc' := 148) (as := [.int (i32 (4)), .int (i32 (pl))]) (st := []) rfl rfl rfl rfl ⟨rfl, rfl, Nat.le_of_ble_eq_true rfl⟩ rfl rfl (c_fail (dd := d) (hd := by omega) (hW := hWx) (kind := 4) (place := pl) (fk := fk1) (e_fk := show Gx 16 = fk1 from (ex_fk1))  (h_kind := ⟨(by decide), (by decide)⟩) (h_place := ⟨(Int.le_trans (by decide : (-2147483648 : Int) ≤ -2147483648) rx_pl.1), (Int.le_trans rx_pl.2 (by decide : (2147483647 : Int) ≤ 2147483647))⟩)  (p_0 := by omega) (p_1 := by omega)) (fun o V' hq => ?_)
            obtain ⟨G939, A940, fk2_941, rfl, rfl, hW942, hF943, e944, p945, -⟩ := hq
            have hF947 := Fr_tr hFx hF943 (Fr_sub (by decide)) (Fr_sub (by decide))
            have hP948 := Pf_f hPx hF943 (by decide)
            have sf949 : wE A940 Vs sb (20) (ix) (nd) (nd1) := wE_ag (by omega) (Sg_fr hF943 (by decide)) (Ag_fr hF943 (by decide)) iv_9
            have bfk2_941 : (0 : Int) ≤ fk2_941 ∧ fk2_941 ≤ 6 := e944 ▸ hW942.1 16
            refine .inl ⟨rfl, ?_⟩
            refine jx_ar (pc' := 149) (st' := [.int (i32 (0))]) rfl rfl rfl rfl ?_
            refine jx_rt (v := some (.int (i32 (0)))) rfl rfl rfl rfl rfl rfl ?_
            exact ⟨_, _, _, at1, fk2_941, nd1, ln, rfl, rfl, hW942, hF947, hP948, by omega, ((hF943.1 10 rfl).trans (ex_at1)), (e944), ((hF943.1 31 rfl).trans (ex_nd1)), ((hF943.1 9 rfl).trans (fx_9)), by omega, by omega, by omega, by omega, by omega, by first | exact Or.inl (⟨by omega, by omega, by omega⟩)⟩
  · have _q : True := trivial
    refine jx_if_eq (pc' := 120) (tg := 202) rfl rfl rfl (by decide) (by decide) (fun h950 => ?_) (fun h950 => ?_)
    · have _q := h950
      refine jx_ld (pc' := 203) (l' := L) (st' := [.ref 66]) rfl (jl_aloadn gL_0) ?_
      refine jx_ar (pc' := 205) (st' := [.int (i32 (33)), .ref 66]) rfl rfl rfl rfl ?_
      refine jx_vr (pc' := 208) (as := [.int (i32 (33))]) (st := []) rfl rfl rfl rfl ⟨rfl, rfl, Nat.le_of_ble_eq_true rfl⟩ rfl rfl (c_is (dd := d) (hd := by omega) (hW := hWx) (k := 33) (tk := tk1) (e_tk := show Gx 11 = tk1 from (ex_tk1)) (tn := Gx 13) (e_tn := show Gx 13 = Gx 13 from rfl)  (h_k := ⟨(by decide), (by decide)⟩)  ) (fun o V' hq => ?_)
      obtain ⟨r951, rfl, rfl, b952, q953⟩ := hq
      refine .inr ⟨_, rfl, ?_⟩
      rcases q953 with ⟨rfl, a954, a955, a956⟩ | rfl
      · have _q : True := trivial
        refine jx_if_ne (pc' := 211) (tg := 231) rfl rfl rfl (by decide) (by decide) (fun h957 => ?_) (fun h957 => ?_)
        · have _q := h957
          have z958 := tz_f (tk1)
          exact c_readNamed_at_231_1 (X := X) (d := d) (Vs := Vs) (sb := sb) (pb := pb) (c0 := c0) (c1 := c1) (G := G) (A := A) (T := T) (ln := ln) (le := le) (at0 := at0) (fk := fk) (op0 := op0) (nd := nd) (tk0 := tk0) (li := li) (hd := hd) (hW := hW) (e_ln := e_ln) (e_le := e_le) (e_at0 := e_at0) (e_fk := e_fk) (e_op0 := e_op0) (e_nd := e_nd) (e_tk0 := e_tk0) (e_li := e_li) (i_SV := i_SV) (i_PQ := i_PQ) (p_0 := p_0) (p_1 := p_1) (p_2 := p_2) (p_3 := p_3) (p_4 := p_4) (p_5 := p_5) L Gx Ax (pl) (s) (ix) (at1) (tk1) (fk1) (nd1) (op1) (ks) gL_0 gL_5 gL_3 gL_1 gL_2 gL_4 hWx hFx hPx ((ex_at1)) ((ex_tk1)) ((ex_fk1)) ((ex_nd1)) ((ex_op1)) ((ex_ks)) ((fx_9)) (by omega) (by omega) (by omega) (by omega) (by omega) (by omega) (by omega) (by omega) (by omega) (by omega) (by omega) (by omega) (iv_8) (iv_9)
        · have _q := h957
          exact absurd h957 (by omega)
      · have _q : True := trivial
        refine jx_if_ne (pc' := 211) (tg := 231) rfl rfl rfl (by decide) (by decide) (fun h959 => ?_) (fun h959 => ?_)
        · have _q := h959
          exact absurd h959 (by omega)
        · have _q := h959
          refine jx_ld (pc' := 212) (l' := L) (st' := [.ref 66]) rfl (jl_aloadn gL_0) ?_
          refine jx_ar (pc' := 214) (st' := [.int (i32 (63)), .ref 66]) rfl rfl rfl rfl ?_
          refine jx_vr (pc' := 217) (as := [.int (i32 (63))]) (st := []) rfl rfl rfl rfl ⟨rfl, rfl, Nat.le_of_ble_eq_true rfl⟩ rfl rfl (c_is (dd := d) (hd := by omega) (hW := hWx) (k := 63) (tk := tk1) (e_tk := show Gx 11 = tk1 from (ex_tk1)) (tn := Gx 13) (e_tn := show Gx 13 = Gx 13 from rfl)  (h_k := ⟨(by decide), (by decide)⟩)  ) (fun o V' hq => ?_)
          obtain ⟨r960, rfl, rfl, b961, q962⟩ := hq
          refine .inr ⟨_, rfl, ?_⟩
          rcases q962 with ⟨rfl, a963, a964, a965⟩ | rfl
          · have _q : True := trivial
            refine jx_if_ne (pc' := 220) (tg := 231) rfl rfl rfl (by decide) (by decide) (fun h966 => ?_) (fun h966 => ?_)
            · have _q := h966
              have z967 := tz_f (tk1)
              exact c_readNamed_at_231_1 (X := X) (d := d) (Vs := Vs) (sb := sb) (pb := pb) (c0 := c0) (c1 := c1) (G := G) (A := A) (T := T) (ln := ln) (le := le) (at0 := at0) (fk := fk) (op0 := op0) (nd := nd) (tk0 := tk0) (li := li) (hd := hd) (hW := hW) (e_ln := e_ln) (e_le := e_le) (e_at0 := e_at0) (e_fk := e_fk) (e_op0 := e_op0) (e_nd := e_nd) (e_tk0 := e_tk0) (e_li := e_li) (i_SV := i_SV) (i_PQ := i_PQ) (p_0 := p_0) (p_1 := p_1) (p_2 := p_2) (p_3 := p_3) (p_4 := p_4) (p_5 := p_5) L Gx Ax (pl) (s) (ix) (at1) (tk1) (fk1) (nd1) (op1) (ks) gL_0 gL_5 gL_3 gL_1 gL_2 gL_4 hWx hFx hPx ((ex_at1)) ((ex_tk1)) ((ex_fk1)) ((ex_nd1)) ((ex_op1)) ((ex_ks)) ((fx_9)) (by omega) (by omega) (by omega) (by omega) (by omega) (by omega) (by omega) (by omega) (by omega) (by omega) (by omega) (by omega) (iv_8) (iv_9)
            · have _q := h966
              exact absurd h966 (by omega)
          · have _q : True := trivial
            refine jx_if_ne (pc' := 220) (tg := 231) rfl rfl rfl (by decide) (by decide) (fun h968 => ?_) (fun h968 => ?_)
            · have _q := h968
              exact absurd h968 (by omega)
            · have _q := h968
              refine jx_ld (pc' := 221) (l' := L) (st' := [.ref 66]) rfl (jl_aloadn gL_0) ?_
              refine jx_ar (pc' := 222) (st' := [.int (i32 (1)), .ref 66]) rfl rfl rfl rfl ?_
              refine jx_ld (pc' := 223) (l' := L) (st' := [.ref 66, .int (i32 (1)), .ref 66]) rfl (jl_aloadn gL_0) ?_
              have b969 : (-3000 : Int) ≤ Gx 12 ∧ Gx 12 ≤ 3002 := hWx.1 12
              refine jr_get (pc' := 226) (i := 12) (v := .int (i32 (Gx 12))) rfl rfl (by decide) rfl rfl ?_
              refine jx_vr (pc' := 229) (as := [.int (i32 (1)), .int (i32 (Gx 12))]) (st := []) rfl rfl rfl rfl ⟨rfl, rfl, Nat.le_of_ble_eq_true rfl⟩ rfl rfl (c_fail (dd := d) (hd := by omega) (hW := hWx) (kind := 1) (place := Gx 12) (fk := fk1) (e_fk := show Gx 16 = fk1 from (ex_fk1))  (h_kind := ⟨(by decide), (by decide)⟩) (h_place := ⟨(Int.le_trans (by decide : (-2147483648 : Int) ≤ -3000) b969.1), (Int.le_trans b969.2 (by decide : (3002 : Int) ≤ 2147483647))⟩)  (p_0 := by omega) (p_1 := by omega)) (fun o V' hq => ?_)
              obtain ⟨G970, A971, fk2_972, rfl, rfl, hW973, hF974, e975, p976, -⟩ := hq
              have hF978 := Fr_tr hFx hF974 (Fr_sub (by decide)) (Fr_sub (by decide))
              have hP979 := Pf_f hPx hF974 (by decide)
              have sf980 : wE A971 Vs sb (20) (ix) (nd) (nd1) := wE_ag (by omega) (Sg_fr hF974 (by decide)) (Ag_fr hF974 (by decide)) iv_9
              have bfk2_972 : (0 : Int) ≤ fk2_972 ∧ fk2_972 ≤ 6 := e975 ▸ hW973.1 16
              refine .inl ⟨rfl, ?_⟩
              refine jx_ar (pc' := 230) (st' := [.int (i32 (0))]) rfl rfl rfl rfl ?_
              refine jx_rt (v := some (.int (i32 (0)))) rfl rfl rfl rfl rfl rfl ?_
              exact ⟨_, _, _, at1, fk2_972, nd1, ln, rfl, rfl, hW973, hF978, hP979, by omega, ((hF974.1 10 rfl).trans (ex_at1)), (e975), ((hF974.1 31 rfl).trans (ex_nd1)), ((hF974.1 9 rfl).trans (fx_9)), by omega, by omega, by omega, by omega, by omega, by first | exact Or.inl (⟨by omega, by omega, by omega⟩)⟩
    · have _q := h950
      exact absurd h950 (by omega)
set_option maxRecDepth 20000 in
set_option maxHeartbeats 4000000 in
theorem c_readNamed_at_110_0 {X : jX} {d : Nat} {Vs : Nat → Prop} {sb pb : Int} {c0 c1 : jC} {G : Nat → Int} {A : Nat → Nat → Int} {T : jH} {ln le at0 fk op0 nd tk0 li : Int} (hd : 72 ≤ d + 1) (hW : Wk G A) (e_ln : G 9 = ln) (e_le : A 4 (ln).toNat = le) (e_at0 : G 10 = at0) (e_fk : G 16 = fk) (e_op0 : G 15 = op0) (e_nd : G 31 = nd) (e_tk0 : G 11 = tk0) (e_li : G 3 = li) (i_SV : SV Vs sb G A) (i_PQ : PQ Vs sb pb G A) (p_0 : 0 ≤ op0 ∧ op0 ≤ 8) (p_1 : fk = 0) (p_2 : nd ≤ 2 * at0 - tz tk0 + 42) (p_3 : at0 ≤ le) (p_4 : ln < li) (p_5 : tk0 = 1) : ∀ (L : jL) (Gx : Nat → Int) (Ax : Nat → Nat → Int) (pl s at1 tk1 fk1 nd1 op1 ks : Int), jGet L 0 = some (.ref 66) → jGet L 5 = some (.int (i32 (0))) → jGet L 3 = some (.int (i32 (ks))) → jGet L 4 = some (.int (i32 (0))) → jGet L 1 = some (.int (i32 pl)) → jGet L 2 = some (.int (i32 s)) → Wk Gx Ax → Fr [9, 10, 11, 12, 13, 14, 15, 16, 17, 18, 31] [15, 16, 17, 18, 19, 20, 21, 22, 24, 28] G A Gx Ax → Pf nd A Ax → Gx 10 = at1 → Gx 11 = tk1 → Gx 16 = fk1 → Gx 31 = nd1 → Gx 15 = op1 → Ax 7 (s).toNat = ks → Gx 9 = ln → ((-2147483648 : Int) ≤ pl ∧ pl ≤ 2147483647) → ((-2147483648 : Int) ≤ s ∧ s ≤ 2147483647) → (at0 ≤ at1) → (at1 ≤ le) → (nd ≤ nd1) → (op1 = op0) → (fk1 = 0) → (nd1 - nd ≤ (2 * at1 - tz tk1) - (2 * at0 - tz tk0) - 1) → (0 ≤ s ∧ s ≤ 201) → (-3000 ≤ pl ∧ pl ≤ 3002) → (SY Vs sb (s)) → wj X d jm304 (110, L, [], rV c0 c1 Gx Ax T) (fun o V' => ∃ (G' : Nat → Int) (A' : Nat → Nat → Int) (r : Int) (at2 : Int) (fk2 : Int) (nd2 : Int) (ln2 : Int), V' = rV c0 c1 G' A' T ∧ o = .inl (some (.int (i32 r))) ∧ Wk G' A' ∧ Fr [9, 10, 11, 12, 13, 14, 15, 16, 17, 18, 31] [15, 16, 17, 18, 19, 20, 21, 22, 24, 28] G A G' A' ∧ Pf nd A A' ∧ ((-2147483648 : Int) ≤ r ∧ r ≤ 2147483647) ∧ G' 10 = at2 ∧ G' 16 = fk2 ∧ G' 31 = nd2 ∧ G' 9 = ln2 ∧ (at0 ≤ at2) ∧ (at2 ≤ le) ∧ (nd ≤ nd2) ∧ (0 ≤ r) ∧ (r ≤ nd2) ∧ (((1 ≤ fk2) ∧ (ln2 = ln) ∧ (nd2 - nd ≤ 2 * at2 - 2 * at0 + 8)) ∨ ((fk2 = 0) ∧ (ln2 = ln + 1) ∧ (nd2 - nd ≤ 2 * at2 - (2 * at0 - tz tk0) + 0) ∧ (nd ≤ r) ∧ (r < nd2) ∧ (wL A' sb pb Vs (r) (nd) (nd2)) ∧ (NX A' (r))))) := by
  have hF0 : Fr [9, 10, 11, 12, 13, 14, 15, 16, 17, 18, 31] [15, 16, 17, 18, 19, 20, 21, 22, 24, 28] G A G A := Fr_rf
  have hP0 : Pf nd A A := Pf_rf
  have b_ln : (0 : Int) ≤ ln ∧ ln ≤ 3000 := e_ln ▸ hW.1 9
  have b_le : (0 : Int) ≤ le ∧ le ≤ 3000 := e_le ▸ hW.2 4 _
  have b_at0 : (0 : Int) ≤ at0 ∧ at0 ≤ 3002 := e_at0 ▸ hW.1 10
  have b_fk : (0 : Int) ≤ fk ∧ fk ≤ 6 := e_fk ▸ hW.1 16
  have b_op0 : (-2147483648 : Int) ≤ op0 ∧ op0 ≤ 2147483647 := e_op0 ▸ hW.1 15
  have b_nd : (0 : Int) ≤ nd ∧ nd ≤ 6999 := e_nd ▸ hW.1 31
  have z_tk0 := tz_f tk0
  have b_tk0 : (0 : Int) ≤ tk0 ∧ tk0 ≤ 5 := e_tk0 ▸ hW.1 11
  have b_li : (0 : Int) ≤ li ∧ li ≤ 3000 := e_li ▸ hW.1 3
  intro L Gx Ax pl s at1 tk1 fk1 nd1 op1 ks gL_0 gL_5 gL_3 gL_4 gL_1 gL_2 hWx hFx hPx ex_at1 ex_tk1 ex_fk1 ex_nd1 ex_op1 ex_ks fx_9 rx_pl rx_s iv_0 iv_1 iv_2 iv_3 iv_4 iv_5 iv_6 iv_7 iv_8
  have b_at1 : (0 : Int) ≤ at1 ∧ at1 ≤ 3002 := ex_at1 ▸ hWx.1 10
  have z_tk1 := tz_f tk1
  have b_tk1 : (0 : Int) ≤ tk1 ∧ tk1 ≤ 5 := ex_tk1 ▸ hWx.1 11
  have b_fk1 : (0 : Int) ≤ fk1 ∧ fk1 ≤ 6 := ex_fk1 ▸ hWx.1 16
  have b_nd1 : (0 : Int) ≤ nd1 ∧ nd1 ≤ 6999 := ex_nd1 ▸ hWx.1 31
  have b_op1 : (-2147483648 : Int) ≤ op1 ∧ op1 ≤ 2147483647 := ex_op1 ▸ hWx.1 15
  have b_ks : (0 : Int) ≤ ks ∧ ks ≤ 14 := ex_ks ▸ hWx.2 7 _
  refine jx_ld (pc' := 111) (l' := L) (st' := [.ref 66]) rfl (jl_aloadn gL_0) ?_
  refine jx_ar (pc' := 114) (st' := [.int (i32 (300)), .ref 66]) rfl rfl rfl rfl ?_
  have b981 : (-2147483648 : Int) ≤ Gx 13 ∧ Gx 13 ≤ 2147483647 := hWx.1 13
  refine jx_vr (pc' := 117) (as := [.int (i32 (300))]) (st := []) rfl rfl rfl rfl ⟨rfl, rfl, Nat.le_of_ble_eq_true rfl⟩ rfl rfl (c_is (dd := d) (hd := by omega) (hW := hWx) (k := 300) (tk := tk1) (e_tk := show Gx 11 = tk1 from (ex_tk1)) (tn := Gx 13) (e_tn := show Gx 13 = Gx 13 from rfl)  (h_k := ⟨(by decide), (by decide)⟩)  ) (fun o V' hq => ?_)
  obtain ⟨r982, rfl, rfl, b983, q984⟩ := hq
  refine .inr ⟨_, rfl, ?_⟩
  rcases q984 with ⟨rfl, a985, a986, a987⟩ | rfl
  · have _q : True := trivial
    refine jx_if_eq (pc' := 120) (tg := 202) rfl rfl rfl (by decide) (by decide) (fun h988 => ?_) (fun h988 => ?_)
    · have _q := h988
      exact absurd h988 (by omega)
    · have _q := h988
      refine jx_ld (pc' := 122) (l' := L) (st' := [.int (i32 (0))]) rfl (jl_iload gL_5) ?_
      refine jx_if_eq (pc' := 125) (tg := 135) rfl rfl rfl (by decide) (by decide) (fun h989 => ?_) (fun h989 => ?_)
      · have _q := h989
        refine jx_ld (pc' := 136) (l' := L) (st' := [.int (i32 (ks))]) rfl (jl_iloadn gL_3) ?_
        refine jx_st (pc' := 139) (as := [.int (i32 (ks))]) (st := []) rfl rfl ⟨rfl, Nat.le_of_ble_eq_true rfl⟩ rfl rfl rfl (c_isVariable (dd := d) (hd := by omega) (k := ks)   (h_k := ⟨(Int.le_trans (by decide : (-2147483648 : Int) ≤ 0) b_ks.1), (Int.le_trans b_ks.2 (by decide : (14 : Int) ≤ 2147483647))⟩)  ) (fun o V' hq => ?_)
        obtain ⟨r990, rfl, rfl, b991, q992⟩ := hq
        refine .inr ⟨_, rfl, ?_⟩
        rcases q992 with ⟨rfl, a993⟩ | rfl
        · have _q : True := trivial
          refine jx_if_ne (pc' := 142) (tg := 150) rfl rfl rfl (by decide) (by decide) (fun h994 => ?_) (fun h994 => ?_)
          · have _q := h994
            have z995 := tz_f (tk1)
            exact c_readNamed_at_150_0 (X := X) (d := d) (Vs := Vs) (sb := sb) (pb := pb) (c0 := c0) (c1 := c1) (G := G) (A := A) (T := T) (ln := ln) (le := le) (at0 := at0) (fk := fk) (op0 := op0) (nd := nd) (tk0 := tk0) (li := li) (hd := hd) (hW := hW) (e_ln := e_ln) (e_le := e_le) (e_at0 := e_at0) (e_fk := e_fk) (e_op0 := e_op0) (e_nd := e_nd) (e_tk0 := e_tk0) (e_li := e_li) (i_SV := i_SV) (i_PQ := i_PQ) (p_0 := p_0) (p_1 := p_1) (p_2 := p_2) (p_3 := p_3) (p_4 := p_4) (p_5 := p_5) L Gx Ax (s) (at1) (tk1) (fk1) (nd1) (op1) (ks) gL_0 gL_5 gL_4 gL_2 hWx hFx hPx ((ex_at1)) ((ex_tk1)) ((ex_fk1)) ((ex_nd1)) ((ex_op1)) ((ex_ks)) ((fx_9)) (by omega) (by omega) (by omega) (by omega) (by omega) (by omega) (by omega) (by omega) (by omega) (iv_8) (a993)
          · have _q := h994
            exact absurd h994 (by omega)
        · have _q : True := trivial
          refine jx_if_ne (pc' := 142) (tg := 150) rfl rfl rfl (by decide) (by decide) (fun h996 => ?_) (fun h996 => ?_)
          · have _q := h996
            exact absurd h996 (by omega)
          · have _q := h996
            refine jx_ld (pc' := 143) (l' := L) (st' := [.ref 66]) rfl (jl_aloadn gL_0) ?_
            refine jx_ar (pc' := 144) (st' := [.int (i32 (4)), .ref 66]) rfl rfl rfl rfl ?_
            refine jx_ld (pc' := 145) (l' := L) (st' := [.int (i32 (pl)), .int (i32 (4)), .ref 66]) rfl (jl_iloadn gL_1) ?_
            refine jx_vr (pc' := 148) (as := [.int (i32 (4)), .int (i32 (pl))]) (st := []) rfl rfl rfl rfl ⟨rfl, rfl, Nat.le_of_ble_eq_true rfl⟩ rfl rfl (c_fail (dd := d) (hd := by omega) (hW := hWx) (kind := 4) (place := pl) (fk := fk1) (e_fk := show Gx 16 = fk1 from (ex_fk1))  (h_kind := ⟨(by decide), (by decide)⟩) (h_place := ⟨(Int.le_trans (by decide : (-2147483648 : Int) ≤ -2147483648) rx_pl.1), (Int.le_trans rx_pl.2 (by decide : (2147483647 : Int) ≤ 2147483647))⟩)  (p_0 := by omega) (p_1 := by omega)) (fun o V' hq => ?_)
            obtain ⟨G997, A998, fk2_999, rfl, rfl, hW1000, hF1001, e1002, p1003, -⟩ := hq
            have hF1005 := Fr_tr hFx hF1001 (Fr_sub (by decide)) (Fr_sub (by decide))
            have hP1006 := Pf_f hPx hF1001 (by decide)
            have bfk2_999 : (0 : Int) ≤ fk2_999 ∧ fk2_999 ≤ 6 := e1002 ▸ hW1000.1 16
            refine .inl ⟨rfl, ?_⟩
            refine jx_ar (pc' := 149) (st' := [.int (i32 (0))]) rfl rfl rfl rfl ?_
            refine jx_rt (v := some (.int (i32 (0)))) rfl rfl rfl rfl rfl rfl ?_
            exact ⟨_, _, _, at1, fk2_999, nd1, ln, rfl, rfl, hW1000, hF1005, hP1006, by omega, ((hF1001.1 10 rfl).trans (ex_at1)), (e1002), ((hF1001.1 31 rfl).trans (ex_nd1)), ((hF1001.1 9 rfl).trans (fx_9)), by omega, by omega, by omega, by omega, by omega, by first | exact Or.inl (⟨by omega, by omega, by omega⟩)⟩
      · have _q := h989
        exact absurd h989 (by omega)
  · have _q : True := trivial
    refine jx_if_eq (pc' := 120) (tg := 202) rfl rfl rfl (by decide) (by decide) (fun h1007 => ?_) (fun h1007 => ?_)
    · have _q := h1007
      refine jx_ld (pc' := 203) (l' := L) (st' := [.ref 66]) rfl (jl_aloadn gL_0) ?_
      refine jx_ar (pc' := 205) (st' := [.int (i32 (33)), .ref 66]) rfl rfl rfl rfl ?_
      refine jx_vr (pc' := 208) (as := [.int (i32 (33))]) (st := []) rfl rfl rfl rfl ⟨rfl, rfl, Nat.le_of_ble_eq_true rfl⟩ rfl rfl (c_is (dd := d) (hd := by omega) (hW := hWx) (k := 33) (tk := tk1) (e_tk := show Gx 11 = tk1 from (ex_tk1)) (tn := Gx 13) (e_tn := show Gx 13 = Gx 13 from rfl)  (h_k := ⟨(by decide), (by decide)⟩)  ) (fun o V' hq => ?_)
      obtain ⟨r1008, rfl, rfl, b1009, q1010⟩ := hq
      refine .inr ⟨_, rfl, ?_⟩
      rcases q1010 with ⟨rfl, a1011, a1012, a1013⟩ | rfl
      · have _q : True := trivial
        refine jx_if_ne (pc' := 211) (tg := 231) rfl rfl rfl (by decide) (by decide) (fun h1014 => ?_) (fun h1014 => ?_)
        · have _q := h1014
          have z1015 := tz_f (tk1)
          exact c_readNamed_at_231_0 (X := X) (d := d) (Vs := Vs) (sb := sb) (pb := pb) (c0 := c0) (c1 := c1) (G := G) (A := A) (T := T) (ln := ln) (le := le) (at0 := at0) (fk := fk) (op0 := op0) (nd := nd) (tk0 := tk0) (li := li) (hd := hd) (hW := hW) (e_ln := e_ln) (e_le := e_le) (e_at0 := e_at0) (e_fk := e_fk) (e_op0 := e_op0) (e_nd := e_nd) (e_tk0 := e_tk0) (e_li := e_li) (i_SV := i_SV) (i_PQ := i_PQ) (p_0 := p_0) (p_1 := p_1) (p_2 := p_2) (p_3 := p_3) (p_4 := p_4) (p_5 := p_5) L Gx Ax (pl) (s) (at1) (tk1) (fk1) (nd1) (op1) (ks) gL_0 gL_5 gL_3 gL_4 gL_1 gL_2 hWx hFx hPx ((ex_at1)) ((ex_tk1)) ((ex_fk1)) ((ex_nd1)) ((ex_op1)) ((ex_ks)) ((fx_9)) (by omega) (by omega) (by omega) (by omega) (by omega) (by omega) (by omega) (by omega) (by omega) (by omega) (by omega) (iv_8)
        · have _q := h1014
          exact absurd h1014 (by omega)
      · have _q : True := trivial
        refine jx_if_ne (pc' := 211) (tg := 231) rfl rfl rfl (by decide) (by decide) (fun h1016 => ?_) (fun h1016 => ?_)
        · have _q := h1016
          exact absurd h1016 (by omega)
        · have _q := h1016
          refine jx_ld (pc' := 212) (l' := L) (st' := [.ref 66]) rfl (jl_aloadn gL_0) ?_
          refine jx_ar (pc' := 214) (st' := [.int (i32 (63)), .ref 66]) rfl rfl rfl rfl ?_
          refine jx_vr (pc' := 217) (as := [.int (i32 (63))]) (st := []) rfl rfl rfl rfl ⟨rfl, rfl, Nat.le_of_ble_eq_true rfl⟩ rfl rfl (c_is (dd := d) (hd := by omega) (hW := hWx) (k := 63) (tk := tk1) (e_tk := show Gx 11 = tk1 from (ex_tk1)) (tn := Gx 13) (e_tn := show Gx 13 = Gx 13 from rfl)  (h_k := ⟨(by decide), (by decide)⟩)  ) (fun o V' hq => ?_)
          obtain ⟨r1017, rfl, rfl, b1018, q1019⟩ := hq
          refine .inr ⟨_, rfl, ?_⟩
          rcases q1019 with ⟨rfl, a1020, a1021, a1022⟩ | rfl
          · have _q : True := trivial
            refine jx_if_ne (pc' := 220) (tg := 231) rfl rfl rfl (by decide) (by decide) (fun h1023 => ?_) (fun h1023 => ?_)
            · have _q := h1023
              have z1024 := tz_f (tk1)
              exact c_readNamed_at_231_0 (X := X) (d := d) (Vs := Vs) (sb := sb) (pb := pb) (c0 := c0) (c1 := c1) (G := G) (A := A) (T := T) (ln := ln) (le := le) (at0 := at0) (fk := fk) (op0 := op0) (nd := nd) (tk0 := tk0) (li := li) (hd := hd) (hW := hW) (e_ln := e_ln) (e_le := e_le) (e_at0 := e_at0) (e_fk := e_fk) (e_op0 := e_op0) (e_nd := e_nd) (e_tk0 := e_tk0) (e_li := e_li) (i_SV := i_SV) (i_PQ := i_PQ) (p_0 := p_0) (p_1 := p_1) (p_2 := p_2) (p_3 := p_3) (p_4 := p_4) (p_5 := p_5) L Gx Ax (pl) (s) (at1) (tk1) (fk1) (nd1) (op1) (ks) gL_0 gL_5 gL_3 gL_4 gL_1 gL_2 hWx hFx hPx ((ex_at1)) ((ex_tk1)) ((ex_fk1)) ((ex_nd1)) ((ex_op1)) ((ex_ks)) ((fx_9)) (by omega) (by omega) (by omega) (by omega) (by omega) (by omega) (by omega) (by omega) (by omega) (by omega) (by omega) (iv_8)
            · have _q := h1023
              exact absurd h1023 (by omega)
          · have _q : True := trivial
            refine jx_if_ne (pc' := 220) (tg := 231) rfl rfl rfl (by decide) (by decide) (fun h1025 => ?_) (fun h1025 => ?_)
            · have _q := h1025
              exact absurd h1025 (by omega)
            · have _q := h1025
              refine jx_ld (pc' := 221) (l' := L) (st' := [.ref 66]) rfl (jl_aloadn gL_0) ?_
              refine jx_ar (pc' := 222) (st' := [.int (i32 (1)), .ref 66]) rfl rfl rfl rfl ?_
              refine jx_ld (pc' := 223) (l' := L) (st' := [.ref 66, .int (i32 (1)), .ref 66]) rfl (jl_aloadn gL_0) ?_
              have b1026 : (-3000 : Int) ≤ Gx 12 ∧ Gx 12 ≤ 3002 := hWx.1 12
              refine jr_get (pc' := 226) (i := 12) (v := .int (i32 (Gx 12))) rfl rfl (by decide) rfl rfl ?_
              refine jx_vr (pc' := 229) (as := [.int (i32 (1)), .int (i32 (Gx 12))]) (st := []) rfl rfl rfl rfl ⟨rfl, rfl, Nat.le_of_ble_eq_true rfl⟩ rfl rfl (c_fail (dd := d) (hd := by omega) (hW := hWx) (kind := 1) (place := Gx 12) (fk := fk1) (e_fk := show Gx 16 = fk1 from (ex_fk1))  (h_kind := ⟨(by decide), (by decide)⟩) (h_place := ⟨(Int.le_trans (by decide : (-2147483648 : Int) ≤ -3000) b1026.1), (Int.le_trans b1026.2 (by decide : (3002 : Int) ≤ 2147483647))⟩)  (p_0 := by omega) (p_1 := by omega)) (fun o V' hq => ?_)
              obtain ⟨G1027, A1028, fk2_1029, rfl, rfl, hW1030, hF1031, e1032, p1033, -⟩ := hq
              have hF1035 := Fr_tr hFx hF1031 (Fr_sub (by decide)) (Fr_sub (by decide))
              have hP1036 := Pf_f hPx hF1031 (by decide)
              have bfk2_1029 : (0 : Int) ≤ fk2_1029 ∧ fk2_1029 ≤ 6 := e1032 ▸ hW1030.1 16
              refine .inl ⟨rfl, ?_⟩
              refine jx_ar (pc' := 230) (st' := [.int (i32 (0))]) rfl rfl rfl rfl ?_
              refine jx_rt (v := some (.int (i32 (0)))) rfl rfl rfl rfl rfl rfl ?_
              exact ⟨_, _, _, at1, fk2_1029, nd1, ln, rfl, rfl, hW1030, hF1035, hP1036, by omega, ((hF1031.1 10 rfl).trans (ex_at1)), (e1032), ((hF1031.1 31 rfl).trans (ex_nd1)), ((hF1031.1 9 rfl).trans (fx_9)), by omega, by omega, by omega, by omega, by omega, by first | exact Or.inl (⟨by omega, by omega, by omega⟩)⟩
    · have _q := h1007
      exact absurd h1007 (by omega)
set_option maxRecDepth 20000 in
set_option maxHeartbeats 4000000 in
theorem c_readNamed {X : jX} {dd : Nat} {Vs : Nat → Prop} {sb pb : Int} {c0 c1 : jC} {G : Nat → Int} {A : Nat → Nat → Int} {T : jH} {ln le at0 fk op0 nd tk0 li : Int} (hd : 72 ≤ dd) (hW : Wk G A) (e_ln : G 9 = ln) (e_le : A 4 (ln).toNat = le) (e_at0 : G 10 = at0) (e_fk : G 16 = fk) (e_op0 : G 15 = op0) (e_nd : G 31 = nd) (e_tk0 : G 11 = tk0) (e_li : G 3 = li) (i_SV : SV Vs sb G A) (i_PQ : PQ Vs sb pb G A) (p_0 : 0 ≤ op0 ∧ op0 ≤ 8) (p_1 : fk = 0) (p_2 : nd ≤ 2 * at0 - tz tk0 + 42) (p_3 : at0 ≤ le) (p_4 : ln < li) (p_5 : tk0 = 1) : wk X dd 304 [.ref 66] (rV c0 c1 G A T) (fun o V' => ∃ (G' : Nat → Int) (A' : Nat → Nat → Int) (r : Int) (at2 : Int) (fk2 : Int) (nd2 : Int) (ln2 : Int), V' = rV c0 c1 G' A' T ∧ o = .inl (some (.int (i32 r))) ∧ Wk G' A' ∧ Fr [9, 10, 11, 12, 13, 14, 15, 16, 17, 18, 31] [15, 16, 17, 18, 19, 20, 21, 22, 24, 28] G A G' A' ∧ Pf nd A A' ∧ ((-2147483648 : Int) ≤ r ∧ r ≤ 2147483647) ∧ G' 10 = at2 ∧ G' 16 = fk2 ∧ G' 31 = nd2 ∧ G' 9 = ln2 ∧ (at0 ≤ at2) ∧ (at2 ≤ le) ∧ (nd ≤ nd2) ∧ (0 ≤ r) ∧ (r ≤ nd2) ∧ (((1 ≤ fk2) ∧ (ln2 = ln) ∧ (nd2 - nd ≤ 2 * at2 - 2 * at0 + 8)) ∨ ((fk2 = 0) ∧ (ln2 = ln + 1) ∧ (nd2 - nd ≤ 2 * at2 - (2 * at0 - tz tk0) + 0) ∧ (nd ≤ r) ∧ (r < nd2) ∧ (wL A' sb pb Vs (r) (nd) (nd2)) ∧ (NX A' (r))))) := by
  obtain ⟨d, rfl⟩ : ∃ d, dd = d + 1 := ⟨dd - 1, by omega⟩
  refine wk_of (e := jm304) rfl (Nat.le_of_ble_eq_true rfl) ?_
  show wj X d jm304 (0, [(0, .ref 66)], [], rV c0 c1 G A T) _
  have hF0 : Fr [9, 10, 11, 12, 13, 14, 15, 16, 17, 18, 31] [15, 16, 17, 18, 19, 20, 21, 22, 24, 28] G A G A := Fr_rf
  have hP0 : Pf nd A A := Pf_rf
  have b_ln : (0 : Int) ≤ ln ∧ ln ≤ 3000 := e_ln ▸ hW.1 9
  have b_le : (0 : Int) ≤ le ∧ le ≤ 3000 := e_le ▸ hW.2 4 _
  have b_at0 : (0 : Int) ≤ at0 ∧ at0 ≤ 3002 := e_at0 ▸ hW.1 10
  have b_fk : (0 : Int) ≤ fk ∧ fk ≤ 6 := e_fk ▸ hW.1 16
  have b_op0 : (-2147483648 : Int) ≤ op0 ∧ op0 ≤ 2147483647 := e_op0 ▸ hW.1 15
  have b_nd : (0 : Int) ≤ nd ∧ nd ≤ 6999 := e_nd ▸ hW.1 31
  have z_tk0 := tz_f tk0
  have b_tk0 : (0 : Int) ≤ tk0 ∧ tk0 ≤ 5 := e_tk0 ▸ hW.1 11
  have b_li : (0 : Int) ≤ li ∧ li ≤ 3000 := e_li ▸ hW.1 3
  refine jx_ld (pc' := 1) (l' := [(0, .ref 66)]) (st' := [.ref 66]) rfl (jl_aloadn rfl) ?_
  have b1037 : (-3000 : Int) ≤ G 12 ∧ G 12 ≤ 3002 := hW.1 12
  refine jr_get (pc' := 4) (i := 12) (v := .int (i32 (G 12))) rfl rfl (by decide) rfl rfl ?_
  refine jx_ld (pc' := 5) (l' := jSto1 [(0, .ref 66)] 1 (.int (i32 (G 12)))) (st' := []) rfl rfl ?_
  obtain ⟨L1038, eL1038⟩ : ∃ q, q = jSto1 [(0, .ref 66)] 1 (.int (i32 (G 12))) := ⟨_, rfl⟩
  rw [← eL1038]
  have gL1038_0 : jGet L1038 0 = some (.ref 66) := eL1038 ▸ jg_ne (by decide) (rfl : jGet [(0, .ref 66)] 0 = some (.ref 66)) rfl
  have gL1038_1 : jGet L1038 1 = some (.int (i32 (G 12))) := eL1038 ▸ jg_eq
  refine jx_ld (pc' := 6) (l' := L1038) (st' := [.ref 66]) rfl (jl_aloadn gL1038_0) ?_
  refine jx_vr (pc' := 9) (as := []) (st := []) rfl rfl rfl rfl ⟨rfl, rfl, Nat.le_of_ble_eq_true rfl⟩ rfl rfl (c_lookUp (dd := d) (hd := by omega) (hW := hW)  (fk := fk) (e_fk := show G 16 = fk from (e_fk)) (i_SV := (SV_ext (rfl) (rfl) i_SV))   ) (fun o V' hq => ?_)
  obtain ⟨G1039, A1040, r1041, fk2_1042, rfl, rfl, hW1043, hF1044, b1045, e1046, q1047⟩ := hq
  have hF1048 := Fr_tr hF0 hF1044 (Fr_sub (by decide)) (Fr_sub (by decide))
  have hP1049 := Pf_f hP0 hF1044 (by decide)
  have bfk2_1042 : (0 : Int) ≤ fk2_1042 ∧ fk2_1042 ≤ 6 := e1046 ▸ hW1043.1 16
  refine .inr ⟨_, rfl, ?_⟩
  rcases q1047 with ⟨a1050, a1051⟩ | ⟨a1052, a1053, a1054, a1055⟩
  · have _q : True := trivial
    refine jx_ld (pc' := 10) (l' := jSto1 L1038 2 (.int (i32 (r1041)))) (st' := []) rfl rfl ?_
    obtain ⟨L1056, eL1056⟩ : ∃ q, q = jSto1 L1038 2 (.int (i32 (r1041))) := ⟨_, rfl⟩
    rw [← eL1056]
    have gL1056_0 : jGet L1056 0 = some (.ref 66) := eL1056 ▸ jg_ne (by decide) gL1038_0 rfl
    have gL1056_1 : jGet L1056 1 = some (.int (i32 (G 12))) := eL1056 ▸ jg_ne (by decide) gL1038_1 rfl
    have gL1056_2 : jGet L1056 2 = some (.int (i32 (r1041))) := eL1056 ▸ jg_eq
    refine jx_ld (pc' := 11) (l' := L1056) (st' := [.ref 66]) rfl (jl_aloadn gL1056_0) ?_
    refine jx_vr (pc' := 14) (as := []) (st := []) rfl rfl rfl rfl ⟨rfl, rfl, Nat.le_of_ble_eq_true rfl⟩ rfl rfl (c_bad (dd := d) (hd := by omega) (hW := hW1043)  (fk := fk2_1042) (e_fk := show G1039 16 = fk2_1042 from (e1046))    ) (fun o V' hq => ?_)
    obtain ⟨r1057, rfl, rfl, b1058, q1059⟩ := hq
    refine .inr ⟨_, rfl, ?_⟩
    rcases q1059 with ⟨rfl, a1060⟩ | ⟨rfl, a1061⟩
    · have _q : True := trivial
      refine jx_if_eq (pc' := 17) (tg := 19) rfl rfl rfl (by decide) (by decide) (fun h1062 => ?_) (fun h1062 => ?_)
      · have _q := h1062
        exact absurd h1062 (by omega)
      · have _q := h1062
        refine jx_ar (pc' := 18) (st' := [.int (i32 (0))]) rfl rfl rfl rfl ?_
        refine jx_rt (v := some (.int (i32 (0)))) rfl rfl rfl rfl rfl rfl ?_
        exact ⟨_, _, _, at0, fk2_1042, nd, ln, rfl, rfl, hW1043, hF1048, hP1049, by omega, ((hF1044.1 10 rfl).trans (e_at0)), (e1046), ((hF1044.1 31 rfl).trans (e_nd)), ((hF1044.1 9 rfl).trans (e_ln)), by omega, by omega, by omega, by omega, by omega, by first | exact Or.inl (⟨by omega, by omega, by omega⟩)⟩
    · have _q : True := trivial
      exfalso
      omega
  · have _q : True := trivial
    refine jx_ld (pc' := 10) (l' := jSto1 L1038 2 (.int (i32 (r1041)))) (st' := []) rfl rfl ?_
    obtain ⟨L1063, eL1063⟩ : ∃ q, q = jSto1 L1038 2 (.int (i32 (r1041))) := ⟨_, rfl⟩
    rw [← eL1063]
    have gL1063_0 : jGet L1063 0 = some (.ref 66) := eL1063 ▸ jg_ne (by decide) gL1038_0 rfl
    have gL1063_1 : jGet L1063 1 = some (.int (i32 (G 12))) := eL1063 ▸ jg_ne (by decide) gL1038_1 rfl
    have gL1063_2 : jGet L1063 2 = some (.int (i32 (r1041))) := eL1063 ▸ jg_eq
    refine jx_ld (pc' := 11) (l' := L1063) (st' := [.ref 66]) rfl (jl_aloadn gL1063_0) ?_
    refine jx_vr (pc' := 14) (as := []) (st := []) rfl rfl rfl rfl ⟨rfl, rfl, Nat.le_of_ble_eq_true rfl⟩ rfl rfl (c_bad (dd := d) (hd := by omega) (hW := hW1043)  (fk := fk2_1042) (e_fk := show G1039 16 = fk2_1042 from (e1046))    ) (fun o V' hq => ?_)
    obtain ⟨r1064, rfl, rfl, b1065, q1066⟩ := hq
    refine .inr ⟨_, rfl, ?_⟩
    rcases q1066 with ⟨rfl, a1067⟩ | ⟨rfl, a1068⟩
    · have _q : True := trivial
      exfalso
      omega
    · have _q : True := trivial
      refine jx_if_eq (pc' := 17) (tg := 19) rfl rfl rfl (by decide) (by decide) (fun h1069 => ?_) (fun h1069 => ?_)
      · have _q := h1069
        refine jx_ld (pc' := 20) (l' := L1063) (st' := [.ref 66]) rfl (jl_aloadn gL1063_0) ?_
        refine jr_get (pc' := 23) (i := 21) (v := .ref 74) rfl rfl (by decide) rfl rfl ?_
        refine jx_ld (pc' := 24) (l' := L1063) (st' := [.int (i32 (r1041)), .ref 74]) rfl (jl_iloadn gL1063_2) ?_
        have b1070 : (0 : Int) ≤ A 7 (r1041).toNat ∧ A 7 (r1041).toNat ≤ 14 := hW.2 7 _
        refine jr_ldv (pc' := 25) (i := 7) (m := 260) (z := r1041) (y := A 7 (r1041).toNat) rfl (by decide) rfl (by decide) (by omega) (by omega) rfl (show A1040 7 (r1041).toNat = A 7 (r1041).toNat from (congrFun (hF1044.2 7 rfl) _)) ?_
        refine jx_ld (pc' := 26) (l' := jSto1 L1063 3 (.int (i32 (A 7 (r1041).toNat)))) (st' := []) rfl rfl ?_
        obtain ⟨L1071, eL1071⟩ : ∃ q, q = jSto1 L1063 3 (.int (i32 (A 7 (r1041).toNat))) := ⟨_, rfl⟩
        rw [← eL1071]
        have gL1071_0 : jGet L1071 0 = some (.ref 66) := eL1071 ▸ jg_ne (by decide) gL1063_0 rfl
        have gL1071_1 : jGet L1071 1 = some (.int (i32 (G 12))) := eL1071 ▸ jg_ne (by decide) gL1063_1 rfl
        have gL1071_2 : jGet L1071 2 = some (.int (i32 (r1041))) := eL1071 ▸ jg_ne (by decide) gL1063_2 rfl
        have gL1071_3 : jGet L1071 3 = some (.int (i32 (A 7 (r1041).toNat))) := eL1071 ▸ jg_eq
        refine jx_ld (pc' := 27) (l' := L1071) (st' := [.ref 66]) rfl (jl_aloadn gL1071_0) ?_
        refine jx_vr (pc' := 30) (as := []) (st := []) rfl rfl rfl rfl ⟨rfl, rfl, Nat.le_of_ble_eq_true rfl⟩ rfl rfl (c_next (dd := d) (hd := by omega) (hW := hW1043)  (ln := ln) (e_ln := show G1039 9 = ln from ((hF1044.1 9 rfl).trans (e_ln))) (le := le) (e_le := show A1040 4 (ln).toNat = le from (congrFun (hF1044.2 4 rfl) _).trans (e_le)) (at0 := at0) (e_at0 := show G1039 10 = at0 from ((hF1044.1 10 rfl).trans (e_at0)))    (p_0 := by omega)) (fun o V' hq => ?_)
        obtain ⟨G1072, A1073, at2_1074, tk2_1075, rfl, rfl, hW1076, hF1077, e1078, e1079, p1080, p1081, p1082, -⟩ := hq
        have hF1084 := Fr_tr hF1048 hF1077 (Fr_sub (by decide)) (Fr_sub (by decide))
        have hP1085 := Pf_f hP1049 hF1077 (by decide)
        have bat2_1074 : (0 : Int) ≤ at2_1074 ∧ at2_1074 ≤ 3002 := e1078 ▸ hW1076.1 10
        have ztk2_1075 := tz_b tk2_1075
        have btk2_1075 : (0 : Int) ≤ tk2_1075 ∧ tk2_1075 ≤ 5 := e1079 ▸ hW1076.1 11
        refine .inl ⟨rfl, ?_⟩
        refine jx_ld (pc' := 31) (l' := L1071) (st' := [.ref 66]) rfl (jl_aloadn gL1071_0) ?_
        refine jx_ar (pc' := 33) (st' := [.int (i32 (40)), .ref 66]) rfl rfl rfl rfl ?_
        have b1086 : (-2147483648 : Int) ≤ G1072 13 ∧ G1072 13 ≤ 2147483647 := hW1076.1 13
        refine jx_vr (pc' := 36) (as := [.int (i32 (40))]) (st := []) rfl rfl rfl rfl ⟨rfl, rfl, Nat.le_of_ble_eq_true rfl⟩ rfl rfl (c_is (dd := d) (hd := by omega) (hW := hW1076) (k := 40) (tk := tk2_1075) (e_tk := show G1072 11 = tk2_1075 from (e1079)) (tn := G1072 13) (e_tn := show G1072 13 = G1072 13 from rfl)  (h_k := ⟨(by decide), (by decide)⟩)  ) (fun o V' hq => ?_)
        obtain ⟨r1087, rfl, rfl, b1088, q1089⟩ := hq
        refine .inr ⟨_, rfl, ?_⟩
        rcases q1089 with ⟨rfl, a1090, a1091, a1092⟩ | rfl
        · have _q : True := trivial
          refine jx_if_eq (pc' := 39) (tg := 59) rfl rfl rfl (by decide) (by decide) (fun h1093 => ?_) (fun h1093 => ?_)
          · have _q := h1093
            exact absurd h1093 (by omega)
          · have _q := h1093
            refine jx_ld (pc' := 40) (l' := L1071) (st' := [.int (i32 (A 7 (r1041).toNat))]) rfl (jl_iloadn gL1071_3) ?_
            refine jx_ar (pc' := 42) (st' := [.int (i32 (14)), .int (i32 (A 7 (r1041).toNat))]) rfl rfl rfl rfl ?_
            refine jx_icmp_eq (pc' := 45) (tg := 53) rfl rfl rfl (Int.le_trans (by decide : (-2147483648 : Int) ≤ 0) b1070.1) (Int.le_trans b1070.2 (by decide : (14 : Int) ≤ 2147483647)) (by decide) (by decide) (fun h1094 => ?_) (fun h1094 => ?_)
            · have _q := h1094
              refine jx_ld (pc' := 54) (l' := L1071) (st' := [.ref 66]) rfl (jl_aloadn gL1071_0) ?_
              refine jx_ld (pc' := 55) (l' := L1071) (st' := [.int (i32 (r1041)), .ref 66]) rfl (jl_iloadn gL1071_2) ?_
              have b1095 : (0 : Int) ≤ A 12 (r1041).toNat ∧ A 12 (r1041).toNat ≤ 24 := hW.2 12 _
              have b1096 : (0 : Int) ≤ A 30 (A 12 (r1041).toNat).toNat ∧ A 30 (A 12 (r1041).toNat).toNat ≤ 6 := hW.2 30 _
              have b1097 : (0 : Int) ≤ A 29 (A 12 (r1041).toNat).toNat ∧ A 29 (A 12 (r1041).toNat).toNat ≤ 202 := hW.2 29 _
              refine jx_vr (pc' := 58) (as := [.int (i32 (r1041))]) (st := []) rfl rfl rfl rfl ⟨rfl, rfl, Nat.le_of_ble_eq_true rfl⟩ rfl rfl (c_readCall (dd := d) (hd := by omega) (hW := hW1076) (s := r1041) (ln := ln) (e_ln := show G1072 9 = ln from ((hF1077.1 9 rfl).trans ((hF1044.1 9 rfl).trans (e_ln)))) (le := le) (e_le := show A1073 4 (ln).toNat = le from (congrFun ((hF1077.2 4 rfl).trans (hF1044.2 4 rfl)) _).trans (e_le)) (at0 := at2_1074) (e_at0 := show G1072 10 = at2_1074 from (e1078)) (fk := fk2_1042) (e_fk := show G1072 16 = fk2_1042 from ((hF1077.1 16 rfl).trans (e1046))) (op0 := op0) (e_op0 := show G1072 15 = op0 from ((hF1077.1 15 rfl).trans ((hF1044.1 15 rfl).trans (e_op0)))) (nd := nd) (e_nd := show G1072 31 = nd from ((hF1077.1 31 rfl).trans ((hF1044.1 31 rfl).trans (e_nd)))) (tk0 := tk2_1075) (e_tk0 := show G1072 11 = tk2_1075 from (e1079)) (li := li) (e_li := show G1072 3 = li from ((hF1077.1 3 rfl).trans ((hF1044.1 3 rfl).trans (e_li)))) (kd := A 7 (r1041).toNat) (e_kd := show A1073 7 (r1041).toNat = A 7 (r1041).toNat from (congrFun ((hF1077.2 7 rfl).trans (hF1044.2 7 rfl)) _)) (nu := A 12 (r1041).toNat) (e_nu := show A1073 12 (r1041).toNat = A 12 (r1041).toNat from (congrFun ((hF1077.2 12 rfl).trans (hF1044.2 12 rfl)) _)) (mp := A 30 (A 12 (r1041).toNat).toNat) (e_mp := show A1073 30 (A 12 (r1041).toNat).toNat = A 30 (A 12 (r1041).toNat).toNat from (congrFun ((hF1077.2 30 rfl).trans (hF1044.2 30 rfl)) _)) (pp := A 29 (A 12 (r1041).toNat).toNat) (e_pp := show A1073 29 (A 12 (r1041).toNat).toNat = A 29 (A 12 (r1041).toNat).toNat from (congrFun ((hF1077.2 29 rfl).trans (hF1044.2 29 rfl)) _)) (i_SV := (SV_ext (((hF1077.1 29 rfl).trans (hF1044.1 29 rfl))) (((hF1077.2 14 rfl).trans (hF1044.2 14 rfl))) i_SV)) (i_PQ := (PQ_ext (((hF1077.2 7 rfl).trans (hF1044.2 7 rfl))) (((hF1077.2 12 rfl).trans (hF1044.2 12 rfl))) (((hF1077.2 29 rfl).trans (hF1044.2 29 rfl))) (((hF1077.2 30 rfl).trans (hF1044.2 30 rfl))) i_PQ)) (h_s := ⟨(Int.le_trans (by decide : (-2147483648 : Int) ≤ -2147483648) b1045.1), (Int.le_trans b1045.2 (by decide : (2147483647 : Int) ≤ 2147483647))⟩)  (p_0 := by omega) (p_1 := by omega) (p_2 := by omega) (p_3 := by omega) (p_4 := by omega) (p_5 := by omega) (p_6 := by omega) (p_7 := by omega) (p_8 := a1055)) (fun o V' hq => ?_)
              obtain ⟨G1098, A1099, r1100, at2_1101, fk2_1102, nd2_1103, ln2_1104, rfl, rfl, hW1105, hF1106, hQ1107, b1108, e1109, e1110, e1111, e1112, p1113, p1114, p1115, p1116, p1117, q1118⟩ := hq
              have hF1119 := Fr_tr hF1084 hF1106 (Fr_sub (by decide)) (Fr_sub (by decide))
              have hP1120 := Pf_tr hP1085 hQ1107 (by omega)
              have bat2_1101 : (0 : Int) ≤ at2_1101 ∧ at2_1101 ≤ 3002 := e1109 ▸ hW1105.1 10
              have bfk2_1102 : (0 : Int) ≤ fk2_1102 ∧ fk2_1102 ≤ 6 := e1110 ▸ hW1105.1 16
              have bnd2_1103 : (0 : Int) ≤ nd2_1103 ∧ nd2_1103 ≤ 6999 := e1111 ▸ hW1105.1 31
              have bln2_1104 : (0 : Int) ≤ ln2_1104 ∧ ln2_1104 ≤ 3000 := e1112 ▸ hW1105.1 9
              refine .inr ⟨_, rfl, ?_⟩
              rcases q1118 with ⟨a1121, a1122, a1123⟩ | ⟨a1124, a1125, a1126, a1127, a1128, a1129, a1130⟩
              · have _q : True := trivial
                refine jx_rt (v := some (.int (i32 (r1100)))) rfl rfl rfl rfl rfl rfl ?_
                exact ⟨_, _, _, at2_1101, fk2_1102, nd2_1103, ln2_1104, rfl, rfl, hW1105, hF1119, hP1120, by omega, (e1109), (e1110), (e1111), (e1112), by omega, by omega, by omega, by omega, by omega, by first | exact Or.inl (⟨by omega, by omega, by omega⟩)⟩
              · have _q : True := trivial
                refine jx_rt (v := some (.int (i32 (r1100)))) rfl rfl rfl rfl rfl rfl ?_
                exact ⟨_, _, _, at2_1101, fk2_1102, nd2_1103, ln2_1104, rfl, rfl, hW1105, hF1119, hP1120, by omega, (e1109), (e1110), (e1111), (e1112), by omega, by omega, by omega, by omega, by omega, by first | exact Or.inr ((⟨by omega, by omega, by omega, by omega, by omega, a1129, a1130⟩))⟩
            · have _q := h1094
              refine jx_ld (pc' := 46) (l' := L1071) (st' := [.ref 66]) rfl (jl_aloadn gL1071_0) ?_
              refine jx_ar (pc' := 47) (st' := [.int (i32 (4)), .ref 66]) rfl rfl rfl rfl ?_
              refine jx_ld (pc' := 48) (l' := L1071) (st' := [.int (i32 (G 12)), .int (i32 (4)), .ref 66]) rfl (jl_iloadn gL1071_1) ?_
              refine jx_vr (pc' := 51) (as := [.int (i32 (4)), .int (i32 (G 12))]) (st := []) rfl rfl rfl rfl ⟨rfl, rfl, Nat.le_of_ble_eq_true rfl⟩ rfl rfl (c_fail (dd := d) (hd := by omega) (hW := hW1076) (kind := 4) (place := G 12) (fk := fk2_1042) (e_fk := show G1072 16 = fk2_1042 from ((hF1077.1 16 rfl).trans (e1046)))  (h_kind := ⟨(by decide), (by decide)⟩) (h_place := ⟨(Int.le_trans (by decide : (-2147483648 : Int) ≤ -3000) b1037.1), (Int.le_trans b1037.2 (by decide : (3002 : Int) ≤ 2147483647))⟩)  (p_0 := by omega) (p_1 := by omega)) (fun o V' hq => ?_)
              obtain ⟨G1131, A1132, fk2_1133, rfl, rfl, hW1134, hF1135, e1136, p1137, -⟩ := hq
              have hF1139 := Fr_tr hF1084 hF1135 (Fr_sub (by decide)) (Fr_sub (by decide))
              have hP1140 := Pf_f hP1085 hF1135 (by decide)
              have bfk2_1133 : (0 : Int) ≤ fk2_1133 ∧ fk2_1133 ≤ 6 := e1136 ▸ hW1134.1 16
              refine .inl ⟨rfl, ?_⟩
              refine jx_ar (pc' := 52) (st' := [.int (i32 (0))]) rfl rfl rfl rfl ?_
              refine jx_rt (v := some (.int (i32 (0)))) rfl rfl rfl rfl rfl rfl ?_
              exact ⟨_, _, _, at2_1074, fk2_1133, nd, ln, rfl, rfl, hW1134, hF1139, hP1140, by omega, ((hF1135.1 10 rfl).trans (e1078)), (e1136), ((hF1135.1 31 rfl).trans ((hF1077.1 31 rfl).trans ((hF1044.1 31 rfl).trans (e_nd)))), ((hF1135.1 9 rfl).trans ((hF1077.1 9 rfl).trans ((hF1044.1 9 rfl).trans (e_ln)))), by omega, by omega, by omega, by omega, by omega, by first | exact Or.inl (⟨by omega, by omega, by omega⟩)⟩
        · have _q : True := trivial
          refine jx_if_eq (pc' := 39) (tg := 59) rfl rfl rfl (by decide) (by decide) (fun h1141 => ?_) (fun h1141 => ?_)
          · have _q := h1141
            refine jx_ar (pc' := 60) (st' := [.int (i32 (0))]) rfl rfl rfl rfl ?_
            refine jx_ld (pc' := 62) (l' := jSto1 L1071 4 (.int (i32 (0)))) (st' := []) rfl rfl ?_
            obtain ⟨L1142, eL1142⟩ : ∃ q, q = jSto1 L1071 4 (.int (i32 (0))) := ⟨_, rfl⟩
            rw [← eL1142]
            have gL1142_0 : jGet L1142 0 = some (.ref 66) := eL1142 ▸ jg_ne (by decide) gL1071_0 rfl
            have gL1142_1 : jGet L1142 1 = some (.int (i32 (G 12))) := eL1142 ▸ jg_ne (by decide) gL1071_1 rfl
            have gL1142_2 : jGet L1142 2 = some (.int (i32 (r1041))) := eL1142 ▸ jg_ne (by decide) gL1071_2 rfl
            have gL1142_3 : jGet L1142 3 = some (.int (i32 (A 7 (r1041).toNat))) := eL1142 ▸ jg_ne (by decide) gL1071_3 rfl
            have gL1142_4 : jGet L1142 4 = some (.int (i32 (0))) := eL1142 ▸ jg_eq
            refine jx_ld (pc' := 63) (l' := L1142) (st' := [.ref 66]) rfl (jl_aloadn gL1142_0) ?_
            refine jx_ar (pc' := 65) (st' := [.int (i32 (91)), .ref 66]) rfl rfl rfl rfl ?_
            refine jx_vr (pc' := 68) (as := [.int (i32 (91))]) (st := []) rfl rfl rfl rfl ⟨rfl, rfl, Nat.le_of_ble_eq_true rfl⟩ rfl rfl (c_is (dd := d) (hd := by omega) (hW := hW1076) (k := 91) (tk := tk2_1075) (e_tk := show G1072 11 = tk2_1075 from (e1079)) (tn := G1072 13) (e_tn := show G1072 13 = G1072 13 from rfl)  (h_k := ⟨(by decide), (by decide)⟩)  ) (fun o V' hq => ?_)
            obtain ⟨r1143, rfl, rfl, b1144, q1145⟩ := hq
            refine .inr ⟨_, rfl, ?_⟩
            rcases q1145 with ⟨rfl, a1146, a1147, a1148⟩ | rfl
            · have _q : True := trivial
              refine jx_ld (pc' := 70) (l' := jSto1 L1142 5 (.int (i32 (1)))) (st' := []) rfl rfl ?_
              obtain ⟨L1149, eL1149⟩ : ∃ q, q = jSto1 L1142 5 (.int (i32 (1))) := ⟨_, rfl⟩
              rw [← eL1149]
              have gL1149_0 : jGet L1149 0 = some (.ref 66) := eL1149 ▸ jg_ne (by decide) gL1142_0 rfl
              have gL1149_1 : jGet L1149 1 = some (.int (i32 (G 12))) := eL1149 ▸ jg_ne (by decide) gL1142_1 rfl
              have gL1149_2 : jGet L1149 2 = some (.int (i32 (r1041))) := eL1149 ▸ jg_ne (by decide) gL1142_2 rfl
              have gL1149_3 : jGet L1149 3 = some (.int (i32 (A 7 (r1041).toNat))) := eL1149 ▸ jg_ne (by decide) gL1142_3 rfl
              have gL1149_4 : jGet L1149 4 = some (.int (i32 (0))) := eL1149 ▸ jg_ne (by decide) gL1142_4 rfl
              have gL1149_5 : jGet L1149 5 = some (.int (i32 (1))) := eL1149 ▸ jg_eq
              refine jx_ld (pc' := 72) (l' := L1149) (st' := [.int (i32 (1))]) rfl (jl_iload gL1149_5) ?_
              refine jx_if_eq (pc' := 75) (tg := 110) rfl rfl rfl (by decide) (by decide) (fun h1150 => ?_) (fun h1150 => ?_)
              · have _q := h1150
                exact absurd h1150 (by omega)
              · have _q := h1150
                refine jx_ld (pc' := 76) (l' := L1149) (st' := [.int (i32 (A 7 (r1041).toNat))]) rfl (jl_iloadn gL1149_3) ?_
                refine jx_st (pc' := 79) (as := [.int (i32 (A 7 (r1041).toNat))]) (st := []) rfl rfl ⟨rfl, Nat.le_of_ble_eq_true rfl⟩ rfl rfl rfl (c_isArray (dd := d) (hd := by omega) (k := A 7 (r1041).toNat)   (h_k := ⟨(Int.le_trans (by decide : (-2147483648 : Int) ≤ 0) b1070.1), (Int.le_trans b1070.2 (by decide : (14 : Int) ≤ 2147483647))⟩)  ) (fun o V' hq => ?_)
                obtain ⟨r1151, rfl, rfl, b1152, q1153⟩ := hq
                refine .inr ⟨_, rfl, ?_⟩
                rcases q1153 with ⟨rfl, a1154⟩ | rfl
                · have _q : True := trivial
                  refine jx_if_ne (pc' := 82) (tg := 95) rfl rfl rfl (by decide) (by decide) (fun h1155 => ?_) (fun h1155 => ?_)
                  · have _q := h1155
                    refine jx_ld (pc' := 96) (l' := L1149) (st' := [.ref 66]) rfl (jl_aloadn gL1149_0) ?_
                    refine jx_vr (pc' := 99) (as := []) (st := []) rfl rfl rfl rfl ⟨rfl, rfl, Nat.le_of_ble_eq_true rfl⟩ rfl rfl (c_readIndex (dd := d) (k := 9) (hE := RE_all X 9) (hd := by omega) (hW := hW1076)  (ln := ln) (e_ln := show G1072 9 = ln from ((hF1077.1 9 rfl).trans ((hF1044.1 9 rfl).trans (e_ln)))) (le := le) (e_le := show A1073 4 (ln).toNat = le from (congrFun ((hF1077.2 4 rfl).trans (hF1044.2 4 rfl)) _).trans (e_le)) (at0 := at2_1074) (e_at0 := show G1072 10 = at2_1074 from (e1078)) (fk := fk2_1042) (e_fk := show G1072 16 = fk2_1042 from ((hF1077.1 16 rfl).trans (e1046))) (op0 := op0) (e_op0 := show G1072 15 = op0 from ((hF1077.1 15 rfl).trans ((hF1044.1 15 rfl).trans (e_op0)))) (nd := nd) (e_nd := show G1072 31 = nd from ((hF1077.1 31 rfl).trans ((hF1044.1 31 rfl).trans (e_nd)))) (tk0 := tk2_1075) (e_tk0 := show G1072 11 = tk2_1075 from (e1079)) (i_SV := (SV_ext (((hF1077.1 29 rfl).trans (hF1044.1 29 rfl))) (((hF1077.2 14 rfl).trans (hF1044.2 14 rfl))) i_SV))   (p_0 := by omega) (p_1 := by omega) (p_2 := by omega) (p_3 := by omega) (p_4 := by omega) (p_5 := by omega) (p_6 := by omega) (p_7 := by omega) (p_8 := by omega)) (fun o V' hq => ?_)
                    obtain ⟨G1156, A1157, r1158, at2_1159, fk2_1160, op2_1161, nd2_1162, tk2_1163, rfl, rfl, hW1164, hF1165, hQ1166, b1167, e1168, e1169, e1170, e1171, e1172, p1173, p1174, p1175, p1176, p1177, p1178, q1179⟩ := hq
                    have hF1180 := Fr_tr hF1084 hF1165 (Fr_sub (by decide)) (Fr_sub (by decide))
                    have hP1181 := Pf_tr hP1085 hQ1166 (by omega)
                    have bat2_1159 : (0 : Int) ≤ at2_1159 ∧ at2_1159 ≤ 3002 := e1168 ▸ hW1164.1 10
                    have bfk2_1160 : (0 : Int) ≤ fk2_1160 ∧ fk2_1160 ≤ 6 := e1169 ▸ hW1164.1 16
                    have bop2_1161 : (-2147483648 : Int) ≤ op2_1161 ∧ op2_1161 ≤ 2147483647 := e1170 ▸ hW1164.1 15
                    have bnd2_1162 : (0 : Int) ≤ nd2_1162 ∧ nd2_1162 ≤ 6999 := e1171 ▸ hW1164.1 31
                    have ztk2_1163 := tz_b tk2_1163
                    have btk2_1163 : (0 : Int) ≤ tk2_1163 ∧ tk2_1163 ≤ 5 := e1172 ▸ hW1164.1 11
                    refine .inr ⟨_, rfl, ?_⟩
                    rcases q1179 with ⟨a1182, a1183, a1184⟩ | ⟨a1185, a1186, a1187, a1188⟩
                    · have _q : True := trivial
                      refine jx_ld (pc' := 101) (l' := jSto1 L1149 4 (.int (i32 (r1158)))) (st' := []) rfl rfl ?_
                      obtain ⟨L1189, eL1189⟩ : ∃ q, q = jSto1 L1149 4 (.int (i32 (r1158))) := ⟨_, rfl⟩
                      rw [← eL1189]
                      have gL1189_0 : jGet L1189 0 = some (.ref 66) := eL1189 ▸ jg_ne (by decide) gL1149_0 rfl
                      have gL1189_1 : jGet L1189 1 = some (.int (i32 (G 12))) := eL1189 ▸ jg_ne (by decide) gL1149_1 rfl
                      have gL1189_2 : jGet L1189 2 = some (.int (i32 (r1041))) := eL1189 ▸ jg_ne (by decide) gL1149_2 rfl
                      have gL1189_3 : jGet L1189 3 = some (.int (i32 (A 7 (r1041).toNat))) := eL1189 ▸ jg_ne (by decide) gL1149_3 rfl
                      have gL1189_5 : jGet L1189 5 = some (.int (i32 (1))) := eL1189 ▸ jg_ne (by decide) gL1149_5 rfl
                      have gL1189_4 : jGet L1189 4 = some (.int (i32 (r1158))) := eL1189 ▸ jg_eq
                      refine jx_ld (pc' := 102) (l' := L1189) (st' := [.ref 66]) rfl (jl_aloadn gL1189_0) ?_
                      refine jx_vr (pc' := 105) (as := []) (st := []) rfl rfl rfl rfl ⟨rfl, rfl, Nat.le_of_ble_eq_true rfl⟩ rfl rfl (c_bad (dd := d) (hd := by omega) (hW := hW1164)  (fk := fk2_1160) (e_fk := show G1156 16 = fk2_1160 from (e1169))    ) (fun o V' hq => ?_)
                      obtain ⟨r1190, rfl, rfl, b1191, q1192⟩ := hq
                      refine .inr ⟨_, rfl, ?_⟩
                      rcases q1192 with ⟨rfl, a1193⟩ | ⟨rfl, a1194⟩
                      · have _q : True := trivial
                        refine jx_if_eq (pc' := 108) (tg := 110) rfl rfl rfl (by decide) (by decide) (fun h1195 => ?_) (fun h1195 => ?_)
                        · have _q := h1195
                          exact absurd h1195 (by omega)
                        · have _q := h1195
                          refine jx_ar (pc' := 109) (st' := [.int (i32 (0))]) rfl rfl rfl rfl ?_
                          refine jx_rt (v := some (.int (i32 (0)))) rfl rfl rfl rfl rfl rfl ?_
                          exact ⟨_, _, _, at2_1159, fk2_1160, nd2_1162, ln, rfl, rfl, hW1164, hF1180, hP1181, by omega, (e1168), (e1169), (e1171), ((hF1165.1 9 rfl).trans ((hF1077.1 9 rfl).trans ((hF1044.1 9 rfl).trans (e_ln)))), by omega, by omega, by omega, by omega, by omega, by first | exact Or.inl (⟨by omega, by omega, by omega⟩)⟩
                      · have _q : True := trivial
                        exfalso
                        omega
                    · have _q : True := trivial
                      refine jx_ld (pc' := 101) (l' := jSto1 L1149 4 (.int (i32 (r1158)))) (st' := []) rfl rfl ?_
                      obtain ⟨L1196, eL1196⟩ : ∃ q, q = jSto1 L1149 4 (.int (i32 (r1158))) := ⟨_, rfl⟩
                      rw [← eL1196]
                      have gL1196_0 : jGet L1196 0 = some (.ref 66) := eL1196 ▸ jg_ne (by decide) gL1149_0 rfl
                      have gL1196_1 : jGet L1196 1 = some (.int (i32 (G 12))) := eL1196 ▸ jg_ne (by decide) gL1149_1 rfl
                      have gL1196_2 : jGet L1196 2 = some (.int (i32 (r1041))) := eL1196 ▸ jg_ne (by decide) gL1149_2 rfl
                      have gL1196_3 : jGet L1196 3 = some (.int (i32 (A 7 (r1041).toNat))) := eL1196 ▸ jg_ne (by decide) gL1149_3 rfl
                      have gL1196_5 : jGet L1196 5 = some (.int (i32 (1))) := eL1196 ▸ jg_ne (by decide) gL1149_5 rfl
                      have gL1196_4 : jGet L1196 4 = some (.int (i32 (r1158))) := eL1196 ▸ jg_eq
                      refine jx_ld (pc' := 102) (l' := L1196) (st' := [.ref 66]) rfl (jl_aloadn gL1196_0) ?_
                      refine jx_vr (pc' := 105) (as := []) (st := []) rfl rfl rfl rfl ⟨rfl, rfl, Nat.le_of_ble_eq_true rfl⟩ rfl rfl (c_bad (dd := d) (hd := by omega) (hW := hW1164)  (fk := fk2_1160) (e_fk := show G1156 16 = fk2_1160 from (e1169))    ) (fun o V' hq => ?_)
                      obtain ⟨r1197, rfl, rfl, b1198, q1199⟩ := hq
                      refine .inr ⟨_, rfl, ?_⟩
                      rcases q1199 with ⟨rfl, a1200⟩ | ⟨rfl, a1201⟩
                      · have _q : True := trivial
                        exfalso
                        omega
                      · have _q : True := trivial
                        refine jx_if_eq (pc' := 108) (tg := 110) rfl rfl rfl (by decide) (by decide) (fun h1202 => ?_) (fun h1202 => ?_)
                        · have _q := h1202
                          have z1203 := tz_f (tk2_1163)
                          exact c_readNamed_at_110_1 (X := X) (d := d) (Vs := Vs) (sb := sb) (pb := pb) (c0 := c0) (c1 := c1) (G := G) (A := A) (T := T) (ln := ln) (le := le) (at0 := at0) (fk := fk) (op0 := op0) (nd := nd) (tk0 := tk0) (li := li) (hd := hd) (hW := hW) (e_ln := e_ln) (e_le := e_le) (e_at0 := e_at0) (e_fk := e_fk) (e_op0 := e_op0) (e_nd := e_nd) (e_tk0 := e_tk0) (e_li := e_li) (i_SV := i_SV) (i_PQ := i_PQ) (p_0 := p_0) (p_1 := p_1) (p_2 := p_2) (p_3 := p_3) (p_4 := p_4) (p_5 := p_5) L1196 G1156 A1157 (G 12) (r1041) (r1158) (at2_1159) (tk2_1163) (fk2_1160) (nd2_1162) (op2_1161) (A 7 (r1041).toNat) gL1196_0 gL1196_5 gL1196_3 gL1196_1 gL1196_2 gL1196_4 hW1164 hF1180 hP1181 ((e1168)) ((e1172)) ((e1169)) ((e1171)) ((e1170)) ((congrFun ((hF1165.2 7 rfl).trans ((hF1077.2 7 rfl).trans (hF1044.2 7 rfl))) _)) (((hF1165.1 9 rfl).trans ((hF1077.1 9 rfl).trans ((hF1044.1 9 rfl).trans (e_ln))))) (by omega) (by omega) (by omega) (by omega) (by omega) (by omega) (by omega) (by omega) (by omega) (by omega) (by omega) (a1055) ((wE_mono (by omega) (by omega) (by omega) a1188))
                        · have _q := h1202
                          exact absurd h1202 (by omega)
                  · have _q := h1155
                    exact absurd h1155 (by omega)
                · have _q : True := trivial
                  refine jx_if_ne (pc' := 82) (tg := 95) rfl rfl rfl (by decide) (by decide) (fun h1204 => ?_) (fun h1204 => ?_)
                  · have _q := h1204
                    exact absurd h1204 (by omega)
                  · have _q := h1204
                    refine jx_ld (pc' := 83) (l' := L1149) (st' := [.int (i32 (A 7 (r1041).toNat))]) rfl (jl_iloadn gL1149_3) ?_
                    refine jx_ar (pc' := 84) (st' := [.int (i32 (4)), .int (i32 (A 7 (r1041).toNat))]) rfl rfl rfl rfl ?_
                    refine jx_icmp_eq (pc' := 87) (tg := 95) rfl rfl rfl (Int.le_trans (by decide : (-2147483648 : Int) ≤ 0) b1070.1) (Int.le_trans b1070.2 (by decide : (14 : Int) ≤ 2147483647)) (by decide) (by decide) (fun h1205 => ?_) (fun h1205 => ?_)
                    · have _q := h1205
                      refine jx_ld (pc' := 96) (l' := L1149) (st' := [.ref 66]) rfl (jl_aloadn gL1149_0) ?_
                      refine jx_vr (pc' := 99) (as := []) (st := []) rfl rfl rfl rfl ⟨rfl, rfl, Nat.le_of_ble_eq_true rfl⟩ rfl rfl (c_readIndex (dd := d) (k := 9) (hE := RE_all X 9) (hd := by omega) (hW := hW1076)  (ln := ln) (e_ln := show G1072 9 = ln from ((hF1077.1 9 rfl).trans ((hF1044.1 9 rfl).trans (e_ln)))) (le := le) (e_le := show A1073 4 (ln).toNat = le from (congrFun ((hF1077.2 4 rfl).trans (hF1044.2 4 rfl)) _).trans (e_le)) (at0 := at2_1074) (e_at0 := show G1072 10 = at2_1074 from (e1078)) (fk := fk2_1042) (e_fk := show G1072 16 = fk2_1042 from ((hF1077.1 16 rfl).trans (e1046))) (op0 := op0) (e_op0 := show G1072 15 = op0 from ((hF1077.1 15 rfl).trans ((hF1044.1 15 rfl).trans (e_op0)))) (nd := nd) (e_nd := show G1072 31 = nd from ((hF1077.1 31 rfl).trans ((hF1044.1 31 rfl).trans (e_nd)))) (tk0 := tk2_1075) (e_tk0 := show G1072 11 = tk2_1075 from (e1079)) (i_SV := (SV_ext (((hF1077.1 29 rfl).trans (hF1044.1 29 rfl))) (((hF1077.2 14 rfl).trans (hF1044.2 14 rfl))) i_SV))   (p_0 := by omega) (p_1 := by omega) (p_2 := by omega) (p_3 := by omega) (p_4 := by omega) (p_5 := by omega) (p_6 := by omega) (p_7 := by omega) (p_8 := by omega)) (fun o V' hq => ?_)
                      obtain ⟨G1206, A1207, r1208, at2_1209, fk2_1210, op2_1211, nd2_1212, tk2_1213, rfl, rfl, hW1214, hF1215, hQ1216, b1217, e1218, e1219, e1220, e1221, e1222, p1223, p1224, p1225, p1226, p1227, p1228, q1229⟩ := hq
                      have hF1230 := Fr_tr hF1084 hF1215 (Fr_sub (by decide)) (Fr_sub (by decide))
                      have hP1231 := Pf_tr hP1085 hQ1216 (by omega)
                      have bat2_1209 : (0 : Int) ≤ at2_1209 ∧ at2_1209 ≤ 3002 := e1218 ▸ hW1214.1 10
                      have bfk2_1210 : (0 : Int) ≤ fk2_1210 ∧ fk2_1210 ≤ 6 := e1219 ▸ hW1214.1 16
                      have bop2_1211 : (-2147483648 : Int) ≤ op2_1211 ∧ op2_1211 ≤ 2147483647 := e1220 ▸ hW1214.1 15
                      have bnd2_1212 : (0 : Int) ≤ nd2_1212 ∧ nd2_1212 ≤ 6999 := e1221 ▸ hW1214.1 31
                      have ztk2_1213 := tz_b tk2_1213
                      have btk2_1213 : (0 : Int) ≤ tk2_1213 ∧ tk2_1213 ≤ 5 := e1222 ▸ hW1214.1 11
                      refine .inr ⟨_, rfl, ?_⟩
                      rcases q1229 with ⟨a1232, a1233, a1234⟩ | ⟨a1235, a1236, a1237, a1238⟩
                      · have _q : True := trivial
                        refine jx_ld (pc' := 101) (l' := jSto1 L1149 4 (.int (i32 (r1208)))) (st' := []) rfl rfl ?_
                        obtain ⟨L1239, eL1239⟩ : ∃ q, q = jSto1 L1149 4 (.int (i32 (r1208))) := ⟨_, rfl⟩
                        rw [← eL1239]
                        have gL1239_0 : jGet L1239 0 = some (.ref 66) := eL1239 ▸ jg_ne (by decide) gL1149_0 rfl
                        have gL1239_1 : jGet L1239 1 = some (.int (i32 (G 12))) := eL1239 ▸ jg_ne (by decide) gL1149_1 rfl
                        have gL1239_2 : jGet L1239 2 = some (.int (i32 (r1041))) := eL1239 ▸ jg_ne (by decide) gL1149_2 rfl
                        have gL1239_3 : jGet L1239 3 = some (.int (i32 (A 7 (r1041).toNat))) := eL1239 ▸ jg_ne (by decide) gL1149_3 rfl
                        have gL1239_5 : jGet L1239 5 = some (.int (i32 (1))) := eL1239 ▸ jg_ne (by decide) gL1149_5 rfl
                        have gL1239_4 : jGet L1239 4 = some (.int (i32 (r1208))) := eL1239 ▸ jg_eq
                        refine jx_ld (pc' := 102) (l' := L1239) (st' := [.ref 66]) rfl (jl_aloadn gL1239_0) ?_
                        refine jx_vr (pc' := 105) (as := []) (st := []) rfl rfl rfl rfl ⟨rfl, rfl, Nat.le_of_ble_eq_true rfl⟩ rfl rfl (c_bad (dd := d) (hd := by omega) (hW := hW1214)  (fk := fk2_1210) (e_fk := show G1206 16 = fk2_1210 from (e1219))    ) (fun o V' hq => ?_)
                        obtain ⟨r1240, rfl, rfl, b1241, q1242⟩ := hq
                        refine .inr ⟨_, rfl, ?_⟩
                        rcases q1242 with ⟨rfl, a1243⟩ | ⟨rfl, a1244⟩
                        · have _q : True := trivial
                          refine jx_if_eq (pc' := 108) (tg := 110) rfl rfl rfl (by decide) (by decide) (fun h1245 => ?_) (fun h1245 => ?_)
                          · have _q := h1245
                            exact absurd h1245 (by omega)
                          · have _q := h1245
                            refine jx_ar (pc' := 109) (st' := [.int (i32 (0))]) rfl rfl rfl rfl ?_
                            refine jx_rt (v := some (.int (i32 (0)))) rfl rfl rfl rfl rfl rfl ?_
                            exact ⟨_, _, _, at2_1209, fk2_1210, nd2_1212, ln, rfl, rfl, hW1214, hF1230, hP1231, by omega, (e1218), (e1219), (e1221), ((hF1215.1 9 rfl).trans ((hF1077.1 9 rfl).trans ((hF1044.1 9 rfl).trans (e_ln)))), by omega, by omega, by omega, by omega, by omega, by first | exact Or.inl (⟨by omega, by omega, by omega⟩)⟩
                        · have _q : True := trivial
                          exfalso
                          omega
                      · have _q : True := trivial
                        refine jx_ld (pc' := 101) (l' := jSto1 L1149 4 (.int (i32 (r1208)))) (st' := []) rfl rfl ?_
                        obtain ⟨L1246, eL1246⟩ : ∃ q, q = jSto1 L1149 4 (.int (i32 (r1208))) := ⟨_, rfl⟩
                        rw [← eL1246]
                        have gL1246_0 : jGet L1246 0 = some (.ref 66) := eL1246 ▸ jg_ne (by decide) gL1149_0 rfl
                        have gL1246_1 : jGet L1246 1 = some (.int (i32 (G 12))) := eL1246 ▸ jg_ne (by decide) gL1149_1 rfl
                        have gL1246_2 : jGet L1246 2 = some (.int (i32 (r1041))) := eL1246 ▸ jg_ne (by decide) gL1149_2 rfl
                        have gL1246_3 : jGet L1246 3 = some (.int (i32 (A 7 (r1041).toNat))) := eL1246 ▸ jg_ne (by decide) gL1149_3 rfl
                        have gL1246_5 : jGet L1246 5 = some (.int (i32 (1))) := eL1246 ▸ jg_ne (by decide) gL1149_5 rfl
                        have gL1246_4 : jGet L1246 4 = some (.int (i32 (r1208))) := eL1246 ▸ jg_eq
                        refine jx_ld (pc' := 102) (l' := L1246) (st' := [.ref 66]) rfl (jl_aloadn gL1246_0) ?_
                        refine jx_vr (pc' := 105) (as := []) (st := []) rfl rfl rfl rfl ⟨rfl, rfl, Nat.le_of_ble_eq_true rfl⟩ rfl rfl (c_bad (dd := d) (hd := by omega) (hW := hW1214)  (fk := fk2_1210) (e_fk := show G1206 16 = fk2_1210 from (e1219))    ) (fun o V' hq => ?_)
                        obtain ⟨r1247, rfl, rfl, b1248, q1249⟩ := hq
                        refine .inr ⟨_, rfl, ?_⟩
                        rcases q1249 with ⟨rfl, a1250⟩ | ⟨rfl, a1251⟩
                        · have _q : True := trivial
                          exfalso
                          omega
                        · have _q : True := trivial
                          refine jx_if_eq (pc' := 108) (tg := 110) rfl rfl rfl (by decide) (by decide) (fun h1252 => ?_) (fun h1252 => ?_)
                          · have _q := h1252
                            have z1253 := tz_f (tk2_1213)
                            exact c_readNamed_at_110_1 (X := X) (d := d) (Vs := Vs) (sb := sb) (pb := pb) (c0 := c0) (c1 := c1) (G := G) (A := A) (T := T) (ln := ln) (le := le) (at0 := at0) (fk := fk) (op0 := op0) (nd := nd) (tk0 := tk0) (li := li) (hd := hd) (hW := hW) (e_ln := e_ln) (e_le := e_le) (e_at0 := e_at0) (e_fk := e_fk) (e_op0 := e_op0) (e_nd := e_nd) (e_tk0 := e_tk0) (e_li := e_li) (i_SV := i_SV) (i_PQ := i_PQ) (p_0 := p_0) (p_1 := p_1) (p_2 := p_2) (p_3 := p_3) (p_4 := p_4) (p_5 := p_5) L1246 G1206 A1207 (G 12) (r1041) (r1208) (at2_1209) (tk2_1213) (fk2_1210) (nd2_1212) (op2_1211) (A 7 (r1041).toNat) gL1246_0 gL1246_5 gL1246_3 gL1246_1 gL1246_2 gL1246_4 hW1214 hF1230 hP1231 ((e1218)) ((e1222)) ((e1219)) ((e1221)) ((e1220)) ((congrFun ((hF1215.2 7 rfl).trans ((hF1077.2 7 rfl).trans (hF1044.2 7 rfl))) _)) (((hF1215.1 9 rfl).trans ((hF1077.1 9 rfl).trans ((hF1044.1 9 rfl).trans (e_ln))))) (by omega) (by omega) (by omega) (by omega) (by omega) (by omega) (by omega) (by omega) (by omega) (by omega) (by omega) (a1055) ((wE_mono (by omega) (by omega) (by omega) a1238))
                          · have _q := h1252
                            exact absurd h1252 (by omega)
                    · have _q := h1205
                      refine jx_ld (pc' := 88) (l' := L1149) (st' := [.ref 66]) rfl (jl_aloadn gL1149_0) ?_
                      refine jx_ar (pc' := 89) (st' := [.int (i32 (4)), .ref 66]) rfl rfl rfl rfl ?_
                      refine jx_ld (pc' := 90) (l' := L1149) (st' := [.int (i32 (G 12)), .int (i32 (4)), .ref 66]) rfl (jl_iloadn gL1149_1) ?_
                      refine jx_vr (pc' := 93) (as := [.int (i32 (4)), .int (i32 (G 12))]) (st := []) rfl rfl rfl rfl ⟨rfl, rfl, Nat.le_of_ble_eq_true rfl⟩ rfl rfl (c_fail (dd := d) (hd := by omega) (hW := hW1076) (kind := 4) (place := G 12) (fk := fk2_1042) (e_fk := show G1072 16 = fk2_1042 from ((hF1077.1 16 rfl).trans (e1046)))  (h_kind := ⟨(by decide), (by decide)⟩) (h_place := ⟨(Int.le_trans (by decide : (-2147483648 : Int) ≤ -3000) b1037.1), (Int.le_trans b1037.2 (by decide : (3002 : Int) ≤ 2147483647))⟩)  (p_0 := by omega) (p_1 := by omega)) (fun o V' hq => ?_)
                      obtain ⟨G1254, A1255, fk2_1256, rfl, rfl, hW1257, hF1258, e1259, p1260, -⟩ := hq
                      have hF1262 := Fr_tr hF1084 hF1258 (Fr_sub (by decide)) (Fr_sub (by decide))
                      have hP1263 := Pf_f hP1085 hF1258 (by decide)
                      have bfk2_1256 : (0 : Int) ≤ fk2_1256 ∧ fk2_1256 ≤ 6 := e1259 ▸ hW1257.1 16
                      refine .inl ⟨rfl, ?_⟩
                      refine jx_ar (pc' := 94) (st' := [.int (i32 (0))]) rfl rfl rfl rfl ?_
                      refine jx_rt (v := some (.int (i32 (0)))) rfl rfl rfl rfl rfl rfl ?_
                      exact ⟨_, _, _, at2_1074, fk2_1256, nd, ln, rfl, rfl, hW1257, hF1262, hP1263, by omega, ((hF1258.1 10 rfl).trans (e1078)), (e1259), ((hF1258.1 31 rfl).trans ((hF1077.1 31 rfl).trans ((hF1044.1 31 rfl).trans (e_nd)))), ((hF1258.1 9 rfl).trans ((hF1077.1 9 rfl).trans ((hF1044.1 9 rfl).trans (e_ln)))), by omega, by omega, by omega, by omega, by omega, by first | exact Or.inl (⟨by omega, by omega, by omega⟩)⟩
            · have _q : True := trivial
              refine jx_ld (pc' := 70) (l' := jSto1 L1142 5 (.int (i32 (0)))) (st' := []) rfl rfl ?_
              obtain ⟨L1264, eL1264⟩ : ∃ q, q = jSto1 L1142 5 (.int (i32 (0))) := ⟨_, rfl⟩
              rw [← eL1264]
              have gL1264_0 : jGet L1264 0 = some (.ref 66) := eL1264 ▸ jg_ne (by decide) gL1142_0 rfl
              have gL1264_1 : jGet L1264 1 = some (.int (i32 (G 12))) := eL1264 ▸ jg_ne (by decide) gL1142_1 rfl
              have gL1264_2 : jGet L1264 2 = some (.int (i32 (r1041))) := eL1264 ▸ jg_ne (by decide) gL1142_2 rfl
              have gL1264_3 : jGet L1264 3 = some (.int (i32 (A 7 (r1041).toNat))) := eL1264 ▸ jg_ne (by decide) gL1142_3 rfl
              have gL1264_4 : jGet L1264 4 = some (.int (i32 (0))) := eL1264 ▸ jg_ne (by decide) gL1142_4 rfl
              have gL1264_5 : jGet L1264 5 = some (.int (i32 (0))) := eL1264 ▸ jg_eq
              refine jx_ld (pc' := 72) (l' := L1264) (st' := [.int (i32 (0))]) rfl (jl_iload gL1264_5) ?_
              refine jx_if_eq (pc' := 75) (tg := 110) rfl rfl rfl (by decide) (by decide) (fun h1265 => ?_) (fun h1265 => ?_)
              · have _q := h1265
                have z1266 := tz_f (tk2_1075)
                exact c_readNamed_at_110_0 (X := X) (d := d) (Vs := Vs) (sb := sb) (pb := pb) (c0 := c0) (c1 := c1) (G := G) (A := A) (T := T) (ln := ln) (le := le) (at0 := at0) (fk := fk) (op0 := op0) (nd := nd) (tk0 := tk0) (li := li) (hd := hd) (hW := hW) (e_ln := e_ln) (e_le := e_le) (e_at0 := e_at0) (e_fk := e_fk) (e_op0 := e_op0) (e_nd := e_nd) (e_tk0 := e_tk0) (e_li := e_li) (i_SV := i_SV) (i_PQ := i_PQ) (p_0 := p_0) (p_1 := p_1) (p_2 := p_2) (p_3 := p_3) (p_4 := p_4) (p_5 := p_5) L1264 G1072 A1073 (G 12) (r1041) (at2_1074) (tk2_1075) (fk2_1042) (nd) (op0) (A 7 (r1041).toNat) gL1264_0 gL1264_5 gL1264_3 gL1264_4 gL1264_1 gL1264_2 hW1076 hF1084 hP1085 ((e1078)) ((e1079)) (((hF1077.1 16 rfl).trans (e1046))) (((hF1077.1 31 rfl).trans ((hF1044.1 31 rfl).trans (e_nd)))) (((hF1077.1 15 rfl).trans ((hF1044.1 15 rfl).trans (e_op0)))) ((congrFun ((hF1077.2 7 rfl).trans (hF1044.2 7 rfl)) _)) (((hF1077.1 9 rfl).trans ((hF1044.1 9 rfl).trans (e_ln)))) (by omega) (by omega) (by omega) (by omega) (by omega) (by omega) (by omega) (by omega) (by omega) (by omega) (a1055)
              · have _q := h1265
                exact absurd h1265 (by omega)
          · have _q := h1141
            exact absurd h1141 (by omega)
      · have _q := h1069
        exact absurd h1069 (by omega)
