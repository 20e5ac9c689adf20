/-! WHAT IS KEYED IN -/
theorem GS_in {A A1 A2 A_q : Nat → Nat → Int} {i : Nat} {v lk : Int} (gz : GZ lk A) (e1 : A1 = uA A 78 i v) (n : ∀ (K : Kd) (N : Int) (ty : Int → Int) (g : Int → Fm), Sby K N → SI K N ty g A 0 → X2 g → ty 13 = 2 → ty (-1 - 13) / 4 % 2 = 0 → Nxa K N ty g (ldM A 0) A2 0 13 ∧ Lh 0 A1 A2) (y : yR A2 A_q 0) : GZ lk A_q := by
  have gz' := gz
  obtain ⟨⟨K, N, ty, g, hc, hl⟩, _⟩ := gz'
  obtain ⟨st, si, x2, bt⟩ := hc 0 (by decide) (by decide)
  obtain ⟨nx, lh⟩ := n _ _ _ _ st.1 si x2 (bt.2.2 13 (by decide) (by decide)) bt.2.1
  have lh2 := Lh_t lh (Lh_y (by decide) (Nxa_cn nx) y)
  obtain ⟨x1', x2', x3'⟩ := uA_o e1
  have lc : Lcl 0 A A_q := Lcl_t (Lcl_h e1 (by decide)) lh2.1
  refine GZ_n gz (lc.2.2.2.2 34 (by decide)) (lc.2.2.2.2 35 (by decide)) ?_
  refine GS_a0 (by decide) (by decide) (by decide) lc hc hl (Nxa_y st.1 (by decide) nx y) (fun w => absurd w (by decide)) (fun w => absurd w (by decide)) (fun w => absurd w (by decide)) (fun n _ => ⟨?_, ?_, ?_⟩)
  · rw [lh2.2 80 (by decide), x3' 80 (by decide)]
  · rw [lh2.2 83 (by decide), x3' 83 (by decide)]
  · rw [lh2.2 84 (by decide), x3' 84 (by decide)]
theorem in_0 {A A1 A_q : Nat → Nat → Int} {i : Nat} {v lk : Int} (gz : GZ lk A) (e1 : A1 = uA A 78 i v) (y : yR A1 A_q 0) : GZ lk A_q := GS_in gz e1 (fun K N ty g s si x t nb => ⟨Nxa_h (by decide) (uA_78 e1 (by decide)) si x, Lh_r⟩) y
theorem in_A {A A1 A2 A_q : Nat → Nat → Int} {i : Nat} {v lk d b w : Int} (gz : GZ lk A) (e1 : A1 = uA A 78 i v) (ld : d = ldM A1 0 13) (hd : d ≠ -1) (hb : b = d / 2) (l3 : w = ldM A1 0 (b - 3)) (hv : w ≠ 0) (k : wkR A1 A2 0 d) (y : yR A2 A_q 0) : GZ lk A_q := by
  subst hb
  exact GS_in gz e1 (fun K N ty g s si x t nb => ⟨ext_al s (by decide) si x t (by decide) nb (uA_78 e1 (by decide)) ld hd l3 hv k, Lh_wk (by decide) (Cn_o si (uA_78 e1 (by decide) 72 (by decide))) k⟩) y
theorem in_I {A A1 A4 A5 A8 A_q : Nat → Nat → Int} {i : Nat} {v lk d b b2 w t z : Int} (gz : GZ lk A) (e1 : A1 = uA A 78 i v) (ld : d = ldM A1 0 13) (hd : d ≠ -1) (hb : b = d / 2) (l3 : w = ldM A1 0 (b - 3)) (hv : w = 0) (hb2 : b2 = d / 2) (l2 : t = ldM A1 0 (b2 - 2)) (s4 : A4 = stM A1 0 t z) (s5 : A5 = stM A4 0 13 (-1)) (m : mkR A5 A8 0 d) (y : yR A8 A_q 0) : GZ lk A_q := by
  subst hb
  subst hb2
  have o := uA_78 e1 (by decide)
  refine GS_in gz e1 (fun K N ty g s si x tt nb => ⟨ext_in s (by decide) si x tt (by decide) (by decide) nb o ld hd l3 hv l2 s4 s5 (fun _ _ => rfl) m, Lh_t (Lh_t (Lh_st (by decide) s4) (Lh_st (by decide) s5)) (Lh_mk (by decide) (Cn_o si ?_) m)⟩) y
  rw [s5, stM_ne (by decide), s4, stM_ne (by decide), o 72 (by decide)]
set_option maxRecDepth 20000 in
set_option maxHeartbeats 4000000 in
theorem c_input {X : jX} {dd : Nat} {c0 c1 : jC} {G : Nat → Int} {A : Nat → Nat → Int} {T : jH} {v : Int} {pg lk it im : Int} (hd : 6 ≤ dd) (hW : Wk G A) (e_pg : G 58 = pg) (e_lk : G 52 = lk) (e_it : G 111 = it) (e_im : G 110 = im) (h_v : (-2147483648 : Int) ≤ v ∧ v ≤ 2147483647) (p_0 : 0 ≤ it) (p_1 : it ≤ im) (p_2 : im ≤ 200) (p_3 : (pg) = 1 → GZ (lk) A) : wk X dd 397 [.ref 66, .int (i32 v)] (rV c0 c1 G A T) (fun o V_q => ∃ (G_q : Nat → Int) (A_q : Nat → Nat → Int) (r : Int) (im2 : Int) (it2 : Int), V_q = rV c0 c1 G_q A_q T ∧ o = .inl (some (.int (i32 r))) ∧ Wk G_q A_q ∧ Fr [0, 110, 111] [59, 60, 61, 62, 63, 64, 65, 66, 70, 71, 72, 73, 74, 75, 76, 77, 78] G A G_q A_q ∧ ((-2147483648 : Int) ≤ r ∧ r ≤ 2147483647) ∧ G_q 110 = im2 ∧ G_q 111 = it2 ∧ (it ≤ it2) ∧ (it2 ≤ im2) ∧ (im2 ≤ 200) ∧ ((pg) = 1 → GZ (lk) A_q) ∧ True) := by
  obtain ⟨d, rfl⟩ : ∃ d, dd = d + 1 := ⟨dd - 1, by omega⟩
  refine wk_of (e := jm397) rfl (Nat.le_of_ble_eq_true rfl) ?_
  show wj X d jm397 (0, [(0, .ref 66), (1, .int (i32 (v)))], [], rV c0 c1 G A T) _
  have hF0 : Fr [0, 110, 111] [59, 60, 61, 62, 63, 64, 65, 66, 70, 71, 72, 73, 74, 75, 76, 77, 78] G A G A := Fr_rf
  have b_pg : (0 : Int) ≤ pg ∧ pg ≤ 1 := e_pg ▸ hW.1 58
  have b_lk : (0 : Int) ≤ lk ∧ lk ≤ 12 := e_lk ▸ hW.1 52
  have b_it : (-2147483648 : Int) ≤ it ∧ it ≤ 2147483647 := e_it ▸ hW.1 111
  have b_im : (-2147483648 : Int) ≤ im ∧ im ≤ 2147483647 := e_im ▸ hW.1 110
  refine jx_ld (pc_q := 1) (l_q := [(0, .ref 66), (1, .int (i32 (v)))]) (st_q := [.ref 66]) rfl (jl_aloadn rfl) ?_
  refine jx_ld (pc_q := 2) (l_q := [(0, .ref 66), (1, .int (i32 (v)))]) (st_q := [.ref 66, .ref 66]) rfl (jl_aloadn rfl) ?_
  refine jr_get (pc_q := 5) (i := 58) (v := .int (i32 (pg))) rfl rfl (by decide) (rFv_eq (by decide) (show G 58 = pg from (e_pg))) rfl ?_
  refine jx_if_ne (pc_q := 8) (tg := 12) rfl rfl rfl (Int.le_trans (by decide : (-2147483648 : Int) ≤ 0) b_pg.1) (Int.le_trans b_pg.2 (by decide : (1 : Int) ≤ 2147483647)) (fun h1 => ?_) (fun h1 => ?_)
  · have _q := h1
    refine jx_ar (pc_q := 13) (st_q := [.int (i32 (0)), .ref 66]) rfl rfl rfl rfl ?_
    refine jx_ld (pc_q := 14) (l_q := [(0, .ref 66), (1, .int (i32 (v)))]) (st_q := [.ref 66, .int (i32 (0)), .ref 66]) rfl (jl_aloadn rfl) ?_
    refine jr_get (pc_q := 17) (i := 58) (v := .int (i32 (pg))) rfl rfl (by decide) (rFv_eq (by decide) (show G 58 = pg from (e_pg))) rfl ?_
    refine jx_if_eq (pc_q := 20) (tg := 34) rfl rfl rfl (Int.le_trans (by decide : (-2147483648 : Int) ≤ 0) b_pg.1) (Int.le_trans b_pg.2 (by decide : (1 : Int) ≤ 2147483647)) (fun h2 => ?_) (fun h2 => ?_)
    · have _q := h2
      refine jx_ar (pc_q := 35) (st_q := [.int (i32 (0)), .int (i32 (0)), .ref 66]) rfl rfl rfl rfl ?_
      refine jx_ar (pc_q := 36) (st_q := [.int (i32 (0)), .int (i32 (0)), .int (i32 (0)), .ref 66]) rfl rfl rfl rfl ?_
      refine jx_vr (pc_q := 39) (as := [.int (i32 (0)), .int (i32 (0)), .int (i32 (0))]) (st := []) rfl rfl rfl rfl ⟨rfl, rfl, Nat.le_of_ble_eq_true rfl⟩ rfl rfl (c_refuse (dd := d) (hd := by omega) (hW := hW) (a := 0) (b := 0) (c := 0)   (h_a := ⟨(by decide), (by decide)⟩) (h_b := ⟨(by decide), (by decide)⟩) (h_c := ⟨(by decide), (by decide)⟩)  ) (fun o V_q hq => ?_)
      obtain ⟨G3, A4, r5, th2_6, rfl, rfl, hW7, hF8, b9, e10, q11⟩ := hq
      have hF12 := Fr_tr hF0 hF8 (Fr_sub (by decide)) (Fr_sub (by decide))
      have sf13 : (pg) = 1 → GZ (lk) A4 := (show A4 = A from funext (fun k => hF8.2 k rfl)) ▸ p_3
      have bth2_6 : (0 : Int) ≤ th2_6 ∧ th2_6 ≤ 4 := e10 ▸ hW7.1 0
      refine .inr ⟨_, rfl, ?_⟩
      rcases q11 with ⟨rfl, a14, a15⟩ | ⟨rfl, a16, a17, a18⟩ | ⟨rfl, a19, a20, a21, a22⟩ | ⟨rfl, a23, a24, a25, a26⟩
      · have _q : True := trivial
        exfalso
        omega
      · have _q : True := trivial
        exfalso
        omega
      · have _q : True := trivial
        exfalso
        omega
      · have _q : True := trivial
        refine jx_if_eq (pc_q := 42) (tg := 44) rfl rfl rfl (by decide) (by decide) (fun h27 => ?_) (fun h27 => ?_)
        · have _q := h27
          have hgz := sf13 (by omega); have hcm := GS_cm (p_3 (by omega)).1 0 (by decide) (by decide); have hcm0 := hcm; unfold Cm at hcm
          refine jx_ld (pc_q := 45) (l_q := [(0, .ref 66), (1, .int (i32 (v)))]) (st_q := [.ref 66]) rfl (jl_aloadn rfl) ?_
          refine jr_get (pc_q := 48) (i := 109) (v := .ref 145) rfl rfl (by decide) rfl rfl ?_
          refine jx_ld (pc_q := 49) (l_q := [(0, .ref 66), (1, .int (i32 (v)))]) (st_q := [.ref 66, .ref 145]) rfl (jl_aloadn rfl) ?_
          refine jr_get (pc_q := 52) (i := 110) (v := .int (i32 (im))) rfl rfl (by decide) (rFv_eq (by decide) (show G3 110 = im from ((hF8.1 110 rfl).trans (e_im)))) rfl ?_
          refine jx_ld (pc_q := 53) (l_q := [(0, .ref 66), (1, .int (i32 (v)))]) (st_q := [.int (i32 (v)), .int (i32 (im)), .ref 145]) rfl (jl_iloadn rfl) ?_
          refine jr_st (pc_q := 54) (i := 78) (m := 200) (z := im) (y := v) rfl (by decide) rfl (by decide) (by omega) (by omega) rfl ?_
          have hW29 : Wk G3 (uA A4 78 (im).toNat (v)) := Wk_a hW7 (show (-2147483648 : Int) ≤ v by omega) (show v ≤ (2147483647 : Int) by omega)
          have hF30 := Fr_a (z := v) (k := 78) (n := (im).toNat) hF12 (by decide)
          obtain ⟨A28, eA28⟩ : ∃ q, q = uA A4 78 (im).toNat (v) := ⟨_, rfl⟩
          rw [← eA28]
          rw [← eA28] at hW29 hF30
          have q31 : A28 78 (im).toNat = v := by rw [eA28]; exact uA_eq
          refine jx_ld (pc_q := 55) (l_q := [(0, .ref 66), (1, .int (i32 (v)))]) (st_q := [.ref 66]) rfl (jl_aloadn rfl) ?_
          refine jx_ar (pc_q := 56) (st_q := [.ref 66, .ref 66]) rfl rfl rfl rfl ?_
          refine jr_get (pc_q := 59) (i := 110) (v := .int (i32 (im))) rfl rfl (by decide) (rFv_eq (by decide) (show G3 110 = im from ((hF8.1 110 rfl).trans (e_im)))) rfl ?_
          refine jx_ar (pc_q := 60) (st_q := [.int (i32 (1)), .int (i32 (im)), .ref 66]) rfl rfl rfl rfl ?_
          refine jx_add (pc_q := 61) rfl rfl ?_
          refine jr_put (pc_q := 64) (i := 110) (z := (im + 1)) rfl rfl (by decide) rfl rfl rfl rfl rfl rfl ?_
          have hW32 : Wk (uG G3 110 ((im + 1))) A28 := Wk_g hW29 (show (-2147483648 : Int) ≤ (im + 1) by omega) (show (im + 1) ≤ (2147483647 : Int) by omega)
          have hF33 := Fr_g (z := (im + 1)) (i := 110) hF30 (by decide)
          refine jx_ld (pc_q := 65) (l_q := [(0, .ref 66), (1, .int (i32 (v)))]) (st_q := [.ref 66]) rfl (jl_aloadn rfl) ?_
          refine jr_get (pc_q := 68) (i := 55) (v := .ref 103) rfl rfl (by decide) rfl rfl ?_
          refine jx_ar (pc_q := 69) (st_q := [.int (i32 (0)), .ref 103]) rfl rfl rfl rfl ?_
          have b34 : (-2147483648 : Int) ≤ A 36 ((0 : Int)).toNat ∧ A 36 ((0 : Int)).toNat ≤ 2147483647 := hW.2 36 _
          refine jr_ldv (pc_q := 70) (i := 36) (m := 6) (z := (0 : Int)) (y := A 36 ((0 : Int)).toNat) rfl (by decide) rfl (by decide) (by omega) (by omega) rfl (show A28 36 ((0 : Int)).toNat = A 36 ((0 : Int)).toNat from (congrFun (((congrFun eA28 36).trans (uA_ne (by decide))).trans (hF8.2 36 rfl)) _)) ?_
          refine jx_if_le (pc_q := 73) (tg := 83) rfl rfl rfl (Int.le_trans (by decide : (-2147483648 : Int) ≤ -2147483648) b34.1) (Int.le_trans b34.2 (by decide : (2147483647 : Int) ≤ 2147483647)) (fun h35 => ?_) (fun h35 => ?_)
          · have _q := h35
            refine jx_ar (pc_q := 84) (st_q := [.int (i32 (-1))]) rfl rfl rfl rfl ?_
            refine jx_ld (pc_q := 85) (l_q := jSto1 [(0, .ref 66), (1, .int (i32 (v)))] 2 (.int (i32 (-1)))) (st_q := []) rfl rfl ?_
            obtain ⟨L36, eL36⟩ : ∃ q, q = jSto1 [(0, .ref 66), (1, .int (i32 (v)))] 2 (.int (i32 (-1))) := ⟨_, rfl⟩
            rw [← eL36]
            have gL36_0 : jGet L36 0 = some (.ref 66) := eL36 ▸ jg_ne (by decide) (rfl : jGet [(0, .ref 66), (1, .int (i32 (v)))] 0 = some (.ref 66)) rfl
            have gL36_1 : jGet L36 1 = some (.int (i32 (v))) := eL36 ▸ jg_ne (by decide) (rfl : jGet [(0, .ref 66), (1, .int (i32 (v)))] 1 = some (.int (i32 (v)))) rfl
            have gL36_2 : jGet L36 2 = some (.int (i32 (-1))) := eL36 ▸ jg_eq
            refine jx_ld (pc_q := 86) (l_q := L36) (st_q := [.int (i32 (-1))]) rfl (jl_iloadn gL36_2) ?_
            refine jx_ar (pc_q := 87) (st_q := [.int (i32 (-1)), .int (i32 (-1))]) rfl rfl rfl rfl ?_
            refine jx_icmp_eq (pc_q := 90) (tg := 112) rfl rfl rfl (by decide) (by decide) (by decide) (by decide) (fun h37 => ?_) (fun h37 => ?_)
            · have _q := h37
              refine jx_ld (pc_q := 113) (l_q := L36) (st_q := [.int (i32 (-1))]) rfl (jl_iloadn gL36_2) ?_
              refine jx_ar (pc_q := 114) (st_q := [.int (i32 (-1)), .int (i32 (-1))]) rfl rfl rfl rfl ?_
              refine jx_icmp_eq (pc_q := 117) (tg := 165) rfl rfl rfl (by decide) (by decide) (by decide) (by decide) (fun h38 => ?_) (fun h38 => ?_)
              · have _q := h38
                have hk39 : A28 64 (0 : Int).toNat = A 64 (0 : Int).toNat := (congrFun (((congrFun eA28 64).trans (uA_ne (by decide))).trans (hF8.2 64 rfl)) _)
                refine jx_ld (pc_q := 166) (l_q := L36) (st_q := [.ref 66]) rfl (jl_aloadn gL36_0) ?_
                refine jx_ar (pc_q := 167) (st_q := [.int (i32 (0)), .ref 66]) rfl rfl rfl rfl ?_
                have b40 : (-2147483648 : Int) ≤ A 66 (0 : Int).toNat ∧ A 66 (0 : Int).toNat ≤ 2147483647 := hW.2 66 _
                have b41 : (-2147483648 : Int) ≤ A 72 ((2 * 0) : Int).toNat ∧ A 72 ((2 * 0) : Int).toNat ≤ 2147483647 := hW.2 72 _
                have b42 : (-2147483648 : Int) ≤ A 72 (((2 * 0) + 1) : Int).toNat ∧ A 72 (((2 * 0) + 1) : Int).toNat ≤ 2147483647 := hW.2 72 _
                refine jx_vr (pc_q := 170) (as := [.int (i32 (0))]) (st := []) rfl rfl rfl rfl ⟨rfl, rfl, Nat.le_of_ble_eq_true rfl⟩ rfl rfl (c_yield0 (dd := d) (hd := by omega) (hW := hW32) (p := 0) (rn0 := A 66 (0 : Int).toNat) (e_rn0 := show A28 66 (0 : Int).toNat = A 66 (0 : Int).toNat from (congrFun (((congrFun eA28 66).trans (uA_ne (by decide))).trans (hF8.2 66 rfl)) _)) (m0 := A 72 ((2 * 0) : Int).toNat) (e_m0 := show A28 72 ((2 * 0) : Int).toNat = A 72 ((2 * 0) : Int).toNat from (congrFun (((congrFun eA28 72).trans (uA_ne (by decide))).trans (hF8.2 72 rfl)) _)) (m1 := A 72 (((2 * 0) + 1) : Int).toNat) (e_m1 := show A28 72 (((2 * 0) + 1) : Int).toNat = A 72 (((2 * 0) + 1) : Int).toNat from (congrFun (((congrFun eA28 72).trans (uA_ne (by decide))).trans (hF8.2 72 rfl)) _))  (h_p := ⟨(by decide), (by decide)⟩)  (p_0 := by omega) (p_1 := by omega) (p_2 := by omega) (p_3 := by omega) (p_4 := by omega) (p_5 := by omega) (p_6 := by omega)) (fun o V_q hq => ?_)
                obtain ⟨G43, A44, rfl, rfl, hW45, hF46, p47, -⟩ := hq
                have hF49 := Fr_tr hF33 hF46 (Fr_sub (by decide)) (Fr_sub (by decide))
                refine .inl ⟨rfl, ?_⟩
                refine jx_ld (pc_q := 171) (l_q := L36) (st_q := [.ref 66]) rfl (jl_aloadn gL36_0) ?_
                refine jr_get (pc_q := 174) (i := 110) (v := .int (i32 ((im + 1)))) rfl rfl (by decide) (rFv_eq (by decide) (show G43 110 = (im + 1) from (hF46.1 110 rfl))) rfl ?_
                refine jx_rt (v := some (.int (i32 ((im + 1))))) rfl rfl rfl rfl rfl rfl ?_
                exact ⟨_, _, _, (im + 1), it, rfl, rfl, hW45, hF49, by omega, (hF46.1 110 rfl), ((hF46.1 111 rfl).trans ((hF8.1 111 rfl).trans (e_it))), by omega, by omega, by omega, (fun _ => in_0 hgz eA28 p47), trivial⟩
              · have _q := h38
                exact absurd h38 (by omega)
            · have _q := h37
              exact absurd h37 (by omega)
          · have _q := h35
            refine jx_ld (pc_q := 74) (l_q := [(0, .ref 66), (1, .int (i32 (v)))]) (st_q := [.ref 66]) rfl (jl_aloadn rfl) ?_
            refine jx_ar (pc_q := 75) (st_q := [.int (i32 (0)), .ref 66]) rfl rfl rfl rfl ?_
            refine jx_ar (pc_q := 77) (st_q := [.int (i32 (13)), .int (i32 (0)), .ref 66]) rfl rfl rfl rfl ?_
            refine jx_vr (pc_q := 80) (as := [.int (i32 (0)), .int (i32 (13))]) (st := []) rfl rfl rfl rfl ⟨rfl, rfl, Nat.le_of_ble_eq_true rfl⟩ rfl rfl (c_load (dd := d) (hd := by omega) (hW := hW32) (p := 0) (a := 13)   (h_p := ⟨(by decide), (by decide)⟩) (h_a := ⟨(by decide), (by decide)⟩)  (p_0 := by omega) (p_1 := by omega)) (fun o V_q hq => ?_)
            obtain ⟨r50, rfl, rfl, b51, p52, -⟩ := hq
            refine .inr ⟨_, rfl, ?_⟩
            refine jx_go (tg := 84) rfl rfl ?_
            refine jx_ld (pc_q := 85) (l_q := jSto1 [(0, .ref 66), (1, .int (i32 (v)))] 2 (.int (i32 (r50)))) (st_q := []) rfl rfl ?_
            obtain ⟨L54, eL54⟩ : ∃ q, q = jSto1 [(0, .ref 66), (1, .int (i32 (v)))] 2 (.int (i32 (r50))) := ⟨_, rfl⟩
            rw [← eL54]
            have gL54_0 : jGet L54 0 = some (.ref 66) := eL54 ▸ jg_ne (by decide) (rfl : jGet [(0, .ref 66), (1, .int (i32 (v)))] 0 = some (.ref 66)) rfl
            have gL54_1 : jGet L54 1 = some (.int (i32 (v))) := eL54 ▸ jg_ne (by decide) (rfl : jGet [(0, .ref 66), (1, .int (i32 (v)))] 1 = some (.int (i32 (v)))) rfl
            have gL54_2 : jGet L54 2 = some (.int (i32 (r50))) := eL54 ▸ jg_eq
            refine jx_ld (pc_q := 86) (l_q := L54) (st_q := [.int (i32 (r50))]) rfl (jl_iloadn gL54_2) ?_
            refine jx_ar (pc_q := 87) (st_q := [.int (i32 (-1)), .int (i32 (r50))]) rfl rfl rfl rfl ?_
            refine jx_icmp_eq (pc_q := 90) (tg := 112) rfl rfl rfl (Int.le_trans (by decide : (-2147483648 : Int) ≤ -2147483648) b51.1) (Int.le_trans b51.2 (by decide : (2147483647 : Int) ≤ 2147483647)) (by decide) (by decide) (fun h55 => ?_) (fun h55 => ?_)
            · have _q := h55
              refine jx_ld (pc_q := 113) (l_q := L54) (st_q := [.int (i32 (r50))]) rfl (jl_iloadn gL54_2) ?_
              refine jx_ar (pc_q := 114) (st_q := [.int (i32 (-1)), .int (i32 (r50))]) rfl rfl rfl rfl ?_
              refine jx_icmp_eq (pc_q := 117) (tg := 165) rfl rfl rfl (Int.le_trans (by decide : (-2147483648 : Int) ≤ -2147483648) b51.1) (Int.le_trans b51.2 (by decide : (2147483647 : Int) ≤ 2147483647)) (by decide) (by decide) (fun h56 => ?_) (fun h56 => ?_)
              · have _q := h56
                have hk57 : A28 64 (0 : Int).toNat = A 64 (0 : Int).toNat := (congrFun (((congrFun eA28 64).trans (uA_ne (by decide))).trans (hF8.2 64 rfl)) _)
                refine jx_ld (pc_q := 166) (l_q := L54) (st_q := [.ref 66]) rfl (jl_aloadn gL54_0) ?_
                refine jx_ar (pc_q := 167) (st_q := [.int (i32 (0)), .ref 66]) rfl rfl rfl rfl ?_
                have b58 : (-2147483648 : Int) ≤ A 66 (0 : Int).toNat ∧ A 66 (0 : Int).toNat ≤ 2147483647 := hW.2 66 _
                have b59 : (-2147483648 : Int) ≤ A 72 ((2 * 0) : Int).toNat ∧ A 72 ((2 * 0) : Int).toNat ≤ 2147483647 := hW.2 72 _
                have b60 : (-2147483648 : Int) ≤ A 72 (((2 * 0) + 1) : Int).toNat ∧ A 72 (((2 * 0) + 1) : Int).toNat ≤ 2147483647 := hW.2 72 _
                refine jx_vr (pc_q := 170) (as := [.int (i32 (0))]) (st := []) rfl rfl rfl rfl ⟨rfl, rfl, Nat.le_of_ble_eq_true rfl⟩ rfl rfl (c_yield0 (dd := d) (hd := by omega) (hW := hW32) (p := 0) (rn0 := A 66 (0 : Int).toNat) (e_rn0 := show A28 66 (0 : Int).toNat = A 66 (0 : Int).toNat from (congrFun (((congrFun eA28 66).trans (uA_ne (by decide))).trans (hF8.2 66 rfl)) _)) (m0 := A 72 ((2 * 0) : Int).toNat) (e_m0 := show A28 72 ((2 * 0) : Int).toNat = A 72 ((2 * 0) : Int).toNat from (congrFun (((congrFun eA28 72).trans (uA_ne (by decide))).trans (hF8.2 72 rfl)) _)) (m1 := A 72 (((2 * 0) + 1) : Int).toNat) (e_m1 := show A28 72 (((2 * 0) + 1) : Int).toNat = A 72 (((2 * 0) + 1) : Int).toNat from (congrFun (((congrFun eA28 72).trans (uA_ne (by decide))).trans (hF8.2 72 rfl)) _))  (h_p := ⟨(by decide), (by decide)⟩)  (p_0 := by omega) (p_1 := by omega) (p_2 := by omega) (p_3 := by omega) (p_4 := by omega) (p_5 := by omega) (p_6 := by omega)) (fun o V_q hq => ?_)
                obtain ⟨G61, A62, rfl, rfl, hW63, hF64, p65, -⟩ := hq
                have hF67 := Fr_tr hF33 hF64 (Fr_sub (by decide)) (Fr_sub (by decide))
                refine .inl ⟨rfl, ?_⟩
                refine jx_ld (pc_q := 171) (l_q := L54) (st_q := [.ref 66]) rfl (jl_aloadn gL54_0) ?_
                refine jr_get (pc_q := 174) (i := 110) (v := .int (i32 ((im + 1)))) rfl rfl (by decide) (rFv_eq (by decide) (show G61 110 = (im + 1) from (hF64.1 110 rfl))) rfl ?_
                refine jx_rt (v := some (.int (i32 ((im + 1))))) rfl rfl rfl rfl rfl rfl ?_
                exact ⟨_, _, _, (im + 1), it, rfl, rfl, hW63, hF67, by omega, (hF64.1 110 rfl), ((hF64.1 111 rfl).trans ((hF8.1 111 rfl).trans (e_it))), by omega, by omega, by omega, (fun _ => in_0 hgz eA28 p65), trivial⟩
              · have _q := h56
                refine jx_ld (pc_q := 118) (l_q := L54) (st_q := [.ref 66]) rfl (jl_aloadn gL54_0) ?_
                refine jx_ar (pc_q := 119) (st_q := [.int (i32 (0)), .ref 66]) rfl rfl rfl rfl ?_
                refine jx_ld (pc_q := 120) (l_q := L54) (st_q := [.ref 66, .int (i32 (0)), .ref 66]) rfl (jl_aloadn gL54_0) ?_
                refine jx_ar (pc_q := 121) (st_q := [.int (i32 (0)), .ref 66, .int (i32 (0)), .ref 66]) rfl rfl rfl rfl ?_
                refine jx_ld (pc_q := 122) (l_q := L54) (st_q := [.int (i32 (r50)), .int (i32 (0)), .ref 66, .int (i32 (0)), .ref 66]) rfl (jl_iloadn gL54_2) ?_
                refine jx_ar (pc_q := 123) (st_q := [.int (i32 (1)), .int (i32 (r50)), .int (i32 (0)), .ref 66, .int (i32 (0)), .ref 66]) rfl rfl rfl rfl ?_
                refine jx_shr (pc_q := 124) rfl rfl ?_
                obtain ⟨b68, eb68⟩ : ∃ z, z = (i32 (r50) >>> (i32 (1) &&& 31)).toInt := ⟨_, rfl⟩
                rw [← eb68]
                have rb68 : (-2147483648 : Int) ≤ b68 ∧ b68 ≤ 2147483647 := eb68 ▸ i32_rg _
                have hb68 := (show b68 = (i32 r50 >>> (i32 1 &&& 31)).toInt from eb68).trans (shr_1 (by omega) (by omega))
                refine jx_ar (pc_q := 125) (st_q := [.int (i32 (2)), .int (i32 (b68)), .int (i32 (0)), .ref 66, .int (i32 (0)), .ref 66]) rfl rfl rfl rfl ?_
                refine jx_sub (pc_q := 126) rfl rfl ?_
                refine jx_vr (pc_q := 129) (as := [.int (i32 (0)), .int (i32 ((b68 - 2)))]) (st := [.int (i32 (0)), .ref 66]) rfl rfl rfl rfl ⟨rfl, rfl, Nat.le_of_ble_eq_true rfl⟩ rfl rfl (c_load (dd := d) (hd := by omega) (hW := hW32) (p := 0) (a := (b68 - 2))   (h_p := ⟨(by decide), (by decide)⟩) (h_a := ⟨(by omega), (by omega)⟩)  (p_0 := by omega) (p_1 := by omega)) (fun o V_q hq => ?_)
                obtain ⟨r69, rfl, rfl, b70, p71, -⟩ := hq
                refine .inr ⟨_, rfl, ?_⟩
                refine jx_ld (pc_q := 130) (l_q := L54) (st_q := [.ref 66, .int (i32 (r69)), .int (i32 (0)), .ref 66]) rfl (jl_aloadn gL54_0) ?_
                refine jr_get (pc_q := 133) (i := 109) (v := .ref 145) rfl rfl (by decide) rfl rfl ?_
                refine jx_ld (pc_q := 134) (l_q := L54) (st_q := [.ref 66, .ref 145, .int (i32 (r69)), .int (i32 (0)), .ref 66]) rfl (jl_aloadn gL54_0) ?_
                refine jr_get (pc_q := 137) (i := 111) (v := .int (i32 (it))) rfl rfl (by decide) (rFv_eq (by decide) (show (uG G3 110 ((im + 1))) 111 = it from ((hF8.1 111 rfl).trans (e_it)))) rfl ?_
                have b73 : (-2147483648 : Int) ≤ A28 78 (it).toNat ∧ A28 78 (it).toNat ≤ 2147483647 := hW29.2 78 _
                refine jr_ldv (pc_q := 138) (i := 78) (m := 200) (z := it) (y := A28 78 (it).toNat) rfl (by decide) rfl (by decide) (by omega) (by omega) rfl (show A28 78 (it).toNat = A28 78 (it).toNat from rfl) ?_
                refine jx_vr (pc_q := 141) (as := [.int (i32 (0)), .int (i32 (r69)), .int (i32 (A28 78 (it).toNat))]) (st := []) rfl rfl rfl rfl ⟨rfl, rfl, Nat.le_of_ble_eq_true rfl⟩ rfl rfl (c_store (dd := d) (hd := by omega) (hW := hW32) (p := 0) (a := r69) (v := A28 78 (it).toNat)   (h_p := ⟨(by decide), (by decide)⟩) (h_a := ⟨(Int.le_trans (by decide : (-2147483648 : Int) ≤ -2147483648) b70.1), (Int.le_trans b70.2 (by decide : (2147483647 : Int) ≤ 2147483647))⟩) (h_v := ⟨(Int.le_trans (by decide : (-2147483648 : Int) ≤ -2147483648) b73.1), (Int.le_trans b73.2 (by decide : (2147483647 : Int) ≤ 2147483647))⟩)  (p_0 := by omega) (p_1 := by omega)) (fun o V_q hq => ?_)
                obtain ⟨G74, A75, rfl, rfl, hW76, hF77, p78, -⟩ := hq
                have hF80 := Fr_tr hF33 hF77 (Fr_sub (by decide)) (Fr_sub (by decide))
                refine .inl ⟨rfl, ?_⟩
                refine jx_ld (pc_q := 142) (l_q := L54) (st_q := [.ref 66]) rfl (jl_aloadn gL54_0) ?_
                refine jx_ar (pc_q := 143) (st_q := [.ref 66, .ref 66]) rfl rfl rfl rfl ?_
                refine jr_get (pc_q := 146) (i := 111) (v := .int (i32 (it))) rfl rfl (by decide) (rFv_eq (by decide) (show G74 111 = it from ((hF77.1 111 rfl).trans ((hF8.1 111 rfl).trans (e_it))))) rfl ?_
                refine jx_ar (pc_q := 147) (st_q := [.int (i32 (1)), .int (i32 (it)), .ref 66]) rfl rfl rfl rfl ?_
                refine jx_add (pc_q := 148) rfl rfl ?_
                refine jr_put (pc_q := 151) (i := 111) (z := (it + 1)) rfl rfl (by decide) rfl rfl rfl rfl rfl rfl ?_
                have hW81 : Wk (uG G74 111 ((it + 1))) A75 := Wk_g hW76 (show (-2147483648 : Int) ≤ (it + 1) by omega) (show (it + 1) ≤ (2147483647 : Int) by omega)
                have hF82 := Fr_g (z := (it + 1)) (i := 111) hF80 (by decide)
                refine jx_ld (pc_q := 152) (l_q := L54) (st_q := [.ref 66]) rfl (jl_aloadn gL54_0) ?_
                refine jx_ar (pc_q := 153) (st_q := [.int (i32 (0)), .ref 66]) rfl rfl rfl rfl ?_
                refine jx_ar (pc_q := 155) (st_q := [.int (i32 (13)), .int (i32 (0)), .ref 66]) rfl rfl rfl rfl ?_
                refine jx_ar (pc_q := 156) (st_q := [.int (i32 (-1)), .int (i32 (13)), .int (i32 (0)), .ref 66]) rfl rfl rfl rfl ?_
                refine jx_vr (pc_q := 159) (as := [.int (i32 (0)), .int (i32 (13)), .int (i32 (-1))]) (st := []) rfl rfl rfl rfl ⟨rfl, rfl, Nat.le_of_ble_eq_true rfl⟩ rfl rfl (c_store (dd := d) (hd := by omega) (hW := hW81) (p := 0) (a := 13) (v := -1)   (h_p := ⟨(by decide), (by decide)⟩) (h_a := ⟨(by decide), (by decide)⟩) (h_v := ⟨(by decide), (by decide)⟩)  (p_0 := by omega) (p_1 := by omega)) (fun o V_q hq => ?_)
                obtain ⟨G83, A84, rfl, rfl, hW85, hF86, p87, -⟩ := hq
                have hF89 := Fr_tr hF82 hF86 (Fr_sub (by decide)) (Fr_sub (by decide))
                refine .inl ⟨rfl, ?_⟩
                have hr90 : A84 72 = A 72 := ((hF86.2 72 rfl).trans ((hF77.2 72 rfl).trans (((congrFun eA28 72).trans (uA_ne (by decide))).trans (hF8.2 72 rfl)))); have hr91 : A84 64 = A 64 := ((hF86.2 64 rfl).trans ((hF77.2 64 rfl).trans (((congrFun eA28 64).trans (uA_ne (by decide))).trans (hF8.2 64 rfl)))); have hr92 : A84 66 = A 66 := ((hF86.2 66 rfl).trans ((hF77.2 66 rfl).trans (((congrFun eA28 66).trans (uA_ne (by decide))).trans (hF8.2 66 rfl))))
                refine jx_ld (pc_q := 160) (l_q := L54) (st_q := [.ref 66]) rfl (jl_aloadn gL54_0) ?_
                refine jx_ar (pc_q := 161) (st_q := [.int (i32 (0)), .ref 66]) rfl rfl rfl rfl ?_
                refine jx_ld (pc_q := 162) (l_q := L54) (st_q := [.int (i32 (r50)), .int (i32 (0)), .ref 66]) rfl (jl_iloadn gL54_2) ?_
                have b93 : (-2147483648 : Int) ≤ A 72 ((2 * 0) : Int).toNat ∧ A 72 ((2 * 0) : Int).toNat ≤ 2147483647 := hW.2 72 _
                have b94 : (-2147483648 : Int) ≤ A 72 (((2 * 0) + 1) : Int).toNat ∧ A 72 (((2 * 0) + 1) : Int).toNat ≤ 2147483647 := hW.2 72 _
                refine jx_vr (pc_q := 165) (as := [.int (i32 (0)), .int (i32 (r50))]) (st := []) rfl rfl rfl rfl ⟨rfl, rfl, Nat.le_of_ble_eq_true rfl⟩ rfl rfl (c_makeReady (dd := d) (hd := by omega) (hW := hW85) (p := 0) (d2 := r50) (m0 := A 72 ((2 * 0) : Int).toNat) (e_m0 := show A84 72 ((2 * 0) : Int).toNat = A 72 ((2 * 0) : Int).toNat from (congrFun ((hF86.2 72 rfl).trans ((hF77.2 72 rfl).trans (((congrFun eA28 72).trans (uA_ne (by decide))).trans (hF8.2 72 rfl)))) _)) (m1 := A 72 (((2 * 0) + 1) : Int).toNat) (e_m1 := show A84 72 (((2 * 0) + 1) : Int).toNat = A 72 (((2 * 0) + 1) : Int).toNat from (congrFun ((hF86.2 72 rfl).trans ((hF77.2 72 rfl).trans (((congrFun eA28 72).trans (uA_ne (by decide))).trans (hF8.2 72 rfl)))) _))  (h_p := ⟨(by decide), (by decide)⟩) (h_d2 := ⟨(Int.le_trans (by decide : (-2147483648 : Int) ≤ -2147483648) b51.1), (Int.le_trans b51.2 (by decide : (2147483647 : Int) ≤ 2147483647))⟩)  (p_0 := by omega) (p_1 := by omega) (p_2 := by omega) (p_3 := by omega) (p_4 := by omega) (p_5 := by omega)) (fun o V_q hq => ?_)
                obtain ⟨G95, A96, rfl, rfl, hW97, hF98, p99, -⟩ := hq
                have hF101 := Fr_tr hF89 hF98 (Fr_sub (by decide)) (Fr_sub (by decide))
                refine .inl ⟨rfl, ?_⟩
                have hg5 := mk_g p99 hr90 hr91 hr92 (by omega) hcm0
                refine jx_ld (pc_q := 166) (l_q := L54) (st_q := [.ref 66]) rfl (jl_aloadn gL54_0) ?_
                refine jx_ar (pc_q := 167) (st_q := [.int (i32 (0)), .ref 66]) rfl rfl rfl rfl ?_
                have b102 : (-2147483648 : Int) ≤ A96 66 (0 : Int).toNat ∧ A96 66 (0 : Int).toNat ≤ 2147483647 := hW97.2 66 _
                have b103 : (-2147483648 : Int) ≤ A96 72 ((2 * 0) : Int).toNat ∧ A96 72 ((2 * 0) : Int).toNat ≤ 2147483647 := hW97.2 72 _
                have b104 : (-2147483648 : Int) ≤ A96 72 (((2 * 0) + 1) : Int).toNat ∧ A96 72 (((2 * 0) + 1) : Int).toNat ≤ 2147483647 := hW97.2 72 _
                refine jx_vr (pc_q := 170) (as := [.int (i32 (0))]) (st := []) rfl rfl rfl rfl ⟨rfl, rfl, Nat.le_of_ble_eq_true rfl⟩ rfl rfl (c_yield0 (dd := d) (hd := by omega) (hW := hW97) (p := 0) (rn0 := A96 66 (0 : Int).toNat) (e_rn0 := show A96 66 (0 : Int).toNat = A96 66 (0 : Int).toNat from rfl) (m0 := A96 72 ((2 * 0) : Int).toNat) (e_m0 := show A96 72 ((2 * 0) : Int).toNat = A96 72 ((2 * 0) : Int).toNat from rfl) (m1 := A96 72 (((2 * 0) + 1) : Int).toNat) (e_m1 := show A96 72 (((2 * 0) + 1) : Int).toNat = A96 72 (((2 * 0) + 1) : Int).toNat from rfl)  (h_p := ⟨(by decide), (by decide)⟩)  (p_0 := by omega) (p_1 := by omega) (p_2 := by omega) (p_3 := by omega) (p_4 := by omega) (p_5 := by omega) (p_6 := by omega)) (fun o V_q hq => ?_)
                obtain ⟨G105, A106, rfl, rfl, hW107, hF108, p109, -⟩ := hq
                have hF111 := Fr_tr hF101 hF108 (Fr_sub (by decide)) (Fr_sub (by decide))
                refine .inl ⟨rfl, ?_⟩
                refine jx_ld (pc_q := 171) (l_q := L54) (st_q := [.ref 66]) rfl (jl_aloadn gL54_0) ?_
                refine jr_get (pc_q := 174) (i := 110) (v := .int (i32 ((im + 1)))) rfl rfl (by decide) (rFv_eq (by decide) (show G105 110 = (im + 1) from ((hF108.1 110 rfl).trans ((hF98.1 110 rfl).trans ((hF86.1 110 rfl).trans (hF77.1 110 rfl)))))) rfl ?_
                refine jx_rt (v := some (.int (i32 ((im + 1))))) rfl rfl rfl rfl rfl rfl ?_
                exact ⟨_, _, _, (im + 1), (it + 1), rfl, rfl, hW107, hF111, by omega, ((hF108.1 110 rfl).trans ((hF98.1 110 rfl).trans ((hF86.1 110 rfl).trans (hF77.1 110 rfl)))), ((hF108.1 111 rfl).trans ((hF98.1 111 rfl).trans (hF86.1 111 rfl))), by omega, by omega, by omega, (by exfalso; omega), trivial⟩
            · have _q := h55
              refine jx_ld (pc_q := 91) (l_q := L54) (st_q := [.ref 66]) rfl (jl_aloadn gL54_0) ?_
              refine jx_ar (pc_q := 92) (st_q := [.int (i32 (0)), .ref 66]) rfl rfl rfl rfl ?_
              refine jx_ld (pc_q := 93) (l_q := L54) (st_q := [.int (i32 (r50)), .int (i32 (0)), .ref 66]) rfl (jl_iloadn gL54_2) ?_
              refine jx_ar (pc_q := 94) (st_q := [.int (i32 (1)), .int (i32 (r50)), .int (i32 (0)), .ref 66]) rfl rfl rfl rfl ?_
              refine jx_shr (pc_q := 95) rfl rfl ?_
              obtain ⟨b112, eb112⟩ : ∃ z, z = (i32 (r50) >>> (i32 (1) &&& 31)).toInt := ⟨_, rfl⟩
              rw [← eb112]
              have rb112 : (-2147483648 : Int) ≤ b112 ∧ b112 ≤ 2147483647 := eb112 ▸ i32_rg _
              have hb112 := (show b112 = (i32 r50 >>> (i32 1 &&& 31)).toInt from eb112).trans (shr_1 (by omega) (by omega))
              refine jx_ar (pc_q := 96) (st_q := [.int (i32 (3)), .int (i32 (b112)), .int (i32 (0)), .ref 66]) rfl rfl rfl rfl ?_
              refine jx_sub (pc_q := 97) rfl rfl ?_
              refine jx_vr (pc_q := 100) (as := [.int (i32 (0)), .int (i32 ((b112 - 3)))]) (st := []) rfl rfl rfl rfl ⟨rfl, rfl, Nat.le_of_ble_eq_true rfl⟩ rfl rfl (c_load (dd := d) (hd := by omega) (hW := hW32) (p := 0) (a := (b112 - 3))   (h_p := ⟨(by decide), (by decide)⟩) (h_a := ⟨(by omega), (by omega)⟩)  (p_0 := by omega) (p_1 := by omega)) (fun o V_q hq => ?_)
              obtain ⟨r113, rfl, rfl, b114, p115, -⟩ := hq
              refine .inr ⟨_, rfl, ?_⟩
              refine jx_if_eq (pc_q := 103) (tg := 112) rfl rfl rfl (Int.le_trans (by decide : (-2147483648 : Int) ≤ -2147483648) b114.1) (Int.le_trans b114.2 (by decide : (2147483647 : Int) ≤ 2147483647)) (fun h117 => ?_) (fun h117 => ?_)
              · have _q := h117
                refine jx_ld (pc_q := 113) (l_q := L54) (st_q := [.int (i32 (r50))]) rfl (jl_iloadn gL54_2) ?_
                refine jx_ar (pc_q := 114) (st_q := [.int (i32 (-1)), .int (i32 (r50))]) rfl rfl rfl rfl ?_
                refine jx_icmp_eq (pc_q := 117) (tg := 165) rfl rfl rfl (Int.le_trans (by decide : (-2147483648 : Int) ≤ -2147483648) b51.1) (Int.le_trans b51.2 (by decide : (2147483647 : Int) ≤ 2147483647)) (by decide) (by decide) (fun h118 => ?_) (fun h118 => ?_)
                · have _q := h118
                  have hk119 : A28 64 (0 : Int).toNat = A 64 (0 : Int).toNat := (congrFun (((congrFun eA28 64).trans (uA_ne (by decide))).trans (hF8.2 64 rfl)) _)
                  refine jx_ld (pc_q := 166) (l_q := L54) (st_q := [.ref 66]) rfl (jl_aloadn gL54_0) ?_
                  refine jx_ar (pc_q := 167) (st_q := [.int (i32 (0)), .ref 66]) rfl rfl rfl rfl ?_
                  have b120 : (-2147483648 : Int) ≤ A 66 (0 : Int).toNat ∧ A 66 (0 : Int).toNat ≤ 2147483647 := hW.2 66 _
                  have b121 : (-2147483648 : Int) ≤ A 72 ((2 * 0) : Int).toNat ∧ A 72 ((2 * 0) : Int).toNat ≤ 2147483647 := hW.2 72 _
                  have b122 : (-2147483648 : Int) ≤ A 72 (((2 * 0) + 1) : Int).toNat ∧ A 72 (((2 * 0) + 1) : Int).toNat ≤ 2147483647 := hW.2 72 _
                  refine jx_vr (pc_q := 170) (as := [.int (i32 (0))]) (st := []) rfl rfl rfl rfl ⟨rfl, rfl, Nat.le_of_ble_eq_true rfl⟩ rfl rfl (c_yield0 (dd := d) (hd := by omega) (hW := hW32) (p := 0) (rn0 := A 66 (0 : Int).toNat) (e_rn0 := show A28 66 (0 : Int).toNat = A 66 (0 : Int).toNat from (congrFun (((congrFun eA28 66).trans (uA_ne (by decide))).trans (hF8.2 66 rfl)) _)) (m0 := A 72 ((2 * 0) : Int).toNat) (e_m0 := show A28 72 ((2 * 0) : Int).toNat = A 72 ((2 * 0) : Int).toNat from (congrFun (((congrFun eA28 72).trans (uA_ne (by decide))).trans (hF8.2 72 rfl)) _)) (m1 := A 72 (((2 * 0) + 1) : Int).toNat) (e_m1 := show A28 72 (((2 * 0) + 1) : Int).toNat = A 72 (((2 * 0) + 1) : Int).toNat from (congrFun (((congrFun eA28 72).trans (uA_ne (by decide))).trans (hF8.2 72 rfl)) _))  (h_p := ⟨(by decide), (by decide)⟩)  (p_0 := by omega) (p_1 := by omega) (p_2 := by omega) (p_3 := by omega) (p_4 := by omega) (p_5 := by omega) (p_6 := by omega)) (fun o V_q hq => ?_)
                  obtain ⟨G123, A124, rfl, rfl, hW125, hF126, p127, -⟩ := hq
                  have hF129 := Fr_tr hF33 hF126 (Fr_sub (by decide)) (Fr_sub (by decide))
                  refine .inl ⟨rfl, ?_⟩
                  refine jx_ld (pc_q := 171) (l_q := L54) (st_q := [.ref 66]) rfl (jl_aloadn gL54_0) ?_
                  refine jr_get (pc_q := 174) (i := 110) (v := .int (i32 ((im + 1)))) rfl rfl (by decide) (rFv_eq (by decide) (show G123 110 = (im + 1) from (hF126.1 110 rfl))) rfl ?_
                  refine jx_rt (v := some (.int (i32 ((im + 1))))) rfl rfl rfl rfl rfl rfl ?_
                  exact ⟨_, _, _, (im + 1), it, rfl, rfl, hW125, hF129, by omega, (hF126.1 110 rfl), ((hF126.1 111 rfl).trans ((hF8.1 111 rfl).trans (e_it))), by omega, by omega, by omega, (fun _ => in_0 hgz eA28 p127), trivial⟩
                · have _q := h118
                  refine jx_ld (pc_q := 118) (l_q := L54) (st_q := [.ref 66]) rfl (jl_aloadn gL54_0) ?_
                  refine jx_ar (pc_q := 119) (st_q := [.int (i32 (0)), .ref 66]) rfl rfl rfl rfl ?_
                  refine jx_ld (pc_q := 120) (l_q := L54) (st_q := [.ref 66, .int (i32 (0)), .ref 66]) rfl (jl_aloadn gL54_0) ?_
                  refine jx_ar (pc_q := 121) (st_q := [.int (i32 (0)), .ref 66, .int (i32 (0)), .ref 66]) rfl rfl rfl rfl ?_
                  refine jx_ld (pc_q := 122) (l_q := L54) (st_q := [.int (i32 (r50)), .int (i32 (0)), .ref 66, .int (i32 (0)), .ref 66]) rfl (jl_iloadn gL54_2) ?_
                  refine jx_ar (pc_q := 123) (st_q := [.int (i32 (1)), .int (i32 (r50)), .int (i32 (0)), .ref 66, .int (i32 (0)), .ref 66]) rfl rfl rfl rfl ?_
                  refine jx_shr (pc_q := 124) rfl rfl ?_
                  obtain ⟨b130, eb130⟩ : ∃ z, z = (i32 (r50) >>> (i32 (1) &&& 31)).toInt := ⟨_, rfl⟩
                  rw [← eb130]
                  have rb130 : (-2147483648 : Int) ≤ b130 ∧ b130 ≤ 2147483647 := eb130 ▸ i32_rg _
                  have hb130 := (show b130 = (i32 r50 >>> (i32 1 &&& 31)).toInt from eb130).trans (shr_1 (by omega) (by omega))
                  refine jx_ar (pc_q := 125) (st_q := [.int (i32 (2)), .int (i32 (b130)), .int (i32 (0)), .ref 66, .int (i32 (0)), .ref 66]) rfl rfl rfl rfl ?_
                  refine jx_sub (pc_q := 126) rfl rfl ?_
                  refine jx_vr (pc_q := 129) (as := [.int (i32 (0)), .int (i32 ((b130 - 2)))]) (st := [.int (i32 (0)), .ref 66]) rfl rfl rfl rfl ⟨rfl, rfl, Nat.le_of_ble_eq_true rfl⟩ rfl rfl (c_load (dd := d) (hd := by omega) (hW := hW32) (p := 0) (a := (b130 - 2))   (h_p := ⟨(by decide), (by decide)⟩) (h_a := ⟨(by omega), (by omega)⟩)  (p_0 := by omega) (p_1 := by omega)) (fun o V_q hq => ?_)
                  obtain ⟨r131, rfl, rfl, b132, p133, -⟩ := hq
                  refine .inr ⟨_, rfl, ?_⟩
                  refine jx_ld (pc_q := 130) (l_q := L54) (st_q := [.ref 66, .int (i32 (r131)), .int (i32 (0)), .ref 66]) rfl (jl_aloadn gL54_0) ?_
                  refine jr_get (pc_q := 133) (i := 109) (v := .ref 145) rfl rfl (by decide) rfl rfl ?_
                  refine jx_ld (pc_q := 134) (l_q := L54) (st_q := [.ref 66, .ref 145, .int (i32 (r131)), .int (i32 (0)), .ref 66]) rfl (jl_aloadn gL54_0) ?_
                  refine jr_get (pc_q := 137) (i := 111) (v := .int (i32 (it))) rfl rfl (by decide) (rFv_eq (by decide) (show (uG G3 110 ((im + 1))) 111 = it from ((hF8.1 111 rfl).trans (e_it)))) rfl ?_
                  have b135 : (-2147483648 : Int) ≤ A28 78 (it).toNat ∧ A28 78 (it).toNat ≤ 2147483647 := hW29.2 78 _
                  refine jr_ldv (pc_q := 138) (i := 78) (m := 200) (z := it) (y := A28 78 (it).toNat) rfl (by decide) rfl (by decide) (by omega) (by omega) rfl (show A28 78 (it).toNat = A28 78 (it).toNat from rfl) ?_
                  refine jx_vr (pc_q := 141) (as := [.int (i32 (0)), .int (i32 (r131)), .int (i32 (A28 78 (it).toNat))]) (st := []) rfl rfl rfl rfl ⟨rfl, rfl, Nat.le_of_ble_eq_true rfl⟩ rfl rfl (c_store (dd := d) (hd := by omega) (hW := hW32) (p := 0) (a := r131) (v := A28 78 (it).toNat)   (h_p := ⟨(by decide), (by decide)⟩) (h_a := ⟨(Int.le_trans (by decide : (-2147483648 : Int) ≤ -2147483648) b132.1), (Int.le_trans b132.2 (by decide : (2147483647 : Int) ≤ 2147483647))⟩) (h_v := ⟨(Int.le_trans (by decide : (-2147483648 : Int) ≤ -2147483648) b135.1), (Int.le_trans b135.2 (by decide : (2147483647 : Int) ≤ 2147483647))⟩)  (p_0 := by omega) (p_1 := by omega)) (fun o V_q hq => ?_)
                  obtain ⟨G136, A137, rfl, rfl, hW138, hF139, p140, -⟩ := hq
                  have hF142 := Fr_tr hF33 hF139 (Fr_sub (by decide)) (Fr_sub (by decide))
                  refine .inl ⟨rfl, ?_⟩
                  refine jx_ld (pc_q := 142) (l_q := L54) (st_q := [.ref 66]) rfl (jl_aloadn gL54_0) ?_
                  refine jx_ar (pc_q := 143) (st_q := [.ref 66, .ref 66]) rfl rfl rfl rfl ?_
                  refine jr_get (pc_q := 146) (i := 111) (v := .int (i32 (it))) rfl rfl (by decide) (rFv_eq (by decide) (show G136 111 = it from ((hF139.1 111 rfl).trans ((hF8.1 111 rfl).trans (e_it))))) rfl ?_
                  refine jx_ar (pc_q := 147) (st_q := [.int (i32 (1)), .int (i32 (it)), .ref 66]) rfl rfl rfl rfl ?_
                  refine jx_add (pc_q := 148) rfl rfl ?_
                  refine jr_put (pc_q := 151) (i := 111) (z := (it + 1)) rfl rfl (by decide) rfl rfl rfl rfl rfl rfl ?_
                  have hW143 : Wk (uG G136 111 ((it + 1))) A137 := Wk_g hW138 (show (-2147483648 : Int) ≤ (it + 1) by omega) (show (it + 1) ≤ (2147483647 : Int) by omega)
                  have hF144 := Fr_g (z := (it + 1)) (i := 111) hF142 (by decide)
                  refine jx_ld (pc_q := 152) (l_q := L54) (st_q := [.ref 66]) rfl (jl_aloadn gL54_0) ?_
                  refine jx_ar (pc_q := 153) (st_q := [.int (i32 (0)), .ref 66]) rfl rfl rfl rfl ?_
                  refine jx_ar (pc_q := 155) (st_q := [.int (i32 (13)), .int (i32 (0)), .ref 66]) rfl rfl rfl rfl ?_
                  refine jx_ar (pc_q := 156) (st_q := [.int (i32 (-1)), .int (i32 (13)), .int (i32 (0)), .ref 66]) rfl rfl rfl rfl ?_
                  refine jx_vr (pc_q := 159) (as := [.int (i32 (0)), .int (i32 (13)), .int (i32 (-1))]) (st := []) rfl rfl rfl rfl ⟨rfl, rfl, Nat.le_of_ble_eq_true rfl⟩ rfl rfl (c_store (dd := d) (hd := by omega) (hW := hW143) (p := 0) (a := 13) (v := -1)   (h_p := ⟨(by decide), (by decide)⟩) (h_a := ⟨(by decide), (by decide)⟩) (h_v := ⟨(by decide), (by decide)⟩)  (p_0 := by omega) (p_1 := by omega)) (fun o V_q hq => ?_)
                  obtain ⟨G145, A146, rfl, rfl, hW147, hF148, p149, -⟩ := hq
                  have hF151 := Fr_tr hF144 hF148 (Fr_sub (by decide)) (Fr_sub (by decide))
                  refine .inl ⟨rfl, ?_⟩
                  have hr152 : A146 72 = A 72 := ((hF148.2 72 rfl).trans ((hF139.2 72 rfl).trans (((congrFun eA28 72).trans (uA_ne (by decide))).trans (hF8.2 72 rfl)))); have hr153 : A146 64 = A 64 := ((hF148.2 64 rfl).trans ((hF139.2 64 rfl).trans (((congrFun eA28 64).trans (uA_ne (by decide))).trans (hF8.2 64 rfl)))); have hr154 : A146 66 = A 66 := ((hF148.2 66 rfl).trans ((hF139.2 66 rfl).trans (((congrFun eA28 66).trans (uA_ne (by decide))).trans (hF8.2 66 rfl))))
                  refine jx_ld (pc_q := 160) (l_q := L54) (st_q := [.ref 66]) rfl (jl_aloadn gL54_0) ?_
                  refine jx_ar (pc_q := 161) (st_q := [.int (i32 (0)), .ref 66]) rfl rfl rfl rfl ?_
                  refine jx_ld (pc_q := 162) (l_q := L54) (st_q := [.int (i32 (r50)), .int (i32 (0)), .ref 66]) rfl (jl_iloadn gL54_2) ?_
                  have b155 : (-2147483648 : Int) ≤ A 72 ((2 * 0) : Int).toNat ∧ A 72 ((2 * 0) : Int).toNat ≤ 2147483647 := hW.2 72 _
                  have b156 : (-2147483648 : Int) ≤ A 72 (((2 * 0) + 1) : Int).toNat ∧ A 72 (((2 * 0) + 1) : Int).toNat ≤ 2147483647 := hW.2 72 _
                  refine jx_vr (pc_q := 165) (as := [.int (i32 (0)), .int (i32 (r50))]) (st := []) rfl rfl rfl rfl ⟨rfl, rfl, Nat.le_of_ble_eq_true rfl⟩ rfl rfl (c_makeReady (dd := d) (hd := by omega) (hW := hW147) (p := 0) (d2 := r50) (m0 := A 72 ((2 * 0) : Int).toNat) (e_m0 := show A146 72 ((2 * 0) : Int).toNat = A 72 ((2 * 0) : Int).toNat from (congrFun ((hF148.2 72 rfl).trans ((hF139.2 72 rfl).trans (((congrFun eA28 72).trans (uA_ne (by decide))).trans (hF8.2 72 rfl)))) _)) (m1 := A 72 (((2 * 0) + 1) : Int).toNat) (e_m1 := show A146 72 (((2 * 0) + 1) : Int).toNat = A 72 (((2 * 0) + 1) : Int).toNat from (congrFun ((hF148.2 72 rfl).trans ((hF139.2 72 rfl).trans (((congrFun eA28 72).trans (uA_ne (by decide))).trans (hF8.2 72 rfl)))) _))  (h_p := ⟨(by decide), (by decide)⟩) (h_d2 := ⟨(Int.le_trans (by decide : (-2147483648 : Int) ≤ -2147483648) b51.1), (Int.le_trans b51.2 (by decide : (2147483647 : Int) ≤ 2147483647))⟩)  (p_0 := by omega) (p_1 := by omega) (p_2 := by omega) (p_3 := by omega) (p_4 := by omega) (p_5 := by omega)) (fun o V_q hq => ?_)
                  obtain ⟨G157, A158, rfl, rfl, hW159, hF160, p161, -⟩ := hq
                  have hF163 := Fr_tr hF151 hF160 (Fr_sub (by decide)) (Fr_sub (by decide))
                  refine .inl ⟨rfl, ?_⟩
                  have hg5 := mk_g p161 hr152 hr153 hr154 (by omega) hcm0
                  refine jx_ld (pc_q := 166) (l_q := L54) (st_q := [.ref 66]) rfl (jl_aloadn gL54_0) ?_
                  refine jx_ar (pc_q := 167) (st_q := [.int (i32 (0)), .ref 66]) rfl rfl rfl rfl ?_
                  have b164 : (-2147483648 : Int) ≤ A158 66 (0 : Int).toNat ∧ A158 66 (0 : Int).toNat ≤ 2147483647 := hW159.2 66 _
                  have b165 : (-2147483648 : Int) ≤ A158 72 ((2 * 0) : Int).toNat ∧ A158 72 ((2 * 0) : Int).toNat ≤ 2147483647 := hW159.2 72 _
                  have b166 : (-2147483648 : Int) ≤ A158 72 (((2 * 0) + 1) : Int).toNat ∧ A158 72 (((2 * 0) + 1) : Int).toNat ≤ 2147483647 := hW159.2 72 _
                  refine jx_vr (pc_q := 170) (as := [.int (i32 (0))]) (st := []) rfl rfl rfl rfl ⟨rfl, rfl, Nat.le_of_ble_eq_true rfl⟩ rfl rfl (c_yield0 (dd := d) (hd := by omega) (hW := hW159) (p := 0) (rn0 := A158 66 (0 : Int).toNat) (e_rn0 := show A158 66 (0 : Int).toNat = A158 66 (0 : Int).toNat from rfl) (m0 := A158 72 ((2 * 0) : Int).toNat) (e_m0 := show A158 72 ((2 * 0) : Int).toNat = A158 72 ((2 * 0) : Int).toNat from rfl) (m1 := A158 72 (((2 * 0) + 1) : Int).toNat) (e_m1 := show A158 72 (((2 * 0) + 1) : Int).toNat = A158 72 (((2 * 0) + 1) : Int).toNat from rfl)  (h_p := ⟨(by decide), (by decide)⟩)  (p_0 := by omega) (p_1 := by omega) (p_2 := by omega) (p_3 := by omega) (p_4 := by omega) (p_5 := by omega) (p_6 := by omega)) (fun o V_q hq => ?_)
                  obtain ⟨G167, A168, rfl, rfl, hW169, hF170, p171, -⟩ := hq
                  have hF173 := Fr_tr hF163 hF170 (Fr_sub (by decide)) (Fr_sub (by decide))
                  refine .inl ⟨rfl, ?_⟩
                  refine jx_ld (pc_q := 171) (l_q := L54) (st_q := [.ref 66]) rfl (jl_aloadn gL54_0) ?_
                  refine jr_get (pc_q := 174) (i := 110) (v := .int (i32 ((im + 1)))) rfl rfl (by decide) (rFv_eq (by decide) (show G167 110 = (im + 1) from ((hF170.1 110 rfl).trans ((hF160.1 110 rfl).trans ((hF148.1 110 rfl).trans (hF139.1 110 rfl)))))) rfl ?_
                  refine jx_rt (v := some (.int (i32 ((im + 1))))) rfl rfl rfl rfl rfl rfl ?_
                  exact ⟨_, _, _, (im + 1), (it + 1), rfl, rfl, hW169, hF173, by omega, ((hF170.1 110 rfl).trans ((hF160.1 110 rfl).trans ((hF148.1 110 rfl).trans (hF139.1 110 rfl)))), ((hF170.1 111 rfl).trans ((hF160.1 111 rfl).trans (hF148.1 111 rfl))), by omega, by omega, by omega, (fun _ => in_I hgz eA28 p52 (by omega) hb112 p115 (by omega) hb130 p133 p140 p149 p161 p171), trivial⟩
              · have _q := h117
                have hr174 : A28 72 = A 72 := (((congrFun eA28 72).trans (uA_ne (by decide))).trans (hF8.2 72 rfl)); have hr175 : A28 64 = A 64 := (((congrFun eA28 64).trans (uA_ne (by decide))).trans (hF8.2 64 rfl)); have hr176 : A28 66 = A 66 := (((congrFun eA28 66).trans (uA_ne (by decide))).trans (hF8.2 66 rfl))
                refine jx_ld (pc_q := 104) (l_q := L54) (st_q := [.ref 66]) rfl (jl_aloadn gL54_0) ?_
                refine jx_ar (pc_q := 105) (st_q := [.int (i32 (0)), .ref 66]) rfl rfl rfl rfl ?_
                refine jx_ld (pc_q := 106) (l_q := L54) (st_q := [.int (i32 (r50)), .int (i32 (0)), .ref 66]) rfl (jl_iloadn gL54_2) ?_
                have b177 : (-2147483648 : Int) ≤ A 72 ((2 * 0) : Int).toNat ∧ A 72 ((2 * 0) : Int).toNat ≤ 2147483647 := hW.2 72 _
                have b178 : (-2147483648 : Int) ≤ A 72 (((2 * 0) + 1) : Int).toNat ∧ A 72 (((2 * 0) + 1) : Int).toNat ≤ 2147483647 := hW.2 72 _
                refine jx_vr (pc_q := 109) (as := [.int (i32 (0)), .int (i32 (r50))]) (st := []) rfl rfl rfl rfl ⟨rfl, rfl, Nat.le_of_ble_eq_true rfl⟩ rfl rfl (c_wake (dd := d) (hd := by omega) (hW := hW32) (p := 0) (d2 := r50) (m0 := A 72 ((2 * 0) : Int).toNat) (e_m0 := show A28 72 ((2 * 0) : Int).toNat = A 72 ((2 * 0) : Int).toNat from (congrFun (((congrFun eA28 72).trans (uA_ne (by decide))).trans (hF8.2 72 rfl)) _)) (m1 := A 72 (((2 * 0) + 1) : Int).toNat) (e_m1 := show A28 72 (((2 * 0) + 1) : Int).toNat = A 72 (((2 * 0) + 1) : Int).toNat from (congrFun (((congrFun eA28 72).trans (uA_ne (by decide))).trans (hF8.2 72 rfl)) _))  (h_p := ⟨(by decide), (by decide)⟩) (h_d2 := ⟨(Int.le_trans (by decide : (-2147483648 : Int) ≤ -2147483648) b51.1), (Int.le_trans b51.2 (by decide : (2147483647 : Int) ≤ 2147483647))⟩)  (p_0 := by omega) (p_1 := by omega) (p_2 := by omega) (p_3 := by omega) (p_4 := by omega) (p_5 := by omega)) (fun o V_q hq => ?_)
                obtain ⟨G179, A180, rfl, rfl, hW181, hF182, p183, -⟩ := hq
                have hF185 := Fr_tr hF33 hF182 (Fr_sub (by decide)) (Fr_sub (by decide))
                refine .inl ⟨rfl, ?_⟩
                refine jx_go (tg := 165) rfl rfl ?_
                have hg5 := wk_g p183 hr174 hr175 hr176 (by omega) hcm0
                refine jx_ld (pc_q := 166) (l_q := L54) (st_q := [.ref 66]) rfl (jl_aloadn gL54_0) ?_
                refine jx_ar (pc_q := 167) (st_q := [.int (i32 (0)), .ref 66]) rfl rfl rfl rfl ?_
                have b186 : (-2147483648 : Int) ≤ A180 66 (0 : Int).toNat ∧ A180 66 (0 : Int).toNat ≤ 2147483647 := hW181.2 66 _
                have b187 : (-2147483648 : Int) ≤ A180 72 ((2 * 0) : Int).toNat ∧ A180 72 ((2 * 0) : Int).toNat ≤ 2147483647 := hW181.2 72 _
                have b188 : (-2147483648 : Int) ≤ A180 72 (((2 * 0) + 1) : Int).toNat ∧ A180 72 (((2 * 0) + 1) : Int).toNat ≤ 2147483647 := hW181.2 72 _
                refine jx_vr (pc_q := 170) (as := [.int (i32 (0))]) (st := []) rfl rfl rfl rfl ⟨rfl, rfl, Nat.le_of_ble_eq_true rfl⟩ rfl rfl (c_yield0 (dd := d) (hd := by omega) (hW := hW181) (p := 0) (rn0 := A180 66 (0 : Int).toNat) (e_rn0 := show A180 66 (0 : Int).toNat = A180 66 (0 : Int).toNat from rfl) (m0 := A180 72 ((2 * 0) : Int).toNat) (e_m0 := show A180 72 ((2 * 0) : Int).toNat = A180 72 ((2 * 0) : Int).toNat from rfl) (m1 := A180 72 (((2 * 0) + 1) : Int).toNat) (e_m1 := show A180 72 (((2 * 0) + 1) : Int).toNat = A180 72 (((2 * 0) + 1) : Int).toNat from rfl)  (h_p := ⟨(by decide), (by decide)⟩)  (p_0 := by omega) (p_1 := by omega) (p_2 := by omega) (p_3 := by omega) (p_4 := by omega) (p_5 := by omega) (p_6 := by omega)) (fun o V_q hq => ?_)
                obtain ⟨G189, A190, rfl, rfl, hW191, hF192, p193, -⟩ := hq
                have hF195 := Fr_tr hF185 hF192 (Fr_sub (by decide)) (Fr_sub (by decide))
                refine .inl ⟨rfl, ?_⟩
                refine jx_ld (pc_q := 171) (l_q := L54) (st_q := [.ref 66]) rfl (jl_aloadn gL54_0) ?_
                refine jr_get (pc_q := 174) (i := 110) (v := .int (i32 ((im + 1)))) rfl rfl (by decide) (rFv_eq (by decide) (show G189 110 = (im + 1) from ((hF192.1 110 rfl).trans (hF182.1 110 rfl)))) rfl ?_
                refine jx_rt (v := some (.int (i32 ((im + 1))))) rfl rfl rfl rfl rfl rfl ?_
                exact ⟨_, _, _, (im + 1), it, rfl, rfl, hW191, hF195, by omega, ((hF192.1 110 rfl).trans (hF182.1 110 rfl)), ((hF192.1 111 rfl).trans ((hF182.1 111 rfl).trans ((hF8.1 111 rfl).trans (e_it)))), by omega, by omega, by omega, (fun _ => in_A hgz eA28 p52 (by omega) hb112 p115 (by omega) p183 p193), trivial⟩
        · have _q := h27
          exact absurd h27 (by omega)
    · have _q := h2
      refine jx_ld (pc_q := 21) (l_q := [(0, .ref 66), (1, .int (i32 (v)))]) (st_q := [.ref 66, .int (i32 (0)), .ref 66]) rfl (jl_aloadn rfl) ?_
      refine jr_get (pc_q := 24) (i := 110) (v := .int (i32 (im))) rfl rfl (by decide) (rFv_eq (by decide) (show G 110 = im from (e_im))) rfl ?_
      refine jx_ar (pc_q := 27) (st_q := [.int (i32 (200)), .int (i32 (im)), .int (i32 (0)), .ref 66]) rfl rfl rfl rfl ?_
      refine jx_icmp_ne (pc_q := 30) (tg := 34) rfl rfl rfl (Int.le_trans (by decide : (-2147483648 : Int) ≤ -2147483648) b_im.1) (Int.le_trans b_im.2 (by decide : (2147483647 : Int) ≤ 2147483647)) (by decide) (by decide) (fun h196 => ?_) (fun h196 => ?_)
      · have _q := h196
        refine jx_ar (pc_q := 35) (st_q := [.int (i32 (0)), .int (i32 (0)), .ref 66]) rfl rfl rfl rfl ?_
        refine jx_ar (pc_q := 36) (st_q := [.int (i32 (0)), .int (i32 (0)), .int (i32 (0)), .ref 66]) rfl rfl rfl rfl ?_
        refine jx_vr (pc_q := 39) (as := [.int (i32 (0)), .int (i32 (0)), .int (i32 (0))]) (st := []) rfl rfl rfl rfl ⟨rfl, rfl, Nat.le_of_ble_eq_true rfl⟩ rfl rfl (c_refuse (dd := d) (hd := by omega) (hW := hW) (a := 0) (b := 0) (c := 0)   (h_a := ⟨(by decide), (by decide)⟩) (h_b := ⟨(by decide), (by decide)⟩) (h_c := ⟨(by decide), (by decide)⟩)  ) (fun o V_q hq => ?_)
        obtain ⟨G197, A198, r199, th2_200, rfl, rfl, hW201, hF202, b203, e204, q205⟩ := hq
        have hF206 := Fr_tr hF0 hF202 (Fr_sub (by decide)) (Fr_sub (by decide))
        have sf207 : (pg) = 1 → GZ (lk) A198 := (show A198 = A from funext (fun k => hF202.2 k rfl)) ▸ p_3
        have bth2_200 : (0 : Int) ≤ th2_200 ∧ th2_200 ≤ 4 := e204 ▸ hW201.1 0
        refine .inr ⟨_, rfl, ?_⟩
        rcases q205 with ⟨rfl, a208, a209⟩ | ⟨rfl, a210, a211, a212⟩ | ⟨rfl, a213, a214, a215, a216⟩ | ⟨rfl, a217, a218, a219, a220⟩
        · have _q : True := trivial
          exfalso
          omega
        · have _q : True := trivial
          exfalso
          omega
        · have _q : True := trivial
          exfalso
          omega
        · have _q : True := trivial
          refine jx_if_eq (pc_q := 42) (tg := 44) rfl rfl rfl (by decide) (by decide) (fun h221 => ?_) (fun h221 => ?_)
          · have _q := h221
            have hgz := sf207 (by omega); have hcm := GS_cm (p_3 (by omega)).1 0 (by decide) (by decide); have hcm0 := hcm; unfold Cm at hcm
            refine jx_ld (pc_q := 45) (l_q := [(0, .ref 66), (1, .int (i32 (v)))]) (st_q := [.ref 66]) rfl (jl_aloadn rfl) ?_
            refine jr_get (pc_q := 48) (i := 109) (v := .ref 145) rfl rfl (by decide) rfl rfl ?_
            refine jx_ld (pc_q := 49) (l_q := [(0, .ref 66), (1, .int (i32 (v)))]) (st_q := [.ref 66, .ref 145]) rfl (jl_aloadn rfl) ?_
            refine jr_get (pc_q := 52) (i := 110) (v := .int (i32 (im))) rfl rfl (by decide) (rFv_eq (by decide) (show G197 110 = im from ((hF202.1 110 rfl).trans (e_im)))) rfl ?_
            refine jx_ld (pc_q := 53) (l_q := [(0, .ref 66), (1, .int (i32 (v)))]) (st_q := [.int (i32 (v)), .int (i32 (im)), .ref 145]) rfl (jl_iloadn rfl) ?_
            refine jr_st (pc_q := 54) (i := 78) (m := 200) (z := im) (y := v) rfl (by decide) rfl (by decide) (by omega) (by omega) rfl ?_
            have hW223 : Wk G197 (uA A198 78 (im).toNat (v)) := Wk_a hW201 (show (-2147483648 : Int) ≤ v by omega) (show v ≤ (2147483647 : Int) by omega)
            have hF224 := Fr_a (z := v) (k := 78) (n := (im).toNat) hF206 (by decide)
            obtain ⟨A222, eA222⟩ : ∃ q, q = uA A198 78 (im).toNat (v) := ⟨_, rfl⟩
            rw [← eA222]
            rw [← eA222] at hW223 hF224
            have q225 : A222 78 (im).toNat = v := by rw [eA222]; exact uA_eq
            refine jx_ld (pc_q := 55) (l_q := [(0, .ref 66), (1, .int (i32 (v)))]) (st_q := [.ref 66]) rfl (jl_aloadn rfl) ?_
            refine jx_ar (pc_q := 56) (st_q := [.ref 66, .ref 66]) rfl rfl rfl rfl ?_
            refine jr_get (pc_q := 59) (i := 110) (v := .int (i32 (im))) rfl rfl (by decide) (rFv_eq (by decide) (show G197 110 = im from ((hF202.1 110 rfl).trans (e_im)))) rfl ?_
            refine jx_ar (pc_q := 60) (st_q := [.int (i32 (1)), .int (i32 (im)), .ref 66]) rfl rfl rfl rfl ?_
            refine jx_add (pc_q := 61) rfl rfl ?_
            refine jr_put (pc_q := 64) (i := 110) (z := (im + 1)) rfl rfl (by decide) rfl rfl rfl rfl rfl rfl ?_
            have hW226 : Wk (uG G197 110 ((im + 1))) A222 := Wk_g hW223 (show (-2147483648 : Int) ≤ (im + 1) by omega) (show (im + 1) ≤ (2147483647 : Int) by omega)
            have hF227 := Fr_g (z := (im + 1)) (i := 110) hF224 (by decide)
            refine jx_ld (pc_q := 65) (l_q := [(0, .ref 66), (1, .int (i32 (v)))]) (st_q := [.ref 66]) rfl (jl_aloadn rfl) ?_
            refine jr_get (pc_q := 68) (i := 55) (v := .ref 103) rfl rfl (by decide) rfl rfl ?_
            refine jx_ar (pc_q := 69) (st_q := [.int (i32 (0)), .ref 103]) rfl rfl rfl rfl ?_
            have b228 : (-2147483648 : Int) ≤ A 36 ((0 : Int)).toNat ∧ A 36 ((0 : Int)).toNat ≤ 2147483647 := hW.2 36 _
            refine jr_ldv (pc_q := 70) (i := 36) (m := 6) (z := (0 : Int)) (y := A 36 ((0 : Int)).toNat) rfl (by decide) rfl (by decide) (by omega) (by omega) rfl (show A222 36 ((0 : Int)).toNat = A 36 ((0 : Int)).toNat from (congrFun (((congrFun eA222 36).trans (uA_ne (by decide))).trans (hF202.2 36 rfl)) _)) ?_
            refine jx_if_le (pc_q := 73) (tg := 83) rfl rfl rfl (Int.le_trans (by decide : (-2147483648 : Int) ≤ -2147483648) b228.1) (Int.le_trans b228.2 (by decide : (2147483647 : Int) ≤ 2147483647)) (fun h229 => ?_) (fun h229 => ?_)
            · have _q := h229
              refine jx_ar (pc_q := 84) (st_q := [.int (i32 (-1))]) rfl rfl rfl rfl ?_
              refine jx_ld (pc_q := 85) (l_q := jSto1 [(0, .ref 66), (1, .int (i32 (v)))] 2 (.int (i32 (-1)))) (st_q := []) rfl rfl ?_
              obtain ⟨L230, eL230⟩ : ∃ q, q = jSto1 [(0, .ref 66), (1, .int (i32 (v)))] 2 (.int (i32 (-1))) := ⟨_, rfl⟩
              rw [← eL230]
              have gL230_0 : jGet L230 0 = some (.ref 66) := eL230 ▸ jg_ne (by decide) (rfl : jGet [(0, .ref 66), (1, .int (i32 (v)))] 0 = some (.ref 66)) rfl
              have gL230_1 : jGet L230 1 = some (.int (i32 (v))) := eL230 ▸ jg_ne (by decide) (rfl : jGet [(0, .ref 66), (1, .int (i32 (v)))] 1 = some (.int (i32 (v)))) rfl
              have gL230_2 : jGet L230 2 = some (.int (i32 (-1))) := eL230 ▸ jg_eq
              refine jx_ld (pc_q := 86) (l_q := L230) (st_q := [.int (i32 (-1))]) rfl (jl_iloadn gL230_2) ?_
              refine jx_ar (pc_q := 87) (st_q := [.int (i32 (-1)), .int (i32 (-1))]) rfl rfl rfl rfl ?_
              refine jx_icmp_eq (pc_q := 90) (tg := 112) rfl rfl rfl (by decide) (by decide) (by decide) (by decide) (fun h231 => ?_) (fun h231 => ?_)
              · have _q := h231
                refine jx_ld (pc_q := 113) (l_q := L230) (st_q := [.int (i32 (-1))]) rfl (jl_iloadn gL230_2) ?_
                refine jx_ar (pc_q := 114) (st_q := [.int (i32 (-1)), .int (i32 (-1))]) rfl rfl rfl rfl ?_
                refine jx_icmp_eq (pc_q := 117) (tg := 165) rfl rfl rfl (by decide) (by decide) (by decide) (by decide) (fun h232 => ?_) (fun h232 => ?_)
                · have _q := h232
                  have hk233 : A222 64 (0 : Int).toNat = A 64 (0 : Int).toNat := (congrFun (((congrFun eA222 64).trans (uA_ne (by decide))).trans (hF202.2 64 rfl)) _)
                  refine jx_ld (pc_q := 166) (l_q := L230) (st_q := [.ref 66]) rfl (jl_aloadn gL230_0) ?_
                  refine jx_ar (pc_q := 167) (st_q := [.int (i32 (0)), .ref 66]) rfl rfl rfl rfl ?_
                  have b234 : (-2147483648 : Int) ≤ A 66 (0 : Int).toNat ∧ A 66 (0 : Int).toNat ≤ 2147483647 := hW.2 66 _
                  have b235 : (-2147483648 : Int) ≤ A 72 ((2 * 0) : Int).toNat ∧ A 72 ((2 * 0) : Int).toNat ≤ 2147483647 := hW.2 72 _
                  have b236 : (-2147483648 : Int) ≤ A 72 (((2 * 0) + 1) : Int).toNat ∧ A 72 (((2 * 0) + 1) : Int).toNat ≤ 2147483647 := hW.2 72 _
                  refine jx_vr (pc_q := 170) (as := [.int (i32 (0))]) (st := []) rfl rfl rfl rfl ⟨rfl, rfl, Nat.le_of_ble_eq_true rfl⟩ rfl rfl (c_yield0 (dd := d) (hd := by omega) (hW := hW226) (p := 0) (rn0 := A 66 (0 : Int).toNat) (e_rn0 := show A222 66 (0 : Int).toNat = A 66 (0 : Int).toNat from (congrFun (((congrFun eA222 66).trans (uA_ne (by decide))).trans (hF202.2 66 rfl)) _)) (m0 := A 72 ((2 * 0) : Int).toNat) (e_m0 := show A222 72 ((2 * 0) : Int).toNat = A 72 ((2 * 0) : Int).toNat from (congrFun (((congrFun eA222 72).trans (uA_ne (by decide))).trans (hF202.2 72 rfl)) _)) (m1 := A 72 (((2 * 0) + 1) : Int).toNat) (e_m1 := show A222 72 (((2 * 0) + 1) : Int).toNat = A 72 (((2 * 0) + 1) : Int).toNat from (congrFun (((congrFun eA222 72).trans (uA_ne (by decide))).trans (hF202.2 72 rfl)) _))  (h_p := ⟨(by decide), (by decide)⟩)  (p_0 := by omega) (p_1 := by omega) (p_2 := by omega) (p_3 := by omega) (p_4 := by omega) (p_5 := by omega) (p_6 := by omega)) (fun o V_q hq => ?_)
                  obtain ⟨G237, A238, rfl, rfl, hW239, hF240, p241, -⟩ := hq
                  have hF243 := Fr_tr hF227 hF240 (Fr_sub (by decide)) (Fr_sub (by decide))
                  refine .inl ⟨rfl, ?_⟩
                  refine jx_ld (pc_q := 171) (l_q := L230) (st_q := [.ref 66]) rfl (jl_aloadn gL230_0) ?_
                  refine jr_get (pc_q := 174) (i := 110) (v := .int (i32 ((im + 1)))) rfl rfl (by decide) (rFv_eq (by decide) (show G237 110 = (im + 1) from (hF240.1 110 rfl))) rfl ?_
                  refine jx_rt (v := some (.int (i32 ((im + 1))))) rfl rfl rfl rfl rfl rfl ?_
                  exact ⟨_, _, _, (im + 1), it, rfl, rfl, hW239, hF243, by omega, (hF240.1 110 rfl), ((hF240.1 111 rfl).trans ((hF202.1 111 rfl).trans (e_it))), by omega, by omega, by omega, (fun _ => in_0 hgz eA222 p241), trivial⟩
                · have _q := h232
                  exact absurd h232 (by omega)
              · have _q := h231
                exact absurd h231 (by omega)
            · have _q := h229
              refine jx_ld (pc_q := 74) (l_q := [(0, .ref 66), (1, .int (i32 (v)))]) (st_q := [.ref 66]) rfl (jl_aloadn rfl) ?_
              refine jx_ar (pc_q := 75) (st_q := [.int (i32 (0)), .ref 66]) rfl rfl rfl rfl ?_
              refine jx_ar (pc_q := 77) (st_q := [.int (i32 (13)), .int (i32 (0)), .ref 66]) rfl rfl rfl rfl ?_
              refine jx_vr (pc_q := 80) (as := [.int (i32 (0)), .int (i32 (13))]) (st := []) rfl rfl rfl rfl ⟨rfl, rfl, Nat.le_of_ble_eq_true rfl⟩ rfl rfl (c_load (dd := d) (hd := by omega) (hW := hW226) (p := 0) (a := 13)   (h_p := ⟨(by decide), (by decide)⟩) (h_a := ⟨(by decide), (by decide)⟩)  (p_0 := by omega) (p_1 := by omega)) (fun o V_q hq => ?_)
              obtain ⟨r244, rfl, rfl, b245, p246, -⟩ := hq
              refine .inr ⟨_, rfl, ?_⟩
              refine jx_go (tg := 84) rfl rfl ?_
              refine jx_ld (pc_q := 85) (l_q := jSto1 [(0, .ref 66), (1, .int (i32 (v)))] 2 (.int (i32 (r244)))) (st_q := []) rfl rfl ?_
              obtain ⟨L248, eL248⟩ : ∃ q, q = jSto1 [(0, .ref 66), (1, .int (i32 (v)))] 2 (.int (i32 (r244))) := ⟨_, rfl⟩
              rw [← eL248]
              have gL248_0 : jGet L248 0 = some (.ref 66) := eL248 ▸ jg_ne (by decide) (rfl : jGet [(0, .ref 66), (1, .int (i32 (v)))] 0 = some (.ref 66)) rfl
              have gL248_1 : jGet L248 1 = some (.int (i32 (v))) := eL248 ▸ jg_ne (by decide) (rfl : jGet [(0, .ref 66), (1, .int (i32 (v)))] 1 = some (.int (i32 (v)))) rfl
              have gL248_2 : jGet L248 2 = some (.int (i32 (r244))) := eL248 ▸ jg_eq
              refine jx_ld (pc_q := 86) (l_q := L248) (st_q := [.int (i32 (r244))]) rfl (jl_iloadn gL248_2) ?_
              refine jx_ar (pc_q := 87) (st_q := [.int (i32 (-1)), .int (i32 (r244))]) rfl rfl rfl rfl ?_
              refine jx_icmp_eq (pc_q := 90) (tg := 112) rfl rfl rfl (Int.le_trans (by decide : (-2147483648 : Int) ≤ -2147483648) b245.1) (Int.le_trans b245.2 (by decide : (2147483647 : Int) ≤ 2147483647)) (by decide) (by decide) (fun h249 => ?_) (fun h249 => ?_)
              · have _q := h249
                refine jx_ld (pc_q := 113) (l_q := L248) (st_q := [.int (i32 (r244))]) rfl (jl_iloadn gL248_2) ?_
                refine jx_ar (pc_q := 114) (st_q := [.int (i32 (-1)), .int (i32 (r244))]) rfl rfl rfl rfl ?_
                refine jx_icmp_eq (pc_q := 117) (tg := 165) rfl rfl rfl (Int.le_trans (by decide : (-2147483648 : Int) ≤ -2147483648) b245.1) (Int.le_trans b245.2 (by decide : (2147483647 : Int) ≤ 2147483647)) (by decide) (by decide) (fun h250 => ?_) (fun h250 => ?_)
                · have _q := h250
                  have hk251 : A222 64 (0 : Int).toNat = A 64 (0 : Int).toNat := (congrFun (((congrFun eA222 64).trans (uA_ne (by decide))).trans (hF202.2 64 rfl)) _)
                  refine jx_ld (pc_q := 166) (l_q := L248) (st_q := [.ref 66]) rfl (jl_aloadn gL248_0) ?_
                  refine jx_ar (pc_q := 167) (st_q := [.int (i32 (0)), .ref 66]) rfl rfl rfl rfl ?_
                  have b252 : (-2147483648 : Int) ≤ A 66 (0 : Int).toNat ∧ A 66 (0 : Int).toNat ≤ 2147483647 := hW.2 66 _
                  have b253 : (-2147483648 : Int) ≤ A 72 ((2 * 0) : Int).toNat ∧ A 72 ((2 * 0) : Int).toNat ≤ 2147483647 := hW.2 72 _
                  have b254 : (-2147483648 : Int) ≤ A 72 (((2 * 0) + 1) : Int).toNat ∧ A 72 (((2 * 0) + 1) : Int).toNat ≤ 2147483647 := hW.2 72 _
                  refine jx_vr (pc_q := 170) (as := [.int (i32 (0))]) (st := []) rfl rfl rfl rfl ⟨rfl, rfl, Nat.le_of_ble_eq_true rfl⟩ rfl rfl (c_yield0 (dd := d) (hd := by omega) (hW := hW226) (p := 0) (rn0 := A 66 (0 : Int).toNat) (e_rn0 := show A222 66 (0 : Int).toNat = A 66 (0 : Int).toNat from (congrFun (((congrFun eA222 66).trans (uA_ne (by decide))).trans (hF202.2 66 rfl)) _)) (m0 := A 72 ((2 * 0) : Int).toNat) (e_m0 := show A222 72 ((2 * 0) : Int).toNat = A 72 ((2 * 0) : Int).toNat from (congrFun (((congrFun eA222 72).trans (uA_ne (by decide))).trans (hF202.2 72 rfl)) _)) (m1 := A 72 (((2 * 0) + 1) : Int).toNat) (e_m1 := show A222 72 (((2 * 0) + 1) : Int).toNat = A 72 (((2 * 0) + 1) : Int).toNat from (congrFun (((congrFun eA222 72).trans (uA_ne (by decide))).trans (hF202.2 72 rfl)) _))  (h_p := ⟨(by decide), (by decide)⟩)  (p_0 := by omega) (p_1 := by omega) (p_2 := by omega) (p_3 := by omega) (p_4 := by omega) (p_5 := by omega) (p_6 := by omega)) (fun o V_q hq => ?_)
                  obtain ⟨G255, A256, rfl, rfl, hW257, hF258, p259, -⟩ := hq
                  have hF261 := Fr_tr hF227 hF258 (Fr_sub (by decide)) (Fr_sub (by decide))
                  refine .inl ⟨rfl, ?_⟩
                  refine jx_ld (pc_q := 171) (l_q := L248) (st_q := [.ref 66]) rfl (jl_aloadn gL248_0) ?_
                  refine jr_get (pc_q := 174) (i := 110) (v := .int (i32 ((im + 1)))) rfl rfl (by decide) (rFv_eq (by decide) (show G255 110 = (im + 1) from (hF258.1 110 rfl))) rfl ?_
                  refine jx_rt (v := some (.int (i32 ((im + 1))))) rfl rfl rfl rfl rfl rfl ?_
                  exact ⟨_, _, _, (im + 1), it, rfl, rfl, hW257, hF261, by omega, (hF258.1 110 rfl), ((hF258.1 111 rfl).trans ((hF202.1 111 rfl).trans (e_it))), by omega, by omega, by omega, (fun _ => in_0 hgz eA222 p259), trivial⟩
                · have _q := h250
                  refine jx_ld (pc_q := 118) (l_q := L248) (st_q := [.ref 66]) rfl (jl_aloadn gL248_0) ?_
                  refine jx_ar (pc_q := 119) (st_q := [.int (i32 (0)), .ref 66]) rfl rfl rfl rfl ?_
                  refine jx_ld (pc_q := 120) (l_q := L248) (st_q := [.ref 66, .int (i32 (0)), .ref 66]) rfl (jl_aloadn gL248_0) ?_
                  refine jx_ar (pc_q := 121) (st_q := [.int (i32 (0)), .ref 66, .int (i32 (0)), .ref 66]) rfl rfl rfl rfl ?_
                  refine jx_ld (pc_q := 122) (l_q := L248) (st_q := [.int (i32 (r244)), .int (i32 (0)), .ref 66, .int (i32 (0)), .ref 66]) rfl (jl_iloadn gL248_2) ?_
                  refine jx_ar (pc_q := 123) (st_q := [.int (i32 (1)), .int (i32 (r244)), .int (i32 (0)), .ref 66, .int (i32 (0)), .ref 66]) rfl rfl rfl rfl ?_
                  refine jx_shr (pc_q := 124) rfl rfl ?_
                  obtain ⟨b262, eb262⟩ : ∃ z, z = (i32 (r244) >>> (i32 (1) &&& 31)).toInt := ⟨_, rfl⟩
                  rw [← eb262]
                  have rb262 : (-2147483648 : Int) ≤ b262 ∧ b262 ≤ 2147483647 := eb262 ▸ i32_rg _
                  have hb262 := (show b262 = (i32 r244 >>> (i32 1 &&& 31)).toInt from eb262).trans (shr_1 (by omega) (by omega))
                  refine jx_ar (pc_q := 125) (st_q := [.int (i32 (2)), .int (i32 (b262)), .int (i32 (0)), .ref 66, .int (i32 (0)), .ref 66]) rfl rfl rfl rfl ?_
                  refine jx_sub (pc_q := 126) rfl rfl ?_
                  refine jx_vr (pc_q := 129) (as := [.int (i32 (0)), .int (i32 ((b262 - 2)))]) (st := [.int (i32 (0)), .ref 66]) rfl rfl rfl rfl ⟨rfl, rfl, Nat.le_of_ble_eq_true rfl⟩ rfl rfl (c_load (dd := d) (hd := by omega) (hW := hW226) (p := 0) (a := (b262 - 2))   (h_p := ⟨(by decide), (by decide)⟩) (h_a := ⟨(by omega), (by omega)⟩)  (p_0 := by omega) (p_1 := by omega)) (fun o V_q hq => ?_)
                  obtain ⟨r263, rfl, rfl, b264, p265, -⟩ := hq
                  refine .inr ⟨_, rfl, ?_⟩
                  refine jx_ld (pc_q := 130) (l_q := L248) (st_q := [.ref 66, .int (i32 (r263)), .int (i32 (0)), .ref 66]) rfl (jl_aloadn gL248_0) ?_
                  refine jr_get (pc_q := 133) (i := 109) (v := .ref 145) rfl rfl (by decide) rfl rfl ?_
                  refine jx_ld (pc_q := 134) (l_q := L248) (st_q := [.ref 66, .ref 145, .int (i32 (r263)), .int (i32 (0)), .ref 66]) rfl (jl_aloadn gL248_0) ?_
                  refine jr_get (pc_q := 137) (i := 111) (v := .int (i32 (it))) rfl rfl (by decide) (rFv_eq (by decide) (show (uG G197 110 ((im + 1))) 111 = it from ((hF202.1 111 rfl).trans (e_it)))) rfl ?_
                  have b267 : (-2147483648 : Int) ≤ A222 78 (it).toNat ∧ A222 78 (it).toNat ≤ 2147483647 := hW223.2 78 _
                  refine jr_ldv (pc_q := 138) (i := 78) (m := 200) (z := it) (y := A222 78 (it).toNat) rfl (by decide) rfl (by decide) (by omega) (by omega) rfl (show A222 78 (it).toNat = A222 78 (it).toNat from rfl) ?_
                  refine jx_vr (pc_q := 141) (as := [.int (i32 (0)), .int (i32 (r263)), .int (i32 (A222 78 (it).toNat))]) (st := []) rfl rfl rfl rfl ⟨rfl, rfl, Nat.le_of_ble_eq_true rfl⟩ rfl rfl (c_store (dd := d) (hd := by omega) (hW := hW226) (p := 0) (a := r263) (v := A222 78 (it).toNat)   (h_p := ⟨(by decide), (by decide)⟩) (h_a := ⟨(Int.le_trans (by decide : (-2147483648 : Int) ≤ -2147483648) b264.1), (Int.le_trans b264.2 (by decide : (2147483647 : Int) ≤ 2147483647))⟩) (h_v := ⟨(Int.le_trans (by decide : (-2147483648 : Int) ≤ -2147483648) b267.1), (Int.le_trans b267.2 (by decide : (2147483647 : Int) ≤ 2147483647))⟩)  (p_0 := by omega) (p_1 := by omega)) (fun o V_q hq => ?_)
                  obtain ⟨G268, A269, rfl, rfl, hW270, hF271, p272, -⟩ := hq
                  have hF274 := Fr_tr hF227 hF271 (Fr_sub (by decide)) (Fr_sub (by decide))
                  refine .inl ⟨rfl, ?_⟩
                  refine jx_ld (pc_q := 142) (l_q := L248) (st_q := [.ref 66]) rfl (jl_aloadn gL248_0) ?_
                  refine jx_ar (pc_q := 143) (st_q := [.ref 66, .ref 66]) rfl rfl rfl rfl ?_
                  refine jr_get (pc_q := 146) (i := 111) (v := .int (i32 (it))) rfl rfl (by decide) (rFv_eq (by decide) (show G268 111 = it from ((hF271.1 111 rfl).trans ((hF202.1 111 rfl).trans (e_it))))) rfl ?_
                  refine jx_ar (pc_q := 147) (st_q := [.int (i32 (1)), .int (i32 (it)), .ref 66]) rfl rfl rfl rfl ?_
                  refine jx_add (pc_q := 148) rfl rfl ?_
                  refine jr_put (pc_q := 151) (i := 111) (z := (it + 1)) rfl rfl (by decide) rfl rfl rfl rfl rfl rfl ?_
                  have hW275 : Wk (uG G268 111 ((it + 1))) A269 := Wk_g hW270 (show (-2147483648 : Int) ≤ (it + 1) by omega) (show (it + 1) ≤ (2147483647 : Int) by omega)
                  have hF276 := Fr_g (z := (it + 1)) (i := 111) hF274 (by decide)
                  refine jx_ld (pc_q := 152) (l_q := L248) (st_q := [.ref 66]) rfl (jl_aloadn gL248_0) ?_
                  refine jx_ar (pc_q := 153) (st_q := [.int (i32 (0)), .ref 66]) rfl rfl rfl rfl ?_
                  refine jx_ar (pc_q := 155) (st_q := [.int (i32 (13)), .int (i32 (0)), .ref 66]) rfl rfl rfl rfl ?_
                  refine jx_ar (pc_q := 156) (st_q := [.int (i32 (-1)), .int (i32 (13)), .int (i32 (0)), .ref 66]) rfl rfl rfl rfl ?_
                  refine jx_vr (pc_q := 159) (as := [.int (i32 (0)), .int (i32 (13)), .int (i32 (-1))]) (st := []) rfl rfl rfl rfl ⟨rfl, rfl, Nat.le_of_ble_eq_true rfl⟩ rfl rfl (c_store (dd := d) (hd := by omega) (hW := hW275) (p := 0) (a := 13) (v := -1)   (h_p := ⟨(by decide), (by decide)⟩) (h_a := ⟨(by decide), (by decide)⟩) (h_v := ⟨(by decide), (by decide)⟩)  (p_0 := by omega) (p_1 := by omega)) (fun o V_q hq => ?_)
                  obtain ⟨G277, A278, rfl, rfl, hW279, hF280, p281, -⟩ := hq
                  have hF283 := Fr_tr hF276 hF280 (Fr_sub (by decide)) (Fr_sub (by decide))
                  refine .inl ⟨rfl, ?_⟩
                  have hr284 : A278 72 = A 72 := ((hF280.2 72 rfl).trans ((hF271.2 72 rfl).trans (((congrFun eA222 72).trans (uA_ne (by decide))).trans (hF202.2 72 rfl)))); have hr285 : A278 64 = A 64 := ((hF280.2 64 rfl).trans ((hF271.2 64 rfl).trans (((congrFun eA222 64).trans (uA_ne (by decide))).trans (hF202.2 64 rfl)))); have hr286 : A278 66 = A 66 := ((hF280.2 66 rfl).trans ((hF271.2 66 rfl).trans (((congrFun eA222 66).trans (uA_ne (by decide))).trans (hF202.2 66 rfl))))
                  refine jx_ld (pc_q := 160) (l_q := L248) (st_q := [.ref 66]) rfl (jl_aloadn gL248_0) ?_
                  refine jx_ar (pc_q := 161) (st_q := [.int (i32 (0)), .ref 66]) rfl rfl rfl rfl ?_
                  refine jx_ld (pc_q := 162) (l_q := L248) (st_q := [.int (i32 (r244)), .int (i32 (0)), .ref 66]) rfl (jl_iloadn gL248_2) ?_
                  have b287 : (-2147483648 : Int) ≤ A 72 ((2 * 0) : Int).toNat ∧ A 72 ((2 * 0) : Int).toNat ≤ 2147483647 := hW.2 72 _
                  have b288 : (-2147483648 : Int) ≤ A 72 (((2 * 0) + 1) : Int).toNat ∧ A 72 (((2 * 0) + 1) : Int).toNat ≤ 2147483647 := hW.2 72 _
                  refine jx_vr (pc_q := 165) (as := [.int (i32 (0)), .int (i32 (r244))]) (st := []) rfl rfl rfl rfl ⟨rfl, rfl, Nat.le_of_ble_eq_true rfl⟩ rfl rfl (c_makeReady (dd := d) (hd := by omega) (hW := hW279) (p := 0) (d2 := r244) (m0 := A 72 ((2 * 0) : Int).toNat) (e_m0 := show A278 72 ((2 * 0) : Int).toNat = A 72 ((2 * 0) : Int).toNat from (congrFun ((hF280.2 72 rfl).trans ((hF271.2 72 rfl).trans (((congrFun eA222 72).trans (uA_ne (by decide))).trans (hF202.2 72 rfl)))) _)) (m1 := A 72 (((2 * 0) + 1) : Int).toNat) (e_m1 := show A278 72 (((2 * 0) + 1) : Int).toNat = A 72 (((2 * 0) + 1) : Int).toNat from (congrFun ((hF280.2 72 rfl).trans ((hF271.2 72 rfl).trans (((congrFun eA222 72).trans (uA_ne (by decide))).trans (hF202.2 72 rfl)))) _))  (h_p := ⟨(by decide), (by decide)⟩) (h_d2 := ⟨(Int.le_trans (by decide : (-2147483648 : Int) ≤ -2147483648) b245.1), (Int.le_trans b245.2 (by decide : (2147483647 : Int) ≤ 2147483647))⟩)  (p_0 := by omega) (p_1 := by omega) (p_2 := by omega) (p_3 := by omega) (p_4 := by omega) (p_5 := by omega)) (fun o V_q hq => ?_)
                  obtain ⟨G289, A290, rfl, rfl, hW291, hF292, p293, -⟩ := hq
                  have hF295 := Fr_tr hF283 hF292 (Fr_sub (by decide)) (Fr_sub (by decide))
                  refine .inl ⟨rfl, ?_⟩
                  have hg5 := mk_g p293 hr284 hr285 hr286 (by omega) hcm0
                  refine jx_ld (pc_q := 166) (l_q := L248) (st_q := [.ref 66]) rfl (jl_aloadn gL248_0) ?_
                  refine jx_ar (pc_q := 167) (st_q := [.int (i32 (0)), .ref 66]) rfl rfl rfl rfl ?_
                  have b296 : (-2147483648 : Int) ≤ A290 66 (0 : Int).toNat ∧ A290 66 (0 : Int).toNat ≤ 2147483647 := hW291.2 66 _
                  have b297 : (-2147483648 : Int) ≤ A290 72 ((2 * 0) : Int).toNat ∧ A290 72 ((2 * 0) : Int).toNat ≤ 2147483647 := hW291.2 72 _
                  have b298 : (-2147483648 : Int) ≤ A290 72 (((2 * 0) + 1) : Int).toNat ∧ A290 72 (((2 * 0) + 1) : Int).toNat ≤ 2147483647 := hW291.2 72 _
                  refine jx_vr (pc_q := 170) (as := [.int (i32 (0))]) (st := []) rfl rfl rfl rfl ⟨rfl, rfl, Nat.le_of_ble_eq_true rfl⟩ rfl rfl (c_yield0 (dd := d) (hd := by omega) (hW := hW291) (p := 0) (rn0 := A290 66 (0 : Int).toNat) (e_rn0 := show A290 66 (0 : Int).toNat = A290 66 (0 : Int).toNat from rfl) (m0 := A290 72 ((2 * 0) : Int).toNat) (e_m0 := show A290 72 ((2 * 0) : Int).toNat = A290 72 ((2 * 0) : Int).toNat from rfl) (m1 := A290 72 (((2 * 0) + 1) : Int).toNat) (e_m1 := show A290 72 (((2 * 0) + 1) : Int).toNat = A290 72 (((2 * 0) + 1) : Int).toNat from rfl)  (h_p := ⟨(by decide), (by decide)⟩)  (p_0 := by omega) (p_1 := by omega) (p_2 := by omega) (p_3 := by omega) (p_4 := by omega) (p_5 := by omega) (p_6 := by omega)) (fun o V_q hq => ?_)
                  obtain ⟨G299, A300, rfl, rfl, hW301, hF302, p303, -⟩ := hq
                  have hF305 := Fr_tr hF295 hF302 (Fr_sub (by decide)) (Fr_sub (by decide))
                  refine .inl ⟨rfl, ?_⟩
                  refine jx_ld (pc_q := 171) (l_q := L248) (st_q := [.ref 66]) rfl (jl_aloadn gL248_0) ?_
                  refine jr_get (pc_q := 174) (i := 110) (v := .int (i32 ((im + 1)))) rfl rfl (by decide) (rFv_eq (by decide) (show G299 110 = (im + 1) from ((hF302.1 110 rfl).trans ((hF292.1 110 rfl).trans ((hF280.1 110 rfl).trans (hF271.1 110 rfl)))))) rfl ?_
                  refine jx_rt (v := some (.int (i32 ((im + 1))))) rfl rfl rfl rfl rfl rfl ?_
                  exact ⟨_, _, _, (im + 1), (it + 1), rfl, rfl, hW301, hF305, by omega, ((hF302.1 110 rfl).trans ((hF292.1 110 rfl).trans ((hF280.1 110 rfl).trans (hF271.1 110 rfl)))), ((hF302.1 111 rfl).trans ((hF292.1 111 rfl).trans (hF280.1 111 rfl))), by omega, by omega, by omega, (by exfalso; omega), trivial⟩
              · have _q := h249
                refine jx_ld (pc_q := 91) (l_q := L248) (st_q := [.ref 66]) rfl (jl_aloadn gL248_0) ?_
                refine jx_ar (pc_q := 92) (st_q := [.int (i32 (0)), .ref 66]) rfl rfl rfl rfl ?_
                refine jx_ld (pc_q := 93) (l_q := L248) (st_q := [.int (i32 (r244)), .int (i32 (0)), .ref 66]) rfl (jl_iloadn gL248_2) ?_
                refine jx_ar (pc_q := 94) (st_q := [.int (i32 (1)), .int (i32 (r244)), .int (i32 (0)), .ref 66]) rfl rfl rfl rfl ?_
                refine jx_shr (pc_q := 95) rfl rfl ?_
                obtain ⟨b306, eb306⟩ : ∃ z, z = (i32 (r244) >>> (i32 (1) &&& 31)).toInt := ⟨_, rfl⟩
                rw [← eb306]
                have rb306 : (-2147483648 : Int) ≤ b306 ∧ b306 ≤ 2147483647 := eb306 ▸ i32_rg _
                have hb306 := (show b306 = (i32 r244 >>> (i32 1 &&& 31)).toInt from eb306).trans (shr_1 (by omega) (by omega))
                refine jx_ar (pc_q := 96) (st_q := [.int (i32 (3)), .int (i32 (b306)), .int (i32 (0)), .ref 66]) rfl rfl rfl rfl ?_
                refine jx_sub (pc_q := 97) rfl rfl ?_
                refine jx_vr (pc_q := 100) (as := [.int (i32 (0)), .int (i32 ((b306 - 3)))]) (st := []) rfl rfl rfl rfl ⟨rfl, rfl, Nat.le_of_ble_eq_true rfl⟩ rfl rfl (c_load (dd := d) (hd := by omega) (hW := hW226) (p := 0) (a := (b306 - 3))   (h_p := ⟨(by decide), (by decide)⟩) (h_a := ⟨(by omega), (by omega)⟩)  (p_0 := by omega) (p_1 := by omega)) (fun o V_q hq => ?_)
                obtain ⟨r307, rfl, rfl, b308, p309, -⟩ := hq
                refine .inr ⟨_, rfl, ?_⟩
                refine jx_if_eq (pc_q := 103) (tg := 112) rfl rfl rfl (Int.le_trans (by decide : (-2147483648 : Int) ≤ -2147483648) b308.1) (Int.le_trans b308.2 (by decide : (2147483647 : Int) ≤ 2147483647)) (fun h311 => ?_) (fun h311 => ?_)
                · have _q := h311
                  refine jx_ld (pc_q := 113) (l_q := L248) (st_q := [.int (i32 (r244))]) rfl (jl_iloadn gL248_2) ?_
                  refine jx_ar (pc_q := 114) (st_q := [.int (i32 (-1)), .int (i32 (r244))]) rfl rfl rfl rfl ?_
                  refine jx_icmp_eq (pc_q := 117) (tg := 165) rfl rfl rfl (Int.le_trans (by decide : (-2147483648 : Int) ≤ -2147483648) b245.1) (Int.le_trans b245.2 (by decide : (2147483647 : Int) ≤ 2147483647)) (by decide) (by decide) (fun h312 => ?_) (fun h312 => ?_)
                  · have _q := h312
                    have hk313 : A222 64 (0 : Int).toNat = A 64 (0 : Int).toNat := (congrFun (((congrFun eA222 64).trans (uA_ne (by decide))).trans (hF202.2 64 rfl)) _)
                    refine jx_ld (pc_q := 166) (l_q := L248) (st_q := [.ref 66]) rfl (jl_aloadn gL248_0) ?_
                    refine jx_ar (pc_q := 167) (st_q := [.int (i32 (0)), .ref 66]) rfl rfl rfl rfl ?_
                    have b314 : (-2147483648 : Int) ≤ A 66 (0 : Int).toNat ∧ A 66 (0 : Int).toNat ≤ 2147483647 := hW.2 66 _
                    have b315 : (-2147483648 : Int) ≤ A 72 ((2 * 0) : Int).toNat ∧ A 72 ((2 * 0) : Int).toNat ≤ 2147483647 := hW.2 72 _
                    have b316 : (-2147483648 : Int) ≤ A 72 (((2 * 0) + 1) : Int).toNat ∧ A 72 (((2 * 0) + 1) : Int).toNat ≤ 2147483647 := hW.2 72 _
                    refine jx_vr (pc_q := 170) (as := [.int (i32 (0))]) (st := []) rfl rfl rfl rfl ⟨rfl, rfl, Nat.le_of_ble_eq_true rfl⟩ rfl rfl (c_yield0 (dd := d) (hd := by omega) (hW := hW226) (p := 0) (rn0 := A 66 (0 : Int).toNat) (e_rn0 := show A222 66 (0 : Int).toNat = A 66 (0 : Int).toNat from (congrFun (((congrFun eA222 66).trans (uA_ne (by decide))).trans (hF202.2 66 rfl)) _)) (m0 := A 72 ((2 * 0) : Int).toNat) (e_m0 := show A222 72 ((2 * 0) : Int).toNat = A 72 ((2 * 0) : Int).toNat from (congrFun (((congrFun eA222 72).trans (uA_ne (by decide))).trans (hF202.2 72 rfl)) _)) (m1 := A 72 (((2 * 0) + 1) : Int).toNat) (e_m1 := show A222 72 (((2 * 0) + 1) : Int).toNat = A 72 (((2 * 0) + 1) : Int).toNat from (congrFun (((congrFun eA222 72).trans (uA_ne (by decide))).trans (hF202.2 72 rfl)) _))  (h_p := ⟨(by decide), (by decide)⟩)  (p_0 := by omega) (p_1 := by omega) (p_2 := by omega) (p_3 := by omega) (p_4 := by omega) (p_5 := by omega) (p_6 := by omega)) (fun o V_q hq => ?_)
                    obtain ⟨G317, A318, rfl, rfl, hW319, hF320, p321, -⟩ := hq
                    have hF323 := Fr_tr hF227 hF320 (Fr_sub (by decide)) (Fr_sub (by decide))
                    refine .inl ⟨rfl, ?_⟩
                    refine jx_ld (pc_q := 171) (l_q := L248) (st_q := [.ref 66]) rfl (jl_aloadn gL248_0) ?_
                    refine jr_get (pc_q := 174) (i := 110) (v := .int (i32 ((im + 1)))) rfl rfl (by decide) (rFv_eq (by decide) (show G317 110 = (im + 1) from (hF320.1 110 rfl))) rfl ?_
                    refine jx_rt (v := some (.int (i32 ((im + 1))))) rfl rfl rfl rfl rfl rfl ?_
                    exact ⟨_, _, _, (im + 1), it, rfl, rfl, hW319, hF323, by omega, (hF320.1 110 rfl), ((hF320.1 111 rfl).trans ((hF202.1 111 rfl).trans (e_it))), by omega, by omega, by omega, (fun _ => in_0 hgz eA222 p321), trivial⟩
                  · have _q := h312
                    refine jx_ld (pc_q := 118) (l_q := L248) (st_q := [.ref 66]) rfl (jl_aloadn gL248_0) ?_
                    refine jx_ar (pc_q := 119) (st_q := [.int (i32 (0)), .ref 66]) rfl rfl rfl rfl ?_
                    refine jx_ld (pc_q := 120) (l_q := L248) (st_q := [.ref 66, .int (i32 (0)), .ref 66]) rfl (jl_aloadn gL248_0) ?_
                    refine jx_ar (pc_q := 121) (st_q := [.int (i32 (0)), .ref 66, .int (i32 (0)), .ref 66]) rfl rfl rfl rfl ?_
                    refine jx_ld (pc_q := 122) (l_q := L248) (st_q := [.int (i32 (r244)), .int (i32 (0)), .ref 66, .int (i32 (0)), .ref 66]) rfl (jl_iloadn gL248_2) ?_
                    refine jx_ar (pc_q := 123) (st_q := [.int (i32 (1)), .int (i32 (r244)), .int (i32 (0)), .ref 66, .int (i32 (0)), .ref 66]) rfl rfl rfl rfl ?_
                    refine jx_shr (pc_q := 124) rfl rfl ?_
                    obtain ⟨b324, eb324⟩ : ∃ z, z = (i32 (r244) >>> (i32 (1) &&& 31)).toInt := ⟨_, rfl⟩
                    rw [← eb324]
                    have rb324 : (-2147483648 : Int) ≤ b324 ∧ b324 ≤ 2147483647 := eb324 ▸ i32_rg _
                    have hb324 := (show b324 = (i32 r244 >>> (i32 1 &&& 31)).toInt from eb324).trans (shr_1 (by omega) (by omega))
                    refine jx_ar (pc_q := 125) (st_q := [.int (i32 (2)), .int (i32 (b324)), .int (i32 (0)), .ref 66, .int (i32 (0)), .ref 66]) rfl rfl rfl rfl ?_
                    refine jx_sub (pc_q := 126) rfl rfl ?_
                    refine jx_vr (pc_q := 129) (as := [.int (i32 (0)), .int (i32 ((b324 - 2)))]) (st := [.int (i32 (0)), .ref 66]) rfl rfl rfl rfl ⟨rfl, rfl, Nat.le_of_ble_eq_true rfl⟩ rfl rfl (c_load (dd := d) (hd := by omega) (hW := hW226) (p := 0) (a := (b324 - 2))   (h_p := ⟨(by decide), (by decide)⟩) (h_a := ⟨(by omega), (by omega)⟩)  (p_0 := by omega) (p_1 := by omega)) (fun o V_q hq => ?_)
                    obtain ⟨r325, rfl, rfl, b326, p327, -⟩ := hq
                    refine .inr ⟨_, rfl, ?_⟩
                    refine jx_ld (pc_q := 130) (l_q := L248) (st_q := [.ref 66, .int (i32 (r325)), .int (i32 (0)), .ref 66]) rfl (jl_aloadn gL248_0) ?_
                    refine jr_get (pc_q := 133) (i := 109) (v := .ref 145) rfl rfl (by decide) rfl rfl ?_
                    refine jx_ld (pc_q := 134) (l_q := L248) (st_q := [.ref 66, .ref 145, .int (i32 (r325)), .int (i32 (0)), .ref 66]) rfl (jl_aloadn gL248_0) ?_
                    refine jr_get (pc_q := 137) (i := 111) (v := .int (i32 (it))) rfl rfl (by decide) (rFv_eq (by decide) (show (uG G197 110 ((im + 1))) 111 = it from ((hF202.1 111 rfl).trans (e_it)))) rfl ?_
                    have b329 : (-2147483648 : Int) ≤ A222 78 (it).toNat ∧ A222 78 (it).toNat ≤ 2147483647 := hW223.2 78 _
                    refine jr_ldv (pc_q := 138) (i := 78) (m := 200) (z := it) (y := A222 78 (it).toNat) rfl (by decide) rfl (by decide) (by omega) (by omega) rfl (show A222 78 (it).toNat = A222 78 (it).toNat from rfl) ?_
                    refine jx_vr (pc_q := 141) (as := [.int (i32 (0)), .int (i32 (r325)), .int (i32 (A222 78 (it).toNat))]) (st := []) rfl rfl rfl rfl ⟨rfl, rfl, Nat.le_of_ble_eq_true rfl⟩ rfl rfl (c_store (dd := d) (hd := by omega) (hW := hW226) (p := 0) (a := r325) (v := A222 78 (it).toNat)   (h_p := ⟨(by decide), (by decide)⟩) (h_a := ⟨(Int.le_trans (by decide : (-2147483648 : Int) ≤ -2147483648) b326.1), (Int.le_trans b326.2 (by decide : (2147483647 : Int) ≤ 2147483647))⟩) (h_v := ⟨(Int.le_trans (by decide : (-2147483648 : Int) ≤ -2147483648) b329.1), (Int.le_trans b329.2 (by decide : (2147483647 : Int) ≤ 2147483647))⟩)  (p_0 := by omega) (p_1 := by omega)) (fun o V_q hq => ?_)
                    obtain ⟨G330, A331, rfl, rfl, hW332, hF333, p334, -⟩ := hq
                    have hF336 := Fr_tr hF227 hF333 (Fr_sub (by decide)) (Fr_sub (by decide))
                    refine .inl ⟨rfl, ?_⟩
                    refine jx_ld (pc_q := 142) (l_q := L248) (st_q := [.ref 66]) rfl (jl_aloadn gL248_0) ?_
                    refine jx_ar (pc_q := 143) (st_q := [.ref 66, .ref 66]) rfl rfl rfl rfl ?_
                    refine jr_get (pc_q := 146) (i := 111) (v := .int (i32 (it))) rfl rfl (by decide) (rFv_eq (by decide) (show G330 111 = it from ((hF333.1 111 rfl).trans ((hF202.1 111 rfl).trans (e_it))))) rfl ?_
                    refine jx_ar (pc_q := 147) (st_q := [.int (i32 (1)), .int (i32 (it)), .ref 66]) rfl rfl rfl rfl ?_
                    refine jx_add (pc_q := 148) rfl rfl ?_
                    refine jr_put (pc_q := 151) (i := 111) (z := (it + 1)) rfl rfl (by decide) rfl rfl rfl rfl rfl rfl ?_
                    have hW337 : Wk (uG G330 111 ((it + 1))) A331 := Wk_g hW332 (show (-2147483648 : Int) ≤ (it + 1) by omega) (show (it + 1) ≤ (2147483647 : Int) by omega)
                    have hF338 := Fr_g (z := (it + 1)) (i := 111) hF336 (by decide)
                    refine jx_ld (pc_q := 152) (l_q := L248) (st_q := [.ref 66]) rfl (jl_aloadn gL248_0) ?_
                    refine jx_ar (pc_q := 153) (st_q := [.int (i32 (0)), .ref 66]) rfl rfl rfl rfl ?_
                    refine jx_ar (pc_q := 155) (st_q := [.int (i32 (13)), .int (i32 (0)), .ref 66]) rfl rfl rfl rfl ?_
                    refine jx_ar (pc_q := 156) (st_q := [.int (i32 (-1)), .int (i32 (13)), .int (i32 (0)), .ref 66]) rfl rfl rfl rfl ?_
                    refine jx_vr (pc_q := 159) (as := [.int (i32 (0)), .int (i32 (13)), .int (i32 (-1))]) (st := []) rfl rfl rfl rfl ⟨rfl, rfl, Nat.le_of_ble_eq_true rfl⟩ rfl rfl (c_store (dd := d) (hd := by omega) (hW := hW337) (p := 0) (a := 13) (v := -1)   (h_p := ⟨(by decide), (by decide)⟩) (h_a := ⟨(by decide), (by decide)⟩) (h_v := ⟨(by decide), (by decide)⟩)  (p_0 := by omega) (p_1 := by omega)) (fun o V_q hq => ?_)
                    obtain ⟨G339, A340, rfl, rfl, hW341, hF342, p343, -⟩ := hq
                    have hF345 := Fr_tr hF338 hF342 (Fr_sub (by decide)) (Fr_sub (by decide))
                    refine .inl ⟨rfl, ?_⟩
                    have hr346 : A340 72 = A 72 := ((hF342.2 72 rfl).trans ((hF333.2 72 rfl).trans (((congrFun eA222 72).trans (uA_ne (by decide))).trans (hF202.2 72 rfl)))); have hr347 : A340 64 = A 64 := ((hF342.2 64 rfl).trans ((hF333.2 64 rfl).trans (((congrFun eA222 64).trans (uA_ne (by decide))).trans (hF202.2 64 rfl)))); have hr348 : A340 66 = A 66 := ((hF342.2 66 rfl).trans ((hF333.2 66 rfl).trans (((congrFun eA222 66).trans (uA_ne (by decide))).trans (hF202.2 66 rfl))))
                    refine jx_ld (pc_q := 160) (l_q := L248) (st_q := [.ref 66]) rfl (jl_aloadn gL248_0) ?_
                    refine jx_ar (pc_q := 161) (st_q := [.int (i32 (0)), .ref 66]) rfl rfl rfl rfl ?_
                    refine jx_ld (pc_q := 162) (l_q := L248) (st_q := [.int (i32 (r244)), .int (i32 (0)), .ref 66]) rfl (jl_iloadn gL248_2) ?_
                    have b349 : (-2147483648 : Int) ≤ A 72 ((2 * 0) : Int).toNat ∧ A 72 ((2 * 0) : Int).toNat ≤ 2147483647 := hW.2 72 _
                    have b350 : (-2147483648 : Int) ≤ A 72 (((2 * 0) + 1) : Int).toNat ∧ A 72 (((2 * 0) + 1) : Int).toNat ≤ 2147483647 := hW.2 72 _
                    refine jx_vr (pc_q := 165) (as := [.int (i32 (0)), .int (i32 (r244))]) (st := []) rfl rfl rfl rfl ⟨rfl, rfl, Nat.le_of_ble_eq_true rfl⟩ rfl rfl (c_makeReady (dd := d) (hd := by omega) (hW := hW341) (p := 0) (d2 := r244) (m0 := A 72 ((2 * 0) : Int).toNat) (e_m0 := show A340 72 ((2 * 0) : Int).toNat = A 72 ((2 * 0) : Int).toNat from (congrFun ((hF342.2 72 rfl).trans ((hF333.2 72 rfl).trans (((congrFun eA222 72).trans (uA_ne (by decide))).trans (hF202.2 72 rfl)))) _)) (m1 := A 72 (((2 * 0) + 1) : Int).toNat) (e_m1 := show A340 72 (((2 * 0) + 1) : Int).toNat = A 72 (((2 * 0) + 1) : Int).toNat from (congrFun ((hF342.2 72 rfl).trans ((hF333.2 72 rfl).trans (((congrFun eA222 72).trans (uA_ne (by decide))).trans (hF202.2 72 rfl)))) _))  (h_p := ⟨(by decide), (by decide)⟩) (h_d2 := ⟨(Int.le_trans (by decide : (-2147483648 : Int) ≤ -2147483648) b245.1), (Int.le_trans b245.2 (by decide : (2147483647 : Int) ≤ 2147483647))⟩)  (p_0 := by omega) (p_1 := by omega) (p_2 := by omega) (p_3 := by omega) (p_4 := by omega) (p_5 := by omega)) (fun o V_q hq => ?_)
                    obtain ⟨G351, A352, rfl, rfl, hW353, hF354, p355, -⟩ := hq
                    have hF357 := Fr_tr hF345 hF354 (Fr_sub (by decide)) (Fr_sub (by decide))
                    refine .inl ⟨rfl, ?_⟩
                    have hg5 := mk_g p355 hr346 hr347 hr348 (by omega) hcm0
                    refine jx_ld (pc_q := 166) (l_q := L248) (st_q := [.ref 66]) rfl (jl_aloadn gL248_0) ?_
                    refine jx_ar (pc_q := 167) (st_q := [.int (i32 (0)), .ref 66]) rfl rfl rfl rfl ?_
                    have b358 : (-2147483648 : Int) ≤ A352 66 (0 : Int).toNat ∧ A352 66 (0 : Int).toNat ≤ 2147483647 := hW353.2 66 _
                    have b359 : (-2147483648 : Int) ≤ A352 72 ((2 * 0) : Int).toNat ∧ A352 72 ((2 * 0) : Int).toNat ≤ 2147483647 := hW353.2 72 _
                    have b360 : (-2147483648 : Int) ≤ A352 72 (((2 * 0) + 1) : Int).toNat ∧ A352 72 (((2 * 0) + 1) : Int).toNat ≤ 2147483647 := hW353.2 72 _
                    refine jx_vr (pc_q := 170) (as := [.int (i32 (0))]) (st := []) rfl rfl rfl rfl ⟨rfl, rfl, Nat.le_of_ble_eq_true rfl⟩ rfl rfl (c_yield0 (dd := d) (hd := by omega) (hW := hW353) (p := 0) (rn0 := A352 66 (0 : Int).toNat) (e_rn0 := show A352 66 (0 : Int).toNat = A352 66 (0 : Int).toNat from rfl) (m0 := A352 72 ((2 * 0) : Int).toNat) (e_m0 := show A352 72 ((2 * 0) : Int).toNat = A352 72 ((2 * 0) : Int).toNat from rfl) (m1 := A352 72 (((2 * 0) + 1) : Int).toNat) (e_m1 := show A352 72 (((2 * 0) + 1) : Int).toNat = A352 72 (((2 * 0) + 1) : Int).toNat from rfl)  (h_p := ⟨(by decide), (by decide)⟩)  (p_0 := by omega) (p_1 := by omega) (p_2 := by omega) (p_3 := by omega) (p_4 := by omega) (p_5 := by omega) (p_6 := by omega)) (fun o V_q hq => ?_)
                    obtain ⟨G361, A362, rfl, rfl, hW363, hF364, p365, -⟩ := hq
                    have hF367 := Fr_tr hF357 hF364 (Fr_sub (by decide)) (Fr_sub (by decide))
                    refine .inl ⟨rfl, ?_⟩
                    refine jx_ld (pc_q := 171) (l_q := L248) (st_q := [.ref 66]) rfl (jl_aloadn gL248_0) ?_
                    refine jr_get (pc_q := 174) (i := 110) (v := .int (i32 ((im + 1)))) rfl rfl (by decide) (rFv_eq (by decide) (show G361 110 = (im + 1) from ((hF364.1 110 rfl).trans ((hF354.1 110 rfl).trans ((hF342.1 110 rfl).trans (hF333.1 110 rfl)))))) rfl ?_
                    refine jx_rt (v := some (.int (i32 ((im + 1))))) rfl rfl rfl rfl rfl rfl ?_
                    exact ⟨_, _, _, (im + 1), (it + 1), rfl, rfl, hW363, hF367, by omega, ((hF364.1 110 rfl).trans ((hF354.1 110 rfl).trans ((hF342.1 110 rfl).trans (hF333.1 110 rfl)))), ((hF364.1 111 rfl).trans ((hF354.1 111 rfl).trans (hF342.1 111 rfl))), by omega, by omega, by omega, (fun _ => in_I hgz eA222 p246 (by omega) hb306 p309 (by omega) hb324 p327 p334 p343 p355 p365), trivial⟩
                · have _q := h311
                  have hr368 : A222 72 = A 72 := (((congrFun eA222 72).trans (uA_ne (by decide))).trans (hF202.2 72 rfl)); have hr369 : A222 64 = A 64 := (((congrFun eA222 64).trans (uA_ne (by decide))).trans (hF202.2 64 rfl)); have hr370 : A222 66 = A 66 := (((congrFun eA222 66).trans (uA_ne (by decide))).trans (hF202.2 66 rfl))
                  refine jx_ld (pc_q := 104) (l_q := L248) (st_q := [.ref 66]) rfl (jl_aloadn gL248_0) ?_
                  refine jx_ar (pc_q := 105) (st_q := [.int (i32 (0)), .ref 66]) rfl rfl rfl rfl ?_
                  refine jx_ld (pc_q := 106) (l_q := L248) (st_q := [.int (i32 (r244)), .int (i32 (0)), .ref 66]) rfl (jl_iloadn gL248_2) ?_
                  have b371 : (-2147483648 : Int) ≤ A 72 ((2 * 0) : Int).toNat ∧ A 72 ((2 * 0) : Int).toNat ≤ 2147483647 := hW.2 72 _
                  have b372 : (-2147483648 : Int) ≤ A 72 (((2 * 0) + 1) : Int).toNat ∧ A 72 (((2 * 0) + 1) : Int).toNat ≤ 2147483647 := hW.2 72 _
                  refine jx_vr (pc_q := 109) (as := [.int (i32 (0)), .int (i32 (r244))]) (st := []) rfl rfl rfl rfl ⟨rfl, rfl, Nat.le_of_ble_eq_true rfl⟩ rfl rfl (c_wake (dd := d) (hd := by omega) (hW := hW226) (p := 0) (d2 := r244) (m0 := A 72 ((2 * 0) : Int).toNat) (e_m0 := show A222 72 ((2 * 0) : Int).toNat = A 72 ((2 * 0) : Int).toNat from (congrFun (((congrFun eA222 72).trans (uA_ne (by decide))).trans (hF202.2 72 rfl)) _)) (m1 := A 72 (((2 * 0) + 1) : Int).toNat) (e_m1 := show A222 72 (((2 * 0) + 1) : Int).toNat = A 72 (((2 * 0) + 1) : Int).toNat from (congrFun (((congrFun eA222 72).trans (uA_ne (by decide))).trans (hF202.2 72 rfl)) _))  (h_p := ⟨(by decide), (by decide)⟩) (h_d2 := ⟨(Int.le_trans (by decide : (-2147483648 : Int) ≤ -2147483648) b245.1), (Int.le_trans b245.2 (by decide : (2147483647 : Int) ≤ 2147483647))⟩)  (p_0 := by omega) (p_1 := by omega) (p_2 := by omega) (p_3 := by omega) (p_4 := by omega) (p_5 := by omega)) (fun o V_q hq => ?_)
                  obtain ⟨G373, A374, rfl, rfl, hW375, hF376, p377, -⟩ := hq
                  have hF379 := Fr_tr hF227 hF376 (Fr_sub (by decide)) (Fr_sub (by decide))
                  refine .inl ⟨rfl, ?_⟩
                  refine jx_go (tg := 165) rfl rfl ?_
                  have hg5 := wk_g p377 hr368 hr369 hr370 (by omega) hcm0
                  refine jx_ld (pc_q := 166) (l_q := L248) (st_q := [.ref 66]) rfl (jl_aloadn gL248_0) ?_
                  refine jx_ar (pc_q := 167) (st_q := [.int (i32 (0)), .ref 66]) rfl rfl rfl rfl ?_
                  have b380 : (-2147483648 : Int) ≤ A374 66 (0 : Int).toNat ∧ A374 66 (0 : Int).toNat ≤ 2147483647 := hW375.2 66 _
                  have b381 : (-2147483648 : Int) ≤ A374 72 ((2 * 0) : Int).toNat ∧ A374 72 ((2 * 0) : Int).toNat ≤ 2147483647 := hW375.2 72 _
                  have b382 : (-2147483648 : Int) ≤ A374 72 (((2 * 0) + 1) : Int).toNat ∧ A374 72 (((2 * 0) + 1) : Int).toNat ≤ 2147483647 := hW375.2 72 _
                  refine jx_vr (pc_q := 170) (as := [.int (i32 (0))]) (st := []) rfl rfl rfl rfl ⟨rfl, rfl, Nat.le_of_ble_eq_true rfl⟩ rfl rfl (c_yield0 (dd := d) (hd := by omega) (hW := hW375) (p := 0) (rn0 := A374 66 (0 : Int).toNat) (e_rn0 := show A374 66 (0 : Int).toNat = A374 66 (0 : Int).toNat from rfl) (m0 := A374 72 ((2 * 0) : Int).toNat) (e_m0 := show A374 72 ((2 * 0) : Int).toNat = A374 72 ((2 * 0) : Int).toNat from rfl) (m1 := A374 72 (((2 * 0) + 1) : Int).toNat) (e_m1 := show A374 72 (((2 * 0) + 1) : Int).toNat = A374 72 (((2 * 0) + 1) : Int).toNat from rfl)  (h_p := ⟨(by decide), (by decide)⟩)  (p_0 := by omega) (p_1 := by omega) (p_2 := by omega) (p_3 := by omega) (p_4 := by omega) (p_5 := by omega) (p_6 := by omega)) (fun o V_q hq => ?_)
                  obtain ⟨G383, A384, rfl, rfl, hW385, hF386, p387, -⟩ := hq
                  have hF389 := Fr_tr hF379 hF386 (Fr_sub (by decide)) (Fr_sub (by decide))
                  refine .inl ⟨rfl, ?_⟩
                  refine jx_ld (pc_q := 171) (l_q := L248) (st_q := [.ref 66]) rfl (jl_aloadn gL248_0) ?_
                  refine jr_get (pc_q := 174) (i := 110) (v := .int (i32 ((im + 1)))) rfl rfl (by decide) (rFv_eq (by decide) (show G383 110 = (im + 1) from ((hF386.1 110 rfl).trans (hF376.1 110 rfl)))) rfl ?_
                  refine jx_rt (v := some (.int (i32 ((im + 1))))) rfl rfl rfl rfl rfl rfl ?_
                  exact ⟨_, _, _, (im + 1), it, rfl, rfl, hW385, hF389, by omega, ((hF386.1 110 rfl).trans (hF376.1 110 rfl)), ((hF386.1 111 rfl).trans ((hF376.1 111 rfl).trans ((hF202.1 111 rfl).trans (e_it)))), by omega, by omega, by omega, (fun _ => in_A hgz eA222 p246 (by omega) hb306 p309 (by omega) p377 p387), trivial⟩
          · have _q := h221
            exact absurd h221 (by omega)
      · have _q := h196
        refine jx_ar (pc_q := 31) (st_q := [.int (i32 (1)), .int (i32 (0)), .ref 66]) rfl rfl rfl rfl ?_
        refine jx_go (tg := 35) rfl rfl ?_
        refine jx_ar (pc_q := 36) (st_q := [.int (i32 (0)), .int (i32 (1)), .int (i32 (0)), .ref 66]) rfl rfl rfl rfl ?_
        refine jx_vr (pc_q := 39) (as := [.int (i32 (0)), .int (i32 (1)), .int (i32 (0))]) (st := []) rfl rfl rfl rfl ⟨rfl, rfl, Nat.le_of_ble_eq_true rfl⟩ rfl rfl (c_refuse (dd := d) (hd := by omega) (hW := hW) (a := 0) (b := 1) (c := 0)   (h_a := ⟨(by decide), (by decide)⟩) (h_b := ⟨(by decide), (by decide)⟩) (h_c := ⟨(by decide), (by decide)⟩)  ) (fun o V_q hq => ?_)
        obtain ⟨G390, A391, r392, th2_393, rfl, rfl, hW394, hF395, b396, e397, q398⟩ := hq
        have hF399 := Fr_tr hF0 hF395 (Fr_sub (by decide)) (Fr_sub (by decide))
        have sf400 : (pg) = 1 → GZ (lk) A391 := (show A391 = A from funext (fun k => hF395.2 k rfl)) ▸ p_3
        have bth2_393 : (0 : Int) ≤ th2_393 ∧ th2_393 ≤ 4 := e397 ▸ hW394.1 0
        refine .inr ⟨_, rfl, ?_⟩
        rcases q398 with ⟨rfl, a401, a402⟩ | ⟨rfl, a403, a404, a405⟩ | ⟨rfl, a406, a407, a408, a409⟩ | ⟨rfl, a410, a411, a412, a413⟩
        · have _q : True := trivial
          exfalso
          omega
        · have _q : True := trivial
          refine jx_if_eq (pc_q := 42) (tg := 44) rfl rfl rfl (by decide) (by decide) (fun h414 => ?_) (fun h414 => ?_)
          · have _q := h414
            exact absurd h414 (by omega)
          · have _q := h414
            refine jx_ar (pc_q := 43) (st_q := [.int (i32 (0))]) rfl rfl rfl rfl ?_
            refine jx_rt (v := some (.int (i32 (0)))) rfl rfl rfl rfl rfl rfl ?_
            exact ⟨_, _, _, im, it, rfl, rfl, hW394, hF399, by omega, ((hF395.1 110 rfl).trans (e_im)), ((hF395.1 111 rfl).trans (e_it)), by omega, by omega, by omega, sf400, trivial⟩
        · have _q : True := trivial
          exfalso
          omega
        · have _q : True := trivial
          exfalso
          omega
  · have _q := h1
    refine jx_ar (pc_q := 9) (st_q := [.int (i32 (1)), .ref 66]) rfl rfl rfl rfl ?_
    refine jx_go (tg := 13) rfl rfl ?_
    refine jx_ld (pc_q := 14) (l_q := [(0, .ref 66), (1, .int (i32 (v)))]) (st_q := [.ref 66, .int (i32 (1)), .ref 66]) rfl (jl_aloadn rfl) ?_
    refine jr_get (pc_q := 17) (i := 58) (v := .int (i32 (pg))) rfl rfl (by decide) (rFv_eq (by decide) (show G 58 = pg from (e_pg))) rfl ?_
    refine jx_if_eq (pc_q := 20) (tg := 34) rfl rfl rfl (Int.le_trans (by decide : (-2147483648 : Int) ≤ 0) b_pg.1) (Int.le_trans b_pg.2 (by decide : (1 : Int) ≤ 2147483647)) (fun h415 => ?_) (fun h415 => ?_)
    · have _q := h415
      refine jx_ar (pc_q := 35) (st_q := [.int (i32 (0)), .int (i32 (1)), .ref 66]) rfl rfl rfl rfl ?_
      refine jx_ar (pc_q := 36) (st_q := [.int (i32 (0)), .int (i32 (0)), .int (i32 (1)), .ref 66]) rfl rfl rfl rfl ?_
      refine jx_vr (pc_q := 39) (as := [.int (i32 (1)), .int (i32 (0)), .int (i32 (0))]) (st := []) rfl rfl rfl rfl ⟨rfl, rfl, Nat.le_of_ble_eq_true rfl⟩ rfl rfl (c_refuse (dd := d) (hd := by omega) (hW := hW) (a := 1) (b := 0) (c := 0)   (h_a := ⟨(by decide), (by decide)⟩) (h_b := ⟨(by decide), (by decide)⟩) (h_c := ⟨(by decide), (by decide)⟩)  ) (fun o V_q hq => ?_)
      obtain ⟨G416, A417, r418, th2_419, rfl, rfl, hW420, hF421, b422, e423, q424⟩ := hq
      have hF425 := Fr_tr hF0 hF421 (Fr_sub (by decide)) (Fr_sub (by decide))
      have sf426 : (pg) = 1 → GZ (lk) A417 := (show A417 = A from funext (fun k => hF421.2 k rfl)) ▸ p_3
      have bth2_419 : (0 : Int) ≤ th2_419 ∧ th2_419 ≤ 4 := e423 ▸ hW420.1 0
      refine .inr ⟨_, rfl, ?_⟩
      rcases q424 with ⟨rfl, a427, a428⟩ | ⟨rfl, a429, a430, a431⟩ | ⟨rfl, a432, a433, a434, a435⟩ | ⟨rfl, a436, a437, a438, a439⟩
      · have _q : True := trivial
        refine jx_if_eq (pc_q := 42) (tg := 44) rfl rfl rfl (by decide) (by decide) (fun h440 => ?_) (fun h440 => ?_)
        · have _q := h440
          exact absurd h440 (by omega)
        · have _q := h440
          refine jx_ar (pc_q := 43) (st_q := [.int (i32 (0))]) rfl rfl rfl rfl ?_
          refine jx_rt (v := some (.int (i32 (0)))) rfl rfl rfl rfl rfl rfl ?_
          exact ⟨_, _, _, im, it, rfl, rfl, hW420, hF425, by omega, ((hF421.1 110 rfl).trans (e_im)), ((hF421.1 111 rfl).trans (e_it)), by omega, by omega, by omega, sf426, trivial⟩
      · have _q : True := trivial
        exfalso
        omega
      · have _q : True := trivial
        exfalso
        omega
      · have _q : True := trivial
        exfalso
        omega
    · have _q := h415
      refine jx_ld (pc_q := 21) (l_q := [(0, .ref 66), (1, .int (i32 (v)))]) (st_q := [.ref 66, .int (i32 (1)), .ref 66]) rfl (jl_aloadn rfl) ?_
      refine jr_get (pc_q := 24) (i := 110) (v := .int (i32 (im))) rfl rfl (by decide) (rFv_eq (by decide) (show G 110 = im from (e_im))) rfl ?_
      refine jx_ar (pc_q := 27) (st_q := [.int (i32 (200)), .int (i32 (im)), .int (i32 (1)), .ref 66]) rfl rfl rfl rfl ?_
      refine jx_icmp_ne (pc_q := 30) (tg := 34) rfl rfl rfl (Int.le_trans (by decide : (-2147483648 : Int) ≤ -2147483648) b_im.1) (Int.le_trans b_im.2 (by decide : (2147483647 : Int) ≤ 2147483647)) (by decide) (by decide) (fun h441 => ?_) (fun h441 => ?_)
      · have _q := h441
        refine jx_ar (pc_q := 35) (st_q := [.int (i32 (0)), .int (i32 (1)), .ref 66]) rfl rfl rfl rfl ?_
        refine jx_ar (pc_q := 36) (st_q := [.int (i32 (0)), .int (i32 (0)), .int (i32 (1)), .ref 66]) rfl rfl rfl rfl ?_
        refine jx_vr (pc_q := 39) (as := [.int (i32 (1)), .int (i32 (0)), .int (i32 (0))]) (st := []) rfl rfl rfl rfl ⟨rfl, rfl, Nat.le_of_ble_eq_true rfl⟩ rfl rfl (c_refuse (dd := d) (hd := by omega) (hW := hW) (a := 1) (b := 0) (c := 0)   (h_a := ⟨(by decide), (by decide)⟩) (h_b := ⟨(by decide), (by decide)⟩) (h_c := ⟨(by decide), (by decide)⟩)  ) (fun o V_q hq => ?_)
        obtain ⟨G442, A443, r444, th2_445, rfl, rfl, hW446, hF447, b448, e449, q450⟩ := hq
        have hF451 := Fr_tr hF0 hF447 (Fr_sub (by decide)) (Fr_sub (by decide))
        have sf452 : (pg) = 1 → GZ (lk) A443 := (show A443 = A from funext (fun k => hF447.2 k rfl)) ▸ p_3
        have bth2_445 : (0 : Int) ≤ th2_445 ∧ th2_445 ≤ 4 := e449 ▸ hW446.1 0
        refine .inr ⟨_, rfl, ?_⟩
        rcases q450 with ⟨rfl, a453, a454⟩ | ⟨rfl, a455, a456, a457⟩ | ⟨rfl, a458, a459, a460, a461⟩ | ⟨rfl, a462, a463, a464, a465⟩
        · have _q : True := trivial
          refine jx_if_eq (pc_q := 42) (tg := 44) rfl rfl rfl (by decide) (by decide) (fun h466 => ?_) (fun h466 => ?_)
          · have _q := h466
            exact absurd h466 (by omega)
          · have _q := h466
            refine jx_ar (pc_q := 43) (st_q := [.int (i32 (0))]) rfl rfl rfl rfl ?_
            refine jx_rt (v := some (.int (i32 (0)))) rfl rfl rfl rfl rfl rfl ?_
            exact ⟨_, _, _, im, it, rfl, rfl, hW446, hF451, by omega, ((hF447.1 110 rfl).trans (e_im)), ((hF447.1 111 rfl).trans (e_it)), by omega, by omega, by omega, sf452, trivial⟩
        · have _q : True := trivial
          exfalso
          omega
        · have _q : True := trivial
          exfalso
          omega
        · have _q : True := trivial
          exfalso
          omega
      · have _q := h441
        refine jx_ar (pc_q := 31) (st_q := [.int (i32 (1)), .int (i32 (1)), .ref 66]) rfl rfl rfl rfl ?_
        refine jx_go (tg := 35) rfl rfl ?_
        refine jx_ar (pc_q := 36) (st_q := [.int (i32 (0)), .int (i32 (1)), .int (i32 (1)), .ref 66]) rfl rfl rfl rfl ?_
        refine jx_vr (pc_q := 39) (as := [.int (i32 (1)), .int (i32 (1)), .int (i32 (0))]) (st := []) rfl rfl rfl rfl ⟨rfl, rfl, Nat.le_of_ble_eq_true rfl⟩ rfl rfl (c_refuse (dd := d) (hd := by omega) (hW := hW) (a := 1) (b := 1) (c := 0)   (h_a := ⟨(by decide), (by decide)⟩) (h_b := ⟨(by decide), (by decide)⟩) (h_c := ⟨(by decide), (by decide)⟩)  ) (fun o V_q hq => ?_)
        obtain ⟨G467, A468, r469, th2_470, rfl, rfl, hW471, hF472, b473, e474, q475⟩ := hq
        have hF476 := Fr_tr hF0 hF472 (Fr_sub (by decide)) (Fr_sub (by decide))
        have sf477 : (pg) = 1 → GZ (lk) A468 := (show A468 = A from funext (fun k => hF472.2 k rfl)) ▸ p_3
        have bth2_470 : (0 : Int) ≤ th2_470 ∧ th2_470 ≤ 4 := e474 ▸ hW471.1 0
        refine .inr ⟨_, rfl, ?_⟩
        rcases q475 with ⟨rfl, a478, a479⟩ | ⟨rfl, a480, a481, a482⟩ | ⟨rfl, a483, a484, a485, a486⟩ | ⟨rfl, a487, a488, a489, a490⟩
        · have _q : True := trivial
          refine jx_if_eq (pc_q := 42) (tg := 44) rfl rfl rfl (by decide) (by decide) (fun h491 => ?_) (fun h491 => ?_)
          · have _q := h491
            exact absurd h491 (by omega)
          · have _q := h491
            refine jx_ar (pc_q := 43) (st_q := [.int (i32 (0))]) rfl rfl rfl rfl ?_
            refine jx_rt (v := some (.int (i32 (0)))) rfl rfl rfl rfl rfl rfl ?_
            exact ⟨_, _, _, im, it, rfl, rfl, hW471, hF476, by omega, ((hF472.1 110 rfl).trans (e_im)), ((hF472.1 111 rfl).trans (e_it)), by omega, by omega, by omega, sf477, trivial⟩
        · have _q : True := trivial
          exfalso
          omega
        · have _q : True := trivial
          exfalso
          omega
        · have _q : True := trivial
          exfalso
          omega
