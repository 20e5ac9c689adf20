/-- two places are not one -/
def NMt (T : Nat → Nat → Int) (R : Nat → Int) (x y : Int) : Prop := T 17 x.toNat ≠ T 17 y.toNat ∨ (T 15 x.toNat = 3 ∧ T 15 y.toNat = 3 ∧ iC T (T 18 x.toNat) ∧ iC T (T 18 y.toNat) ∧ cv T R (T 18 x.toNat) ≠ cv T R (T 18 y.toNat))
/-- a channel of the outside or a link, used where it may be -/
def OKc (T : Nat → Nat → Int) (w s u : Int) : Prop := (T 7 s.toNat = 12 → w = 0 ∧ u / 8 % 2 = 0) ∧ (T 7 s.toNat = 13 → w = 0 ∧ u / 4 % 2 = 0) ∧ (T 7 s.toNat = 11 → w ≠ -1 ∧ (u / 4 % 2 = 1 → T 34 (T 12 s.toNat).toNat = w) ∧ (u / 8 % 2 = 1 → T 35 (T 12 s.toNat).toNat = w))
theorem and_4f {a : Int} (h0 : 0 ≤ a) (h1 : a ≤ 15) : (i32 a &&& i32 4).toInt = 4 * (a / 4 % 2) := by
  have q : ∀ x : Fin 16, (i32 (x.val : Int) &&& i32 4).toInt = 4 * ((x.val : Int) / 4 % 2) := by decide
  have := q ⟨a.toNat, by omega⟩
  simp only at this
  rw [show ((a.toNat : Nat) : Int) = a by omega] at this
  exact this
theorem and_8f {a : Int} (h0 : 0 ≤ a) (h1 : a ≤ 15) : (i32 a &&& i32 8).toInt = 8 * (a / 8 % 2) := by
  have q : ∀ x : Fin 16, (i32 (x.val : Int) &&& i32 8).toInt = 8 * ((x.val : Int) / 8 % 2) := by decide
  have := q ⟨a.toNat, by omega⟩
  simp only at this
  rw [show ((a.toNat : Nat) : Int) = a by omega] at this
  exact this

set_option maxRecDepth 20000 in
set_option maxHeartbeats 4000000 in
theorem c_meet {X : jX} {dd : Nat} {T0 : Nat → Nat → Int} {Vs : Nat → Prop} {sb : Int} {c0 c1 : jC} {G : Nat → Int} {A : Nat → Nat → Int} {T : jH} {x y : Int} {lo hi lo2 hi2 : Int} (hd : 4 ≤ dd) (hW : Wk G A) (h_x : (-2147483648 : Int) ≤ x ∧ x ≤ 2147483647) (h_y : (-2147483648 : Int) ≤ y ∧ y ≤ 2147483647) (p_0 : TA T0 A) (p_1 : 0 ≤ lo) (p_2 : hi ≤ 6999) (p_3 : 0 ≤ lo2) (p_4 : hi2 ≤ 6999) (p_5 : sb ≤ 202) (p_6 : pX T0 Vs sb (20) (x) (lo) (hi)) (p_7 : pX T0 Vs sb (20) (y) (lo2) (hi2)) : wk X dd 338 [.ref 66, .int (i32 x), .int (i32 y)] (rV c0 c1 G A T) (fun o V_q => ∃ (r : Int), V_q = rV c0 c1 G A T ∧ o = .inl (some (.int (i32 r))) ∧ ((0 : Int) ≤ r ∧ r ≤ 1) ∧ ((r = 1) ∨ (r = 0 ∧ (NMt T0 (A 13) (x) (y))))) := by
  obtain ⟨d, rfl⟩ : ∃ d, dd = d + 1 := ⟨dd - 1, by omega⟩
  refine wk_of (e := jm338) rfl (Nat.le_of_ble_eq_true rfl) ?_
  show wj X d jm338 (0, [(0, .ref 66), (1, .int (i32 (x))), (2, .int (i32 (y)))], [], rV c0 c1 G A T) _
  have hWT := TA_w hW p_0
  have hx1 := p_6.1; have hx2 := p_6.2.1; have hy1 := p_7.1; have hy2 := p_7.2.1
  refine jx_ld (pc_q := 1) (l_q := [(0, .ref 66), (1, .int (i32 (x))), (2, .int (i32 (y)))]) (st_q := [.ref 66]) rfl (jl_aloadn rfl) ?_
  refine jr_get (pc_q := 4) (i := 34) (v := .ref 84) rfl rfl (by decide) rfl rfl ?_
  refine jx_ld (pc_q := 5) (l_q := [(0, .ref 66), (1, .int (i32 (x))), (2, .int (i32 (y)))]) (st_q := [.int (i32 (x)), .ref 84]) rfl (jl_iloadn rfl) ?_
  have b1 : (-2147483648 : Int) ≤ T0 17 (x).toNat ∧ T0 17 (x).toNat ≤ 2147483647 := hWT.2 17 _
  refine jr_ldv (pc_q := 6) (i := 17) (m := 7000) (z := x) (y := T0 17 (x).toNat) rfl (by decide) rfl (by decide) (by omega) (by omega) rfl (show A 17 (x).toNat = T0 17 (x).toNat from (congrFun (p_0 17 rfl) _)) ?_
  refine jx_ld (pc_q := 7) (l_q := [(0, .ref 66), (1, .int (i32 (x))), (2, .int (i32 (y)))]) (st_q := [.ref 66, .int (i32 (T0 17 (x).toNat))]) rfl (jl_aloadn rfl) ?_
  refine jr_get (pc_q := 10) (i := 34) (v := .ref 84) rfl rfl (by decide) rfl rfl ?_
  refine jx_ld (pc_q := 11) (l_q := [(0, .ref 66), (1, .int (i32 (x))), (2, .int (i32 (y)))]) (st_q := [.int (i32 (y)), .ref 84, .int (i32 (T0 17 (x).toNat))]) rfl (jl_iloadn rfl) ?_
  have b2 : (-2147483648 : Int) ≤ T0 17 (y).toNat ∧ T0 17 (y).toNat ≤ 2147483647 := hWT.2 17 _
  refine jr_ldv (pc_q := 12) (i := 17) (m := 7000) (z := y) (y := T0 17 (y).toNat) rfl (by decide) rfl (by decide) (by omega) (by omega) rfl (show A 17 (y).toNat = T0 17 (y).toNat from (congrFun (p_0 17 rfl) _)) ?_
  refine jx_icmp_eq (pc_q := 15) (tg := 17) rfl rfl rfl (Int.le_trans (by decide : (-2147483648 : Int) ≤ -2147483648) b1.1) (Int.le_trans b1.2 (by decide : (2147483647 : Int) ≤ 2147483647)) (Int.le_trans (by decide : (-2147483648 : Int) ≤ -2147483648) b2.1) (Int.le_trans b2.2 (by decide : (2147483647 : Int) ≤ 2147483647)) (fun h3 => ?_) (fun h3 => ?_)
  · have _q := h3
    refine jx_ld (pc_q := 18) (l_q := [(0, .ref 66), (1, .int (i32 (x))), (2, .int (i32 (y)))]) (st_q := [.ref 66]) rfl (jl_aloadn rfl) ?_
    refine jr_get (pc_q := 21) (i := 32) (v := .ref 82) rfl rfl (by decide) rfl rfl ?_
    refine jx_ld (pc_q := 22) (l_q := [(0, .ref 66), (1, .int (i32 (x))), (2, .int (i32 (y)))]) (st_q := [.int (i32 (x)), .ref 82]) rfl (jl_iloadn rfl) ?_
    have b4 : (0 : Int) ≤ T0 15 (x).toNat ∧ T0 15 (x).toNat ≤ 34 := hWT.2 15 _
    refine jr_ldv (pc_q := 23) (i := 15) (m := 7000) (z := x) (y := T0 15 (x).toNat) rfl (by decide) rfl (by decide) (by omega) (by omega) rfl (show A 15 (x).toNat = T0 15 (x).toNat from (congrFun (p_0 15 rfl) _)) ?_
    refine jx_ar (pc_q := 24) (st_q := [.int (i32 (3)), .int (i32 (T0 15 (x).toNat))]) rfl rfl rfl rfl ?_
    refine jx_icmp_ne (pc_q := 27) (tg := 37) rfl rfl rfl (Int.le_trans (by decide : (-2147483648 : Int) ≤ 0) b4.1) (Int.le_trans b4.2 (by decide : (34 : Int) ≤ 2147483647)) (by decide) (by decide) (fun h5 => ?_) (fun h5 => ?_)
    · have _q := h5
      refine jx_ar (pc_q := 38) (st_q := [.int (i32 (1))]) rfl rfl rfl rfl ?_
      refine jx_rt (v := some (.int (i32 (1)))) rfl rfl rfl rfl rfl (by first | rfl | exact jRet_b (by omega)) ?_
      exact ⟨_, rfl, rfl, by omega, by first | exact Or.inl (by omega) | exact Or.inr ((⟨by omega, (.inl (by omega))⟩))⟩
    · have _q := h5
      refine jx_ld (pc_q := 28) (l_q := [(0, .ref 66), (1, .int (i32 (x))), (2, .int (i32 (y)))]) (st_q := [.ref 66]) rfl (jl_aloadn rfl) ?_
      refine jr_get (pc_q := 31) (i := 32) (v := .ref 82) rfl rfl (by decide) rfl rfl ?_
      refine jx_ld (pc_q := 32) (l_q := [(0, .ref 66), (1, .int (i32 (x))), (2, .int (i32 (y)))]) (st_q := [.int (i32 (y)), .ref 82]) rfl (jl_iloadn rfl) ?_
      have b6 : (0 : Int) ≤ T0 15 (y).toNat ∧ T0 15 (y).toNat ≤ 34 := hWT.2 15 _
      refine jr_ldv (pc_q := 33) (i := 15) (m := 7000) (z := y) (y := T0 15 (y).toNat) rfl (by decide) rfl (by decide) (by omega) (by omega) rfl (show A 15 (y).toNat = T0 15 (y).toNat from (congrFun (p_0 15 rfl) _)) ?_
      refine jx_ar (pc_q := 34) (st_q := [.int (i32 (3)), .int (i32 (T0 15 (y).toNat))]) rfl rfl rfl rfl ?_
      refine jx_icmp_eq (pc_q := 37) (tg := 39) rfl rfl rfl (Int.le_trans (by decide : (-2147483648 : Int) ≤ 0) b6.1) (Int.le_trans b6.2 (by decide : (34 : Int) ≤ 2147483647)) (by decide) (by decide) (fun h7 => ?_) (fun h7 => ?_)
      · have _q := h7
        have hx3 := (pX_i3 p_6 (by omega)).2; have hy3 := (pX_i3 p_7 (by omega)).2
        refine jx_ld (pc_q := 40) (l_q := [(0, .ref 66), (1, .int (i32 (x))), (2, .int (i32 (y)))]) (st_q := [.ref 66]) rfl (jl_aloadn rfl) ?_
        refine jx_ld (pc_q := 41) (l_q := [(0, .ref 66), (1, .int (i32 (x))), (2, .int (i32 (y)))]) (st_q := [.ref 66, .ref 66]) rfl (jl_aloadn rfl) ?_
        refine jr_get (pc_q := 44) (i := 35) (v := .ref 85) rfl rfl (by decide) rfl rfl ?_
        refine jx_ld (pc_q := 45) (l_q := [(0, .ref 66), (1, .int (i32 (x))), (2, .int (i32 (y)))]) (st_q := [.int (i32 (x)), .ref 85, .ref 66]) rfl (jl_iloadn rfl) ?_
        have b8 : (-2147483648 : Int) ≤ T0 18 (x).toNat ∧ T0 18 (x).toNat ≤ 2147483647 := hWT.2 18 _
        refine jr_ldv (pc_q := 46) (i := 18) (m := 7000) (z := x) (y := T0 18 (x).toNat) rfl (by decide) rfl (by decide) (by omega) (by omega) rfl (show A 18 (x).toNat = T0 18 (x).toNat from (congrFun (p_0 18 rfl) _)) ?_
        refine jx_vr (pc_q := 49) (as := [.int (i32 (T0 18 (x).toNat))]) (st := []) rfl rfl rfl rfl ⟨rfl, rfl, Nat.le_of_ble_eq_true rfl⟩ rfl rfl (c_isConstant (dd := d) (hd := by omega) (hW := hW) (e := T0 18 (x).toNat) (k := 20) (lo := lo) (hi := x)  (h_e := ⟨(Int.le_trans (by decide : (-2147483648 : Int) ≤ -2147483648) b8.1), (Int.le_trans b8.2 (by decide : (2147483647 : Int) ≤ 2147483647))⟩)  (p_0 := p_0) (p_1 := by omega) (p_2 := by omega) (p_3 := by omega) (p_4 := by omega) (p_5 := (wE_mono (by omega) (by omega) (by omega) hx3))) (fun o V_q hq => ?_)
        obtain ⟨r9, rfl, rfl, b10, q11⟩ := hq
        refine .inr ⟨_, rfl, ?_⟩
        rcases q11 with ⟨rfl, a12⟩ | ⟨rfl, a13⟩
        · have _q : True := trivial
          refine jx_if_eq (pc_q := 52) (tg := 88) rfl rfl rfl (by decide) (by decide) (fun h14 => ?_) (fun h14 => ?_)
          · have _q := h14
            exact absurd h14 (by omega)
          · have _q := h14
            refine jx_ld (pc_q := 53) (l_q := [(0, .ref 66), (1, .int (i32 (x))), (2, .int (i32 (y)))]) (st_q := [.ref 66]) rfl (jl_aloadn rfl) ?_
            refine jx_ld (pc_q := 54) (l_q := [(0, .ref 66), (1, .int (i32 (x))), (2, .int (i32 (y)))]) (st_q := [.ref 66, .ref 66]) rfl (jl_aloadn rfl) ?_
            refine jr_get (pc_q := 57) (i := 35) (v := .ref 85) rfl rfl (by decide) rfl rfl ?_
            refine jx_ld (pc_q := 58) (l_q := [(0, .ref 66), (1, .int (i32 (x))), (2, .int (i32 (y)))]) (st_q := [.int (i32 (y)), .ref 85, .ref 66]) rfl (jl_iloadn rfl) ?_
            have b15 : (-2147483648 : Int) ≤ T0 18 (y).toNat ∧ T0 18 (y).toNat ≤ 2147483647 := hWT.2 18 _
            refine jr_ldv (pc_q := 59) (i := 18) (m := 7000) (z := y) (y := T0 18 (y).toNat) rfl (by decide) rfl (by decide) (by omega) (by omega) rfl (show A 18 (y).toNat = T0 18 (y).toNat from (congrFun (p_0 18 rfl) _)) ?_
            refine jx_vr (pc_q := 62) (as := [.int (i32 (T0 18 (y).toNat))]) (st := []) rfl rfl rfl rfl ⟨rfl, rfl, Nat.le_of_ble_eq_true rfl⟩ rfl rfl (c_isConstant (dd := d) (hd := by omega) (hW := hW) (e := T0 18 (y).toNat) (k := 20) (lo := lo2) (hi := y)  (h_e := ⟨(Int.le_trans (by decide : (-2147483648 : Int) ≤ -2147483648) b15.1), (Int.le_trans b15.2 (by decide : (2147483647 : Int) ≤ 2147483647))⟩)  (p_0 := p_0) (p_1 := by omega) (p_2 := by omega) (p_3 := by omega) (p_4 := by omega) (p_5 := (wE_mono (by omega) (by omega) (by omega) hy3))) (fun o V_q hq => ?_)
            obtain ⟨r16, rfl, rfl, b17, q18⟩ := hq
            refine .inr ⟨_, rfl, ?_⟩
            rcases q18 with ⟨rfl, a19⟩ | ⟨rfl, a20⟩
            · have _q : True := trivial
              refine jx_if_eq (pc_q := 65) (tg := 88) rfl rfl rfl (by decide) (by decide) (fun h21 => ?_) (fun h21 => ?_)
              · have _q := h21
                exact absurd h21 (by omega)
              · have _q := h21
                refine jx_ld (pc_q := 66) (l_q := [(0, .ref 66), (1, .int (i32 (x))), (2, .int (i32 (y)))]) (st_q := [.ref 66]) rfl (jl_aloadn rfl) ?_
                refine jx_ld (pc_q := 67) (l_q := [(0, .ref 66), (1, .int (i32 (x))), (2, .int (i32 (y)))]) (st_q := [.ref 66, .ref 66]) rfl (jl_aloadn rfl) ?_
                refine jr_get (pc_q := 70) (i := 35) (v := .ref 85) rfl rfl (by decide) rfl rfl ?_
                refine jx_ld (pc_q := 71) (l_q := [(0, .ref 66), (1, .int (i32 (x))), (2, .int (i32 (y)))]) (st_q := [.int (i32 (x)), .ref 85, .ref 66]) rfl (jl_iloadn rfl) ?_
                refine jr_ldv (pc_q := 72) (i := 18) (m := 7000) (z := x) (y := T0 18 (x).toNat) rfl (by decide) rfl (by decide) (by omega) (by omega) rfl (show A 18 (x).toNat = T0 18 (x).toNat from (congrFun (p_0 18 rfl) _)) ?_
                refine jx_vr (pc_q := 75) (as := [.int (i32 (T0 18 (x).toNat))]) (st := []) rfl rfl rfl rfl ⟨rfl, rfl, Nat.le_of_ble_eq_true rfl⟩ rfl rfl (c_constant (dd := d) (hd := by omega) (hW := hW) (e := T0 18 (x).toNat) (k := 20) (lo := lo) (hi := x)  (h_e := ⟨(Int.le_trans (by decide : (-2147483648 : Int) ≤ -2147483648) b8.1), (Int.le_trans b8.2 (by decide : (2147483647 : Int) ≤ 2147483647))⟩)  (p_0 := p_0) (p_1 := by omega) (p_2 := by omega) (p_3 := by omega) (p_4 := by omega) (p_5 := (wE_mono (by omega) (by omega) (by omega) hx3)) (p_6 := a12)) (fun o V_q hq => ?_)
                obtain ⟨r22, rfl, rfl, b23, p24, -⟩ := hq
                refine .inr ⟨_, rfl, ?_⟩
                refine jx_ld (pc_q := 76) (l_q := [(0, .ref 66), (1, .int (i32 (x))), (2, .int (i32 (y)))]) (st_q := [.ref 66, .int (i32 (r22))]) rfl (jl_aloadn rfl) ?_
                refine jx_ld (pc_q := 77) (l_q := [(0, .ref 66), (1, .int (i32 (x))), (2, .int (i32 (y)))]) (st_q := [.ref 66, .ref 66, .int (i32 (r22))]) rfl (jl_aloadn rfl) ?_
                refine jr_get (pc_q := 80) (i := 35) (v := .ref 85) rfl rfl (by decide) rfl rfl ?_
                refine jx_ld (pc_q := 81) (l_q := [(0, .ref 66), (1, .int (i32 (x))), (2, .int (i32 (y)))]) (st_q := [.int (i32 (y)), .ref 85, .ref 66, .int (i32 (r22))]) rfl (jl_iloadn rfl) ?_
                refine jr_ldv (pc_q := 82) (i := 18) (m := 7000) (z := y) (y := T0 18 (y).toNat) rfl (by decide) rfl (by decide) (by omega) (by omega) rfl (show A 18 (y).toNat = T0 18 (y).toNat from (congrFun (p_0 18 rfl) _)) ?_
                refine jx_vr (pc_q := 85) (as := [.int (i32 (T0 18 (y).toNat))]) (st := [.int (i32 (r22))]) rfl rfl rfl rfl ⟨rfl, rfl, Nat.le_of_ble_eq_true rfl⟩ rfl rfl (c_constant (dd := d) (hd := by omega) (hW := hW) (e := T0 18 (y).toNat) (k := 20) (lo := lo2) (hi := y)  (h_e := ⟨(Int.le_trans (by decide : (-2147483648 : Int) ≤ -2147483648) b15.1), (Int.le_trans b15.2 (by decide : (2147483647 : Int) ≤ 2147483647))⟩)  (p_0 := p_0) (p_1 := by omega) (p_2 := by omega) (p_3 := by omega) (p_4 := by omega) (p_5 := (wE_mono (by omega) (by omega) (by omega) hy3)) (p_6 := a19)) (fun o V_q hq => ?_)
                obtain ⟨r26, rfl, rfl, b27, p28, -⟩ := hq
                refine .inr ⟨_, rfl, ?_⟩
                refine jx_icmp_ne (pc_q := 88) (tg := 92) rfl rfl rfl (Int.le_trans (by decide : (-2147483648 : Int) ≤ -2147483648) b23.1) (Int.le_trans b23.2 (by decide : (2147483647 : Int) ≤ 2147483647)) (Int.le_trans (by decide : (-2147483648 : Int) ≤ -2147483648) b27.1) (Int.le_trans b27.2 (by decide : (2147483647 : Int) ≤ 2147483647)) (fun h30 => ?_) (fun h30 => ?_)
                · have _q := h30
                  refine jx_ar (pc_q := 93) (st_q := [.int (i32 (0))]) rfl rfl rfl rfl ?_
                  refine jx_rt (v := some (.int (i32 (0)))) rfl rfl rfl rfl rfl (by first | rfl | exact jRet_b (by omega)) ?_
                  exact ⟨_, rfl, rfl, by omega, by first | exact Or.inl (by omega) | exact Or.inr ((⟨by omega, (.inr ⟨by omega, by omega, a12, a19, by rw [← p24, ← p28]; omega⟩)⟩))⟩
                · have _q := h30
                  refine jx_ar (pc_q := 89) (st_q := [.int (i32 (1))]) rfl rfl rfl rfl ?_
                  refine jx_go (tg := 93) rfl rfl ?_
                  refine jx_rt (v := some (.int (i32 (1)))) rfl rfl rfl rfl rfl (by first | rfl | exact jRet_b (by omega)) ?_
                  exact ⟨_, rfl, rfl, by omega, by first | exact Or.inl (by omega) | exact Or.inr ((⟨by omega, (.inr ⟨by omega, by omega, a12, a19, by rw [← p24, ← p28]; omega⟩)⟩))⟩
            · have _q : True := trivial
              refine jx_if_eq (pc_q := 65) (tg := 88) rfl rfl rfl (by decide) (by decide) (fun h31 => ?_) (fun h31 => ?_)
              · have _q := h31
                refine jx_ar (pc_q := 89) (st_q := [.int (i32 (1))]) rfl rfl rfl rfl ?_
                refine jx_go (tg := 93) rfl rfl ?_
                refine jx_rt (v := some (.int (i32 (1)))) rfl rfl rfl rfl rfl (by first | rfl | exact jRet_b (by omega)) ?_
                exact ⟨_, rfl, rfl, by omega, by first | exact Or.inl (by omega)⟩
              · have _q := h31
                exact absurd h31 (by omega)
        · have _q : True := trivial
          refine jx_if_eq (pc_q := 52) (tg := 88) rfl rfl rfl (by decide) (by decide) (fun h32 => ?_) (fun h32 => ?_)
          · have _q := h32
            refine jx_ar (pc_q := 89) (st_q := [.int (i32 (1))]) rfl rfl rfl rfl ?_
            refine jx_go (tg := 93) rfl rfl ?_
            refine jx_rt (v := some (.int (i32 (1)))) rfl rfl rfl rfl rfl (by first | rfl | exact jRet_b (by omega)) ?_
            exact ⟨_, rfl, rfl, by omega, by first | exact Or.inl (by omega)⟩
          · have _q := h32
            exact absurd h32 (by omega)
      · have _q := h7
        refine jx_ar (pc_q := 38) (st_q := [.int (i32 (1))]) rfl rfl rfl rfl ?_
        refine jx_rt (v := some (.int (i32 (1)))) rfl rfl rfl rfl rfl (by first | rfl | exact jRet_b (by omega)) ?_
        exact ⟨_, rfl, rfl, by omega, by first | exact Or.inl (by omega) | exact Or.inr ((⟨by omega, (.inl (by omega))⟩))⟩
  · have _q := h3
    refine jx_ar (pc_q := 16) (st_q := [.int (i32 (0))]) rfl rfl rfl rfl ?_
    refine jx_rt (v := some (.int (i32 (0)))) rfl rfl rfl rfl rfl (by first | rfl | exact jRet_b (by omega)) ?_
    exact ⟨_, rfl, rfl, by omega, by first | exact Or.inl (by omega) | exact Or.inr ((⟨by omega, (.inl (by omega))⟩))⟩
set_option maxRecDepth 20000 in
set_option maxHeartbeats 4000000 in
theorem c_wrong2 {X : jX} {dd : Nat} {c0 c1 : jC} {G : Nat → Int} {A : Nat → Nat → Int} {T : jH} {n : Int} {wl lnn : Int} (hd : 1 ≤ dd) (hW : Wk G A) (e_wl : G 67 = wl) (e_lnn : A 16 (n).toNat = lnn) (h_n : (-2147483648 : Int) ≤ n ∧ n ≤ 2147483647) (p_0 : 0 ≤ n) (p_1 : n ≤ 6999) (p_2 : -1 ≤ wl ∧ wl ≤ 3000) (p_3 : 0 ≤ lnn) : wk X dd 333 [.ref 66, .int (i32 n)] (rV c0 c1 G A T) (fun o V_q => ∃ (G_q : Nat → Int) (A_q : Nat → Nat → Int) (wl2 : Int), V_q = rV c0 c1 G_q A_q T ∧ o = .inl none ∧ Wk G_q A_q ∧ Fr [67] [] G A G_q A_q ∧ G_q 67 = wl2 ∧ (0 ≤ wl2 ∧ wl2 ≤ 3000) ∧ True) := by
  obtain ⟨d, rfl⟩ : ∃ d, dd = d + 1 := ⟨dd - 1, by omega⟩
  refine wk_of (e := jm333) rfl (Nat.le_of_ble_eq_true rfl) ?_
  show wj X d jm333 (0, [(0, .ref 66), (1, .int (i32 (n)))], [], rV c0 c1 G A T) _
  have hF0 : Fr [67] [] G A G A := Fr_rf
  have b_wl : (-2147483648 : Int) ≤ wl ∧ wl ≤ 2147483647 := e_wl ▸ hW.1 67
  have b_lnn : (-1 : Int) ≤ lnn ∧ lnn ≤ 3000 := e_lnn ▸ hW.2 16 _
  refine jx_ld (pc_q := 1) (l_q := [(0, .ref 66), (1, .int (i32 (n)))]) (st_q := [.ref 66]) rfl (jl_aloadn rfl) ?_
  refine jr_get (pc_q := 4) (i := 33) (v := .ref 83) rfl rfl (by decide) rfl rfl ?_
  refine jx_ld (pc_q := 5) (l_q := [(0, .ref 66), (1, .int (i32 (n)))]) (st_q := [.int (i32 (n)), .ref 83]) rfl (jl_iloadn rfl) ?_
  refine jr_ldv (pc_q := 6) (i := 16) (m := 7000) (z := n) (y := lnn) rfl (by decide) rfl (by decide) (by omega) (by omega) rfl (show A 16 (n).toNat = lnn from (e_lnn)) ?_
  refine jx_ld (pc_q := 7) (l_q := jSto1 [(0, .ref 66), (1, .int (i32 (n)))] 2 (.int (i32 (lnn)))) (st_q := []) rfl rfl ?_
  obtain ⟨L1, eL1⟩ : ∃ q, q = jSto1 [(0, .ref 66), (1, .int (i32 (n)))] 2 (.int (i32 (lnn))) := ⟨_, rfl⟩
  rw [← eL1]
  have gL1_0 : jGet L1 0 = some (.ref 66) := eL1 ▸ jg_ne (by decide) (rfl : jGet [(0, .ref 66), (1, .int (i32 (n)))] 0 = some (.ref 66)) rfl
  have gL1_1 : jGet L1 1 = some (.int (i32 (n))) := eL1 ▸ jg_ne (by decide) (rfl : jGet [(0, .ref 66), (1, .int (i32 (n)))] 1 = some (.int (i32 (n)))) rfl
  have gL1_2 : jGet L1 2 = some (.int (i32 (lnn))) := eL1 ▸ jg_eq
  refine jx_ld (pc_q := 8) (l_q := L1) (st_q := [.ref 66]) rfl (jl_aloadn gL1_0) ?_
  refine jx_ld (pc_q := 9) (l_q := L1) (st_q := [.ref 66, .ref 66]) rfl (jl_aloadn gL1_0) ?_
  refine jr_get (pc_q := 12) (i := 67) (v := .int (i32 (wl))) rfl rfl (by decide) (rFv_eq (by decide) (show G 67 = wl from (e_wl))) rfl ?_
  refine jx_ar (pc_q := 13) (st_q := [.int (i32 (-1)), .int (i32 (wl)), .ref 66]) rfl rfl rfl rfl ?_
  refine jx_icmp_eq (pc_q := 16) (tg := 24) rfl rfl rfl (Int.le_trans (by decide : (-2147483648 : Int) ≤ -2147483648) b_wl.1) (Int.le_trans b_wl.2 (by decide : (2147483647 : Int) ≤ 2147483647)) (by decide) (by decide) (fun h2 => ?_) (fun h2 => ?_)
  · have _q := h2
    refine jx_ld (pc_q := 25) (l_q := L1) (st_q := [.int (i32 (lnn)), .ref 66]) rfl (jl_iloadn gL1_2) ?_
    refine jx_go (tg := 32) rfl rfl ?_
    refine jr_put (pc_q := 35) (i := 67) (z := lnn) rfl rfl (by decide) rfl rfl rfl rfl rfl rfl ?_
    have hW3 : Wk (uG G 67 (lnn)) A := Wk_g hW (show (-2147483648 : Int) ≤ lnn by omega) (show lnn ≤ (2147483647 : Int) by omega)
    have hF4 := Fr_g (z := lnn) (i := 67) hF0 (by decide)
    refine jx_rt (v := none) rfl rfl rfl rfl rfl rfl ?_
    exact ⟨_, _, lnn, rfl, rfl, hW3, hF4, rfl, by omega, trivial⟩
  · have _q := h2
    refine jx_ld (pc_q := 17) (l_q := L1) (st_q := [.int (i32 (lnn)), .ref 66]) rfl (jl_iloadn gL1_2) ?_
    refine jx_ld (pc_q := 18) (l_q := L1) (st_q := [.ref 66, .int (i32 (lnn)), .ref 66]) rfl (jl_aloadn gL1_0) ?_
    refine jr_get (pc_q := 21) (i := 67) (v := .int (i32 (wl))) rfl rfl (by decide) (rFv_eq (by decide) (show G 67 = wl from (e_wl))) rfl ?_
    refine jx_icmp_ge (pc_q := 24) (tg := 28) rfl rfl rfl (Int.le_trans (by decide : (-2147483648 : Int) ≤ -1) b_lnn.1) (Int.le_trans b_lnn.2 (by decide : (3000 : Int) ≤ 2147483647)) (Int.le_trans (by decide : (-2147483648 : Int) ≤ -2147483648) b_wl.1) (Int.le_trans b_wl.2 (by decide : (2147483647 : Int) ≤ 2147483647)) (fun h5 => ?_) (fun h5 => ?_)
    · have _q := h5
      refine jx_ld (pc_q := 29) (l_q := L1) (st_q := [.ref 66, .ref 66]) rfl (jl_aloadn gL1_0) ?_
      refine jr_get (pc_q := 32) (i := 67) (v := .int (i32 (wl))) rfl rfl (by decide) (rFv_eq (by decide) (show G 67 = wl from (e_wl))) rfl ?_
      refine jr_put (pc_q := 35) (i := 67) (z := wl) rfl rfl (by decide) rfl rfl rfl rfl rfl rfl ?_
      have hW6 : Wk (uG G 67 (wl)) A := Wk_g hW (show (-2147483648 : Int) ≤ wl by omega) (show wl ≤ (2147483647 : Int) by omega)
      have hF7 := Fr_g (z := wl) (i := 67) hF0 (by decide)
      refine jx_rt (v := none) rfl rfl rfl rfl rfl rfl ?_
      exact ⟨_, _, wl, rfl, rfl, hW6, hF7, rfl, by omega, trivial⟩
    · have _q := h5
      refine jx_ld (pc_q := 25) (l_q := L1) (st_q := [.int (i32 (lnn)), .ref 66]) rfl (jl_iloadn gL1_2) ?_
      refine jx_go (tg := 32) rfl rfl ?_
      refine jr_put (pc_q := 35) (i := 67) (z := lnn) rfl rfl (by decide) rfl rfl rfl rfl rfl rfl ?_
      have hW8 : Wk (uG G 67 (lnn)) A := Wk_g hW (show (-2147483648 : Int) ≤ lnn by omega) (show lnn ≤ (2147483647 : Int) by omega)
      have hF9 := Fr_g (z := lnn) (i := 67) hF0 (by decide)
      refine jx_rt (v := none) rfl rfl rfl rfl rfl rfl ?_
      exact ⟨_, _, lnn, rfl, rfl, hW8, hF9, rfl, by omega, trivial⟩
set_option maxRecDepth 20000 in
set_option maxHeartbeats 4000000 in
theorem c_checkChannel {X : jX} {dd : Nat} {T0 : Nat → Nat → Int} {c0 c1 : jC} {G : Nat → Int} {A : Nat → Nat → Int} {T : jH} {n s u : Int} {wl w lnn : Int} (hd : 2 ≤ dd) (hW : Wk G A) (e_wl : G 67 = wl) (e_w : G 68 = w) (e_lnn : A 16 (n).toNat = lnn) (h_n : (-2147483648 : Int) ≤ n ∧ n ≤ 2147483647) (h_s : (-2147483648 : Int) ≤ s ∧ s ≤ 2147483647) (h_u : (-2147483648 : Int) ≤ u ∧ u ≤ 2147483647) (p_0 : TA T0 A) (p_1 : 0 ≤ n) (p_2 : n ≤ 6999) (p_3 : -1 ≤ wl ∧ wl ≤ 3000) (p_4 : 0 ≤ lnn) (p_5 : 0 ≤ s) (p_6 : s ≤ 201) (p_7 : 0 ≤ u) (p_8 : u ≤ 15) (p_9 : (T0 7 (s).toNat = 11 → T0 12 (s).toNat < 13)) : wk X dd 336 [.ref 66, .int (i32 n), .int (i32 s), .int (i32 u)] (rV c0 c1 G A T) (fun o V_q => ∃ (G_q : Nat → Int) (A_q : Nat → Nat → Int) (wl2 : Int), V_q = rV c0 c1 G_q A_q T ∧ o = .inl none ∧ Wk G_q A_q ∧ Fr [67] [] G A G_q A_q ∧ G_q 67 = wl2 ∧ (((wl2 = wl) ∧ (OKc T0 (w) (s) (u))) ∨ ((0 ≤ wl2 ∧ wl2 ≤ 3000)))) := by
  obtain ⟨d, rfl⟩ : ∃ d, dd = d + 1 := ⟨dd - 1, by omega⟩
  refine wk_of (e := jm336) rfl (Nat.le_of_ble_eq_true rfl) ?_
  show wj X d jm336 (0, [(0, .ref 66), (1, .int (i32 (n))), (2, .int (i32 (s))), (3, .int (i32 (u)))], [], rV c0 c1 G A T) _
  have hF0 : Fr [67] [] G A G A := Fr_rf
  have b_wl : (-2147483648 : Int) ≤ wl ∧ wl ≤ 2147483647 := e_wl ▸ hW.1 67
  have b_w : (-2147483648 : Int) ≤ w ∧ w ≤ 2147483647 := e_w ▸ hW.1 68
  have b_lnn : (-1 : Int) ≤ lnn ∧ lnn ≤ 3000 := e_lnn ▸ hW.2 16 _
  have hWT := TA_w hW p_0
  refine jx_ld (pc_q := 1) (l_q := [(0, .ref 66), (1, .int (i32 (n))), (2, .int (i32 (s))), (3, .int (i32 (u)))]) (st_q := [.ref 66]) rfl (jl_aloadn rfl) ?_
  refine jr_get (pc_q := 4) (i := 21) (v := .ref 74) rfl rfl (by decide) rfl rfl ?_
  refine jx_ld (pc_q := 5) (l_q := [(0, .ref 66), (1, .int (i32 (n))), (2, .int (i32 (s))), (3, .int (i32 (u)))]) (st_q := [.int (i32 (s)), .ref 74]) rfl (jl_iloadn rfl) ?_
  have b1 : (0 : Int) ≤ T0 7 (s).toNat ∧ T0 7 (s).toNat ≤ 14 := hWT.2 7 _
  refine jr_ldv (pc_q := 6) (i := 7) (m := 260) (z := s) (y := T0 7 (s).toNat) rfl (by decide) rfl (by decide) (by omega) (by omega) rfl (show A 7 (s).toNat = T0 7 (s).toNat from (congrFun (p_0 7 rfl) _)) ?_
  refine jx_ld (pc_q := 8) (l_q := jSto1 [(0, .ref 66), (1, .int (i32 (n))), (2, .int (i32 (s))), (3, .int (i32 (u)))] 4 (.int (i32 (T0 7 (s).toNat)))) (st_q := []) rfl rfl ?_
  obtain ⟨L2, eL2⟩ : ∃ q, q = jSto1 [(0, .ref 66), (1, .int (i32 (n))), (2, .int (i32 (s))), (3, .int (i32 (u)))] 4 (.int (i32 (T0 7 (s).toNat))) := ⟨_, rfl⟩
  rw [← eL2]
  have gL2_0 : jGet L2 0 = some (.ref 66) := eL2 ▸ jg_ne (by decide) (rfl : jGet [(0, .ref 66), (1, .int (i32 (n))), (2, .int (i32 (s))), (3, .int (i32 (u)))] 0 = some (.ref 66)) rfl
  have gL2_1 : jGet L2 1 = some (.int (i32 (n))) := eL2 ▸ jg_ne (by decide) (rfl : jGet [(0, .ref 66), (1, .int (i32 (n))), (2, .int (i32 (s))), (3, .int (i32 (u)))] 1 = some (.int (i32 (n)))) rfl
  have gL2_2 : jGet L2 2 = some (.int (i32 (s))) := eL2 ▸ jg_ne (by decide) (rfl : jGet [(0, .ref 66), (1, .int (i32 (n))), (2, .int (i32 (s))), (3, .int (i32 (u)))] 2 = some (.int (i32 (s)))) rfl
  have gL2_3 : jGet L2 3 = some (.int (i32 (u))) := eL2 ▸ jg_ne (by decide) (rfl : jGet [(0, .ref 66), (1, .int (i32 (n))), (2, .int (i32 (s))), (3, .int (i32 (u)))] 3 = some (.int (i32 (u)))) rfl
  have gL2_4 : jGet L2 4 = some (.int (i32 (T0 7 (s).toNat))) := eL2 ▸ jg_eq
  refine jx_ar (pc_q := 9) (st_q := [.int (i32 (1))]) rfl rfl rfl rfl ?_
  refine jx_ld (pc_q := 11) (l_q := jSto1 L2 5 (.int (i32 (1)))) (st_q := []) rfl rfl ?_
  obtain ⟨L3, eL3⟩ : ∃ q, q = jSto1 L2 5 (.int (i32 (1))) := ⟨_, rfl⟩
  rw [← eL3]
  have gL3_0 : jGet L3 0 = some (.ref 66) := eL3 ▸ jg_ne (by decide) gL2_0 rfl
  have gL3_1 : jGet L3 1 = some (.int (i32 (n))) := eL3 ▸ jg_ne (by decide) gL2_1 rfl
  have gL3_2 : jGet L3 2 = some (.int (i32 (s))) := eL3 ▸ jg_ne (by decide) gL2_2 rfl
  have gL3_3 : jGet L3 3 = some (.int (i32 (u))) := eL3 ▸ jg_ne (by decide) gL2_3 rfl
  have gL3_4 : jGet L3 4 = some (.int (i32 (T0 7 (s).toNat))) := eL3 ▸ jg_ne (by decide) gL2_4 rfl
  have gL3_5 : jGet L3 5 = some (.int (i32 (1))) := eL3 ▸ jg_eq
  refine jx_ld (pc_q := 13) (l_q := L3) (st_q := [.int (i32 (T0 7 (s).toNat))]) rfl (jl_iload gL3_4) ?_
  refine jx_ar (pc_q := 15) (st_q := [.int (i32 (12)), .int (i32 (T0 7 (s).toNat))]) rfl rfl rfl rfl ?_
  refine jx_icmp_ne (pc_q := 18) (tg := 42) rfl rfl rfl (Int.le_trans (by decide : (-2147483648 : Int) ≤ 0) b1.1) (Int.le_trans b1.2 (by decide : (14 : Int) ≤ 2147483647)) (by decide) (by decide) (fun h4 => ?_) (fun h4 => ?_)
  · have _q := h4
    refine jx_ld (pc_q := 44) (l_q := L3) (st_q := [.int (i32 (T0 7 (s).toNat))]) rfl (jl_iload gL3_4) ?_
    refine jx_ar (pc_q := 46) (st_q := [.int (i32 (13)), .int (i32 (T0 7 (s).toNat))]) rfl rfl rfl rfl ?_
    refine jx_icmp_ne (pc_q := 49) (tg := 72) rfl rfl rfl (Int.le_trans (by decide : (-2147483648 : Int) ≤ 0) b1.1) (Int.le_trans b1.2 (by decide : (14 : Int) ≤ 2147483647)) (by decide) (by decide) (fun h5 => ?_) (fun h5 => ?_)
    · have _q := h5
      refine jx_ld (pc_q := 74) (l_q := L3) (st_q := [.int (i32 (T0 7 (s).toNat))]) rfl (jl_iload gL3_4) ?_
      refine jx_ar (pc_q := 76) (st_q := [.int (i32 (11)), .int (i32 (T0 7 (s).toNat))]) rfl rfl rfl rfl ?_
      refine jx_icmp_ne (pc_q := 79) (tg := 143) rfl rfl rfl (Int.le_trans (by decide : (-2147483648 : Int) ≤ 0) b1.1) (Int.le_trans b1.2 (by decide : (14 : Int) ≤ 2147483647)) (by decide) (by decide) (fun h6 => ?_) (fun h6 => ?_)
      · have _q := h6
        refine jx_ld (pc_q := 145) (l_q := L3) (st_q := [.int (i32 (1))]) rfl (jl_iload gL3_5) ?_
        refine jx_if_ne (pc_q := 148) (tg := 153) rfl rfl rfl (by decide) (by decide) (fun h7 => ?_) (fun h7 => ?_)
        · have _q := h7
          refine jx_rt (v := none) rfl rfl rfl rfl rfl rfl ?_
          exact ⟨_, _, wl, rfl, rfl, hW, hF0, (e_wl), by first | exact Or.inl (⟨by omega, (by unfold OKc; omega)⟩) | exact Or.inr ((by omega))⟩
        · have _q := h7
          exact absurd h7 (by omega)
      · have _q := h6
        have hlk := p_9 (by omega)
        refine jx_ld (pc_q := 80) (l_q := L3) (st_q := [.ref 66]) rfl (jl_aloadn gL3_0) ?_
        refine jr_get (pc_q := 83) (i := 26) (v := .ref 79) rfl rfl (by decide) rfl rfl ?_
        refine jx_ld (pc_q := 84) (l_q := L3) (st_q := [.int (i32 (s)), .ref 79]) rfl (jl_iloadn gL3_2) ?_
        have b8 : (0 : Int) ≤ T0 12 (s).toNat ∧ T0 12 (s).toNat ≤ 24 := hWT.2 12 _
        refine jr_ldv (pc_q := 85) (i := 12) (m := 260) (z := s) (y := T0 12 (s).toNat) rfl (by decide) rfl (by decide) (by omega) (by omega) rfl (show A 12 (s).toNat = T0 12 (s).toNat from (congrFun (p_0 12 rfl) _)) ?_
        refine jx_ld (pc_q := 87) (l_q := jSto1 L3 6 (.int (i32 (T0 12 (s).toNat)))) (st_q := []) rfl rfl ?_
        obtain ⟨L9, eL9⟩ : ∃ q, q = jSto1 L3 6 (.int (i32 (T0 12 (s).toNat))) := ⟨_, rfl⟩
        rw [← eL9]
        have gL9_0 : jGet L9 0 = some (.ref 66) := eL9 ▸ jg_ne (by decide) gL3_0 rfl
        have gL9_1 : jGet L9 1 = some (.int (i32 (n))) := eL9 ▸ jg_ne (by decide) gL3_1 rfl
        have gL9_2 : jGet L9 2 = some (.int (i32 (s))) := eL9 ▸ jg_ne (by decide) gL3_2 rfl
        have gL9_3 : jGet L9 3 = some (.int (i32 (u))) := eL9 ▸ jg_ne (by decide) gL3_3 rfl
        have gL9_4 : jGet L9 4 = some (.int (i32 (T0 7 (s).toNat))) := eL9 ▸ jg_ne (by decide) gL3_4 rfl
        have gL9_5 : jGet L9 5 = some (.int (i32 (1))) := eL9 ▸ jg_ne (by decide) gL3_5 rfl
        have gL9_6 : jGet L9 6 = some (.int (i32 (T0 12 (s).toNat))) := eL9 ▸ jg_eq
        refine jx_ld (pc_q := 88) (l_q := L9) (st_q := [.ref 66]) rfl (jl_aloadn gL9_0) ?_
        refine jr_get (pc_q := 91) (i := 68) (v := .int (i32 (w))) rfl rfl (by decide) (rFv_eq (by decide) (show G 68 = w from (e_w))) rfl ?_
        refine jx_ar (pc_q := 92) (st_q := [.int (i32 (-1)), .int (i32 (w))]) rfl rfl rfl rfl ?_
        refine jx_icmp_eq (pc_q := 95) (tg := 140) rfl rfl rfl (Int.le_trans (by decide : (-2147483648 : Int) ≤ -2147483648) b_w.1) (Int.le_trans b_w.2 (by decide : (2147483647 : Int) ≤ 2147483647)) (by decide) (by decide) (fun h10 => ?_) (fun h10 => ?_)
        · have _q := h10
          refine jx_ar (pc_q := 141) (st_q := [.int (i32 (0))]) rfl rfl rfl rfl ?_
          refine jx_ld (pc_q := 143) (l_q := jSto1 L9 5 (.int (i32 (0)))) (st_q := []) rfl rfl ?_
          obtain ⟨L11, eL11⟩ : ∃ q, q = jSto1 L9 5 (.int (i32 (0))) := ⟨_, rfl⟩
          rw [← eL11]
          have gL11_0 : jGet L11 0 = some (.ref 66) := eL11 ▸ jg_ne (by decide) gL9_0 rfl
          have gL11_1 : jGet L11 1 = some (.int (i32 (n))) := eL11 ▸ jg_ne (by decide) gL9_1 rfl
          have gL11_2 : jGet L11 2 = some (.int (i32 (s))) := eL11 ▸ jg_ne (by decide) gL9_2 rfl
          have gL11_3 : jGet L11 3 = some (.int (i32 (u))) := eL11 ▸ jg_ne (by decide) gL9_3 rfl
          have gL11_4 : jGet L11 4 = some (.int (i32 (T0 7 (s).toNat))) := eL11 ▸ jg_ne (by decide) gL9_4 rfl
          have gL11_6 : jGet L11 6 = some (.int (i32 (T0 12 (s).toNat))) := eL11 ▸ jg_ne (by decide) gL9_6 rfl
          have gL11_5 : jGet L11 5 = some (.int (i32 (0))) := eL11 ▸ jg_eq
          refine jx_ld (pc_q := 145) (l_q := L11) (st_q := [.int (i32 (0))]) rfl (jl_iload gL11_5) ?_
          refine jx_if_ne (pc_q := 148) (tg := 153) rfl rfl rfl (by decide) (by decide) (fun h12 => ?_) (fun h12 => ?_)
          · have _q := h12
            exact absurd h12 (by omega)
          · have _q := h12
            refine jx_ld (pc_q := 149) (l_q := L11) (st_q := [.ref 66]) rfl (jl_aloadn gL11_0) ?_
            refine jx_ld (pc_q := 150) (l_q := L11) (st_q := [.int (i32 (n)), .ref 66]) rfl (jl_iloadn gL11_1) ?_
            refine jx_vr (pc_q := 153) (as := [.int (i32 (n))]) (st := []) rfl rfl rfl rfl ⟨rfl, rfl, Nat.le_of_ble_eq_true rfl⟩ rfl rfl (c_wrong2 (dd := d) (hd := by omega) (hW := hW) (n := n) (wl := wl) (e_wl := show G 67 = wl from (e_wl)) (lnn := lnn) (e_lnn := show A 16 (n).toNat = lnn from (e_lnn))  (h_n := ⟨(Int.le_trans (by decide : (-2147483648 : Int) ≤ -2147483648) h_n.1), (Int.le_trans h_n.2 (by decide : (2147483647 : Int) ≤ 2147483647))⟩)  (p_0 := by omega) (p_1 := by omega) (p_2 := by omega) (p_3 := by omega)) (fun o V_q hq => ?_)
            obtain ⟨G13, A14, wl2_15, rfl, rfl, hW16, hF17, e18, p19, -⟩ := hq
            have hF21 := Fr_tr hF0 hF17 (Fr_sub (by decide)) (Fr_sub (by decide))
            have bwl2_15 : (-2147483648 : Int) ≤ wl2_15 ∧ wl2_15 ≤ 2147483647 := e18 ▸ hW16.1 67
            refine .inl ⟨rfl, ?_⟩
            refine jx_rt (v := none) rfl rfl rfl rfl rfl rfl ?_
            exact ⟨_, _, wl2_15, rfl, rfl, hW16, hF21, (e18), by first | exact Or.inl (⟨by omega, (by unfold OKc; omega)⟩) | exact Or.inr ((by omega))⟩
        · have _q := h10
          refine jx_ld (pc_q := 96) (l_q := L9) (st_q := [.int (i32 (u))]) rfl (jl_iloadn gL9_3) ?_
          refine jx_ar (pc_q := 97) (st_q := [.int (i32 (4)), .int (i32 (u))]) rfl rfl rfl rfl ?_
          refine jx_and (pc_q := 98) rfl rfl ?_
          obtain ⟨b22, eb22⟩ : ∃ z, z = (i32 (u) &&& i32 (4)).toInt := ⟨_, rfl⟩
          rw [← eb22]
          have rb22 : (-2147483648 : Int) ≤ b22 ∧ b22 ≤ 2147483647 := eb22 ▸ i32_rg _
          have hb22 := (show b22 = (i32 u &&& i32 4).toInt from eb22).trans (and_4f (by omega) (by omega))
          refine jx_if_eq (pc_q := 101) (tg := 115) rfl rfl rfl (Int.le_trans (by decide : (-2147483648 : Int) ≤ -2147483648) rb22.1) (Int.le_trans rb22.2 (by decide : (2147483647 : Int) ≤ 2147483647)) (fun h23 => ?_) (fun h23 => ?_)
          · have _q := h23
            refine jx_ld (pc_q := 116) (l_q := L9) (st_q := [.int (i32 (u))]) rfl (jl_iloadn gL9_3) ?_
            refine jx_ar (pc_q := 118) (st_q := [.int (i32 (8)), .int (i32 (u))]) rfl rfl rfl rfl ?_
            refine jx_and (pc_q := 119) rfl rfl ?_
            obtain ⟨b24, eb24⟩ : ∃ z, z = (i32 (u) &&& i32 (8)).toInt := ⟨_, rfl⟩
            rw [← eb24]
            have rb24 : (-2147483648 : Int) ≤ b24 ∧ b24 ≤ 2147483647 := eb24 ▸ i32_rg _
            have hb24 := (show b24 = (i32 u &&& i32 8).toInt from eb24).trans (and_8f (by omega) (by omega))
            refine jx_if_eq (pc_q := 122) (tg := 136) rfl rfl rfl (Int.le_trans (by decide : (-2147483648 : Int) ≤ -2147483648) rb24.1) (Int.le_trans rb24.2 (by decide : (2147483647 : Int) ≤ 2147483647)) (fun h25 => ?_) (fun h25 => ?_)
            · have _q := h25
              refine jx_ar (pc_q := 137) (st_q := [.int (i32 (1))]) rfl rfl rfl rfl ?_
              refine jx_go (tg := 141) rfl rfl ?_
              refine jx_ld (pc_q := 143) (l_q := jSto1 L9 5 (.int (i32 (1)))) (st_q := []) rfl rfl ?_
              obtain ⟨L26, eL26⟩ : ∃ q, q = jSto1 L9 5 (.int (i32 (1))) := ⟨_, rfl⟩
              rw [← eL26]
              have gL26_0 : jGet L26 0 = some (.ref 66) := eL26 ▸ jg_ne (by decide) gL9_0 rfl
              have gL26_1 : jGet L26 1 = some (.int (i32 (n))) := eL26 ▸ jg_ne (by decide) gL9_1 rfl
              have gL26_2 : jGet L26 2 = some (.int (i32 (s))) := eL26 ▸ jg_ne (by decide) gL9_2 rfl
              have gL26_3 : jGet L26 3 = some (.int (i32 (u))) := eL26 ▸ jg_ne (by decide) gL9_3 rfl
              have gL26_4 : jGet L26 4 = some (.int (i32 (T0 7 (s).toNat))) := eL26 ▸ jg_ne (by decide) gL9_4 rfl
              have gL26_6 : jGet L26 6 = some (.int (i32 (T0 12 (s).toNat))) := eL26 ▸ jg_ne (by decide) gL9_6 rfl
              have gL26_5 : jGet L26 5 = some (.int (i32 (1))) := eL26 ▸ jg_eq
              refine jx_ld (pc_q := 145) (l_q := L26) (st_q := [.int (i32 (1))]) rfl (jl_iload gL26_5) ?_
              refine jx_if_ne (pc_q := 148) (tg := 153) rfl rfl rfl (by decide) (by decide) (fun h27 => ?_) (fun h27 => ?_)
              · have _q := h27
                refine jx_rt (v := none) rfl rfl rfl rfl rfl rfl ?_
                exact ⟨_, _, wl, rfl, rfl, hW, hF0, (e_wl), by first | exact Or.inl (⟨by omega, (by unfold OKc; omega)⟩) | exact Or.inr ((by omega))⟩
              · have _q := h27
                exact absurd h27 (by omega)
            · have _q := h25
              refine jx_ld (pc_q := 123) (l_q := L9) (st_q := [.ref 66]) rfl (jl_aloadn gL9_0) ?_
              refine jr_get (pc_q := 126) (i := 54) (v := .ref 102) rfl rfl (by decide) rfl rfl ?_
              refine jx_ld (pc_q := 128) (l_q := L9) (st_q := [.int (i32 (T0 12 (s).toNat)), .ref 102]) rfl (jl_iload gL9_6) ?_
              have b28 : (-2147483648 : Int) ≤ T0 35 (T0 12 (s).toNat).toNat ∧ T0 35 (T0 12 (s).toNat).toNat ≤ 2147483647 := hWT.2 35 _
              refine jr_ldv (pc_q := 129) (i := 35) (m := 13) (z := T0 12 (s).toNat) (y := T0 35 (T0 12 (s).toNat).toNat) rfl (by decide) rfl (by decide) (Int.le_trans (by decide : (0 : Int) ≤ 0) b8.1) (by omega) rfl (show A 35 (T0 12 (s).toNat).toNat = T0 35 (T0 12 (s).toNat).toNat from (congrFun (p_0 35 rfl) _)) ?_
              refine jx_ld (pc_q := 130) (l_q := L9) (st_q := [.ref 66, .int (i32 (T0 35 (T0 12 (s).toNat).toNat))]) rfl (jl_aloadn gL9_0) ?_
              refine jr_get (pc_q := 133) (i := 68) (v := .int (i32 (w))) rfl rfl (by decide) (rFv_eq (by decide) (show G 68 = w from (e_w))) rfl ?_
              refine jx_icmp_ne (pc_q := 136) (tg := 140) rfl rfl rfl (Int.le_trans (by decide : (-2147483648 : Int) ≤ -2147483648) b28.1) (Int.le_trans b28.2 (by decide : (2147483647 : Int) ≤ 2147483647)) (Int.le_trans (by decide : (-2147483648 : Int) ≤ -2147483648) b_w.1) (Int.le_trans b_w.2 (by decide : (2147483647 : Int) ≤ 2147483647)) (fun h29 => ?_) (fun h29 => ?_)
              · have _q := h29
                refine jx_ar (pc_q := 141) (st_q := [.int (i32 (0))]) rfl rfl rfl rfl ?_
                refine jx_ld (pc_q := 143) (l_q := jSto1 L9 5 (.int (i32 (0)))) (st_q := []) rfl rfl ?_
                obtain ⟨L30, eL30⟩ : ∃ q, q = jSto1 L9 5 (.int (i32 (0))) := ⟨_, rfl⟩
                rw [← eL30]
                have gL30_0 : jGet L30 0 = some (.ref 66) := eL30 ▸ jg_ne (by decide) gL9_0 rfl
                have gL30_1 : jGet L30 1 = some (.int (i32 (n))) := eL30 ▸ jg_ne (by decide) gL9_1 rfl
                have gL30_2 : jGet L30 2 = some (.int (i32 (s))) := eL30 ▸ jg_ne (by decide) gL9_2 rfl
                have gL30_3 : jGet L30 3 = some (.int (i32 (u))) := eL30 ▸ jg_ne (by decide) gL9_3 rfl
                have gL30_4 : jGet L30 4 = some (.int (i32 (T0 7 (s).toNat))) := eL30 ▸ jg_ne (by decide) gL9_4 rfl
                have gL30_6 : jGet L30 6 = some (.int (i32 (T0 12 (s).toNat))) := eL30 ▸ jg_ne (by decide) gL9_6 rfl
                have gL30_5 : jGet L30 5 = some (.int (i32 (0))) := eL30 ▸ jg_eq
                refine jx_ld (pc_q := 145) (l_q := L30) (st_q := [.int (i32 (0))]) rfl (jl_iload gL30_5) ?_
                refine jx_if_ne (pc_q := 148) (tg := 153) rfl rfl rfl (by decide) (by decide) (fun h31 => ?_) (fun h31 => ?_)
                · have _q := h31
                  exact absurd h31 (by omega)
                · have _q := h31
                  refine jx_ld (pc_q := 149) (l_q := L30) (st_q := [.ref 66]) rfl (jl_aloadn gL30_0) ?_
                  refine jx_ld (pc_q := 150) (l_q := L30) (st_q := [.int (i32 (n)), .ref 66]) rfl (jl_iloadn gL30_1) ?_
                  refine jx_vr (pc_q := 153) (as := [.int (i32 (n))]) (st := []) rfl rfl rfl rfl ⟨rfl, rfl, Nat.le_of_ble_eq_true rfl⟩ rfl rfl (c_wrong2 (dd := d) (hd := by omega) (hW := hW) (n := n) (wl := wl) (e_wl := show G 67 = wl from (e_wl)) (lnn := lnn) (e_lnn := show A 16 (n).toNat = lnn from (e_lnn))  (h_n := ⟨(Int.le_trans (by decide : (-2147483648 : Int) ≤ -2147483648) h_n.1), (Int.le_trans h_n.2 (by decide : (2147483647 : Int) ≤ 2147483647))⟩)  (p_0 := by omega) (p_1 := by omega) (p_2 := by omega) (p_3 := by omega)) (fun o V_q hq => ?_)
                  obtain ⟨G32, A33, wl2_34, rfl, rfl, hW35, hF36, e37, p38, -⟩ := hq
                  have hF40 := Fr_tr hF0 hF36 (Fr_sub (by decide)) (Fr_sub (by decide))
                  have bwl2_34 : (-2147483648 : Int) ≤ wl2_34 ∧ wl2_34 ≤ 2147483647 := e37 ▸ hW35.1 67
                  refine .inl ⟨rfl, ?_⟩
                  refine jx_rt (v := none) rfl rfl rfl rfl rfl rfl ?_
                  exact ⟨_, _, wl2_34, rfl, rfl, hW35, hF40, (e37), by first | exact Or.inl (⟨by omega, (by unfold OKc; omega)⟩) | exact Or.inr ((by omega))⟩
              · have _q := h29
                refine jx_ar (pc_q := 137) (st_q := [.int (i32 (1))]) rfl rfl rfl rfl ?_
                refine jx_go (tg := 141) rfl rfl ?_
                refine jx_ld (pc_q := 143) (l_q := jSto1 L9 5 (.int (i32 (1)))) (st_q := []) rfl rfl ?_
                obtain ⟨L41, eL41⟩ : ∃ q, q = jSto1 L9 5 (.int (i32 (1))) := ⟨_, rfl⟩
                rw [← eL41]
                have gL41_0 : jGet L41 0 = some (.ref 66) := eL41 ▸ jg_ne (by decide) gL9_0 rfl
                have gL41_1 : jGet L41 1 = some (.int (i32 (n))) := eL41 ▸ jg_ne (by decide) gL9_1 rfl
                have gL41_2 : jGet L41 2 = some (.int (i32 (s))) := eL41 ▸ jg_ne (by decide) gL9_2 rfl
                have gL41_3 : jGet L41 3 = some (.int (i32 (u))) := eL41 ▸ jg_ne (by decide) gL9_3 rfl
                have gL41_4 : jGet L41 4 = some (.int (i32 (T0 7 (s).toNat))) := eL41 ▸ jg_ne (by decide) gL9_4 rfl
                have gL41_6 : jGet L41 6 = some (.int (i32 (T0 12 (s).toNat))) := eL41 ▸ jg_ne (by decide) gL9_6 rfl
                have gL41_5 : jGet L41 5 = some (.int (i32 (1))) := eL41 ▸ jg_eq
                refine jx_ld (pc_q := 145) (l_q := L41) (st_q := [.int (i32 (1))]) rfl (jl_iload gL41_5) ?_
                refine jx_if_ne (pc_q := 148) (tg := 153) rfl rfl rfl (by decide) (by decide) (fun h42 => ?_) (fun h42 => ?_)
                · have _q := h42
                  refine jx_rt (v := none) rfl rfl rfl rfl rfl rfl ?_
                  exact ⟨_, _, wl, rfl, rfl, hW, hF0, (e_wl), by first | exact Or.inl (⟨by omega, (by unfold OKc; omega)⟩) | exact Or.inr ((by omega))⟩
                · have _q := h42
                  exact absurd h42 (by omega)
          · have _q := h23
            refine jx_ld (pc_q := 102) (l_q := L9) (st_q := [.ref 66]) rfl (jl_aloadn gL9_0) ?_
            refine jr_get (pc_q := 105) (i := 53) (v := .ref 101) rfl rfl (by decide) rfl rfl ?_
            refine jx_ld (pc_q := 107) (l_q := L9) (st_q := [.int (i32 (T0 12 (s).toNat)), .ref 101]) rfl (jl_iload gL9_6) ?_
            have b43 : (-2147483648 : Int) ≤ T0 34 (T0 12 (s).toNat).toNat ∧ T0 34 (T0 12 (s).toNat).toNat ≤ 2147483647 := hWT.2 34 _
            refine jr_ldv (pc_q := 108) (i := 34) (m := 13) (z := T0 12 (s).toNat) (y := T0 34 (T0 12 (s).toNat).toNat) rfl (by decide) rfl (by decide) (Int.le_trans (by decide : (0 : Int) ≤ 0) b8.1) (by omega) rfl (show A 34 (T0 12 (s).toNat).toNat = T0 34 (T0 12 (s).toNat).toNat from (congrFun (p_0 34 rfl) _)) ?_
            refine jx_ld (pc_q := 109) (l_q := L9) (st_q := [.ref 66, .int (i32 (T0 34 (T0 12 (s).toNat).toNat))]) rfl (jl_aloadn gL9_0) ?_
            refine jr_get (pc_q := 112) (i := 68) (v := .int (i32 (w))) rfl rfl (by decide) (rFv_eq (by decide) (show G 68 = w from (e_w))) rfl ?_
            refine jx_icmp_ne (pc_q := 115) (tg := 140) rfl rfl rfl (Int.le_trans (by decide : (-2147483648 : Int) ≤ -2147483648) b43.1) (Int.le_trans b43.2 (by decide : (2147483647 : Int) ≤ 2147483647)) (Int.le_trans (by decide : (-2147483648 : Int) ≤ -2147483648) b_w.1) (Int.le_trans b_w.2 (by decide : (2147483647 : Int) ≤ 2147483647)) (fun h44 => ?_) (fun h44 => ?_)
            · have _q := h44
              refine jx_ar (pc_q := 141) (st_q := [.int (i32 (0))]) rfl rfl rfl rfl ?_
              refine jx_ld (pc_q := 143) (l_q := jSto1 L9 5 (.int (i32 (0)))) (st_q := []) rfl rfl ?_
              obtain ⟨L45, eL45⟩ : ∃ q, q = jSto1 L9 5 (.int (i32 (0))) := ⟨_, rfl⟩
              rw [← eL45]
              have gL45_0 : jGet L45 0 = some (.ref 66) := eL45 ▸ jg_ne (by decide) gL9_0 rfl
              have gL45_1 : jGet L45 1 = some (.int (i32 (n))) := eL45 ▸ jg_ne (by decide) gL9_1 rfl
              have gL45_2 : jGet L45 2 = some (.int (i32 (s))) := eL45 ▸ jg_ne (by decide) gL9_2 rfl
              have gL45_3 : jGet L45 3 = some (.int (i32 (u))) := eL45 ▸ jg_ne (by decide) gL9_3 rfl
              have gL45_4 : jGet L45 4 = some (.int (i32 (T0 7 (s).toNat))) := eL45 ▸ jg_ne (by decide) gL9_4 rfl
              have gL45_6 : jGet L45 6 = some (.int (i32 (T0 12 (s).toNat))) := eL45 ▸ jg_ne (by decide) gL9_6 rfl
              have gL45_5 : jGet L45 5 = some (.int (i32 (0))) := eL45 ▸ jg_eq
              refine jx_ld (pc_q := 145) (l_q := L45) (st_q := [.int (i32 (0))]) rfl (jl_iload gL45_5) ?_
              refine jx_if_ne (pc_q := 148) (tg := 153) rfl rfl rfl (by decide) (by decide) (fun h46 => ?_) (fun h46 => ?_)
              · have _q := h46
                exact absurd h46 (by omega)
              · have _q := h46
                refine jx_ld (pc_q := 149) (l_q := L45) (st_q := [.ref 66]) rfl (jl_aloadn gL45_0) ?_
                refine jx_ld (pc_q := 150) (l_q := L45) (st_q := [.int (i32 (n)), .ref 66]) rfl (jl_iloadn gL45_1) ?_
                refine jx_vr (pc_q := 153) (as := [.int (i32 (n))]) (st := []) rfl rfl rfl rfl ⟨rfl, rfl, Nat.le_of_ble_eq_true rfl⟩ rfl rfl (c_wrong2 (dd := d) (hd := by omega) (hW := hW) (n := n) (wl := wl) (e_wl := show G 67 = wl from (e_wl)) (lnn := lnn) (e_lnn := show A 16 (n).toNat = lnn from (e_lnn))  (h_n := ⟨(Int.le_trans (by decide : (-2147483648 : Int) ≤ -2147483648) h_n.1), (Int.le_trans h_n.2 (by decide : (2147483647 : Int) ≤ 2147483647))⟩)  (p_0 := by omega) (p_1 := by omega) (p_2 := by omega) (p_3 := by omega)) (fun o V_q hq => ?_)
                obtain ⟨G47, A48, wl2_49, rfl, rfl, hW50, hF51, e52, p53, -⟩ := hq
                have hF55 := Fr_tr hF0 hF51 (Fr_sub (by decide)) (Fr_sub (by decide))
                have bwl2_49 : (-2147483648 : Int) ≤ wl2_49 ∧ wl2_49 ≤ 2147483647 := e52 ▸ hW50.1 67
                refine .inl ⟨rfl, ?_⟩
                refine jx_rt (v := none) rfl rfl rfl rfl rfl rfl ?_
                exact ⟨_, _, wl2_49, rfl, rfl, hW50, hF55, (e52), by first | exact Or.inl (⟨by omega, (by unfold OKc; omega)⟩) | exact Or.inr ((by omega))⟩
            · have _q := h44
              refine jx_ld (pc_q := 116) (l_q := L9) (st_q := [.int (i32 (u))]) rfl (jl_iloadn gL9_3) ?_
              refine jx_ar (pc_q := 118) (st_q := [.int (i32 (8)), .int (i32 (u))]) rfl rfl rfl rfl ?_
              refine jx_and (pc_q := 119) rfl rfl ?_
              obtain ⟨b56, eb56⟩ : ∃ z, z = (i32 (u) &&& i32 (8)).toInt := ⟨_, rfl⟩
              rw [← eb56]
              have rb56 : (-2147483648 : Int) ≤ b56 ∧ b56 ≤ 2147483647 := eb56 ▸ i32_rg _
              have hb56 := (show b56 = (i32 u &&& i32 8).toInt from eb56).trans (and_8f (by omega) (by omega))
              refine jx_if_eq (pc_q := 122) (tg := 136) rfl rfl rfl (Int.le_trans (by decide : (-2147483648 : Int) ≤ -2147483648) rb56.1) (Int.le_trans rb56.2 (by decide : (2147483647 : Int) ≤ 2147483647)) (fun h57 => ?_) (fun h57 => ?_)
              · have _q := h57
                refine jx_ar (pc_q := 137) (st_q := [.int (i32 (1))]) rfl rfl rfl rfl ?_
                refine jx_go (tg := 141) rfl rfl ?_
                refine jx_ld (pc_q := 143) (l_q := jSto1 L9 5 (.int (i32 (1)))) (st_q := []) rfl rfl ?_
                obtain ⟨L58, eL58⟩ : ∃ q, q = jSto1 L9 5 (.int (i32 (1))) := ⟨_, rfl⟩
                rw [← eL58]
                have gL58_0 : jGet L58 0 = some (.ref 66) := eL58 ▸ jg_ne (by decide) gL9_0 rfl
                have gL58_1 : jGet L58 1 = some (.int (i32 (n))) := eL58 ▸ jg_ne (by decide) gL9_1 rfl
                have gL58_2 : jGet L58 2 = some (.int (i32 (s))) := eL58 ▸ jg_ne (by decide) gL9_2 rfl
                have gL58_3 : jGet L58 3 = some (.int (i32 (u))) := eL58 ▸ jg_ne (by decide) gL9_3 rfl
                have gL58_4 : jGet L58 4 = some (.int (i32 (T0 7 (s).toNat))) := eL58 ▸ jg_ne (by decide) gL9_4 rfl
                have gL58_6 : jGet L58 6 = some (.int (i32 (T0 12 (s).toNat))) := eL58 ▸ jg_ne (by decide) gL9_6 rfl
                have gL58_5 : jGet L58 5 = some (.int (i32 (1))) := eL58 ▸ jg_eq
                refine jx_ld (pc_q := 145) (l_q := L58) (st_q := [.int (i32 (1))]) rfl (jl_iload gL58_5) ?_
                refine jx_if_ne (pc_q := 148) (tg := 153) rfl rfl rfl (by decide) (by decide) (fun h59 => ?_) (fun h59 => ?_)
                · have _q := h59
                  refine jx_rt (v := none) rfl rfl rfl rfl rfl rfl ?_
                  exact ⟨_, _, wl, rfl, rfl, hW, hF0, (e_wl), by first | exact Or.inl (⟨by omega, (by unfold OKc; omega)⟩) | exact Or.inr ((by omega))⟩
                · have _q := h59
                  exact absurd h59 (by omega)
              · have _q := h57
                refine jx_ld (pc_q := 123) (l_q := L9) (st_q := [.ref 66]) rfl (jl_aloadn gL9_0) ?_
                refine jr_get (pc_q := 126) (i := 54) (v := .ref 102) rfl rfl (by decide) rfl rfl ?_
                refine jx_ld (pc_q := 128) (l_q := L9) (st_q := [.int (i32 (T0 12 (s).toNat)), .ref 102]) rfl (jl_iload gL9_6) ?_
                have b60 : (-2147483648 : Int) ≤ T0 35 (T0 12 (s).toNat).toNat ∧ T0 35 (T0 12 (s).toNat).toNat ≤ 2147483647 := hWT.2 35 _
                refine jr_ldv (pc_q := 129) (i := 35) (m := 13) (z := T0 12 (s).toNat) (y := T0 35 (T0 12 (s).toNat).toNat) rfl (by decide) rfl (by decide) (Int.le_trans (by decide : (0 : Int) ≤ 0) b8.1) (by omega) rfl (show A 35 (T0 12 (s).toNat).toNat = T0 35 (T0 12 (s).toNat).toNat from (congrFun (p_0 35 rfl) _)) ?_
                refine jx_ld (pc_q := 130) (l_q := L9) (st_q := [.ref 66, .int (i32 (T0 35 (T0 12 (s).toNat).toNat))]) rfl (jl_aloadn gL9_0) ?_
                refine jr_get (pc_q := 133) (i := 68) (v := .int (i32 (w))) rfl rfl (by decide) (rFv_eq (by decide) (show G 68 = w from (e_w))) rfl ?_
                refine jx_icmp_ne (pc_q := 136) (tg := 140) rfl rfl rfl (Int.le_trans (by decide : (-2147483648 : Int) ≤ -2147483648) b60.1) (Int.le_trans b60.2 (by decide : (2147483647 : Int) ≤ 2147483647)) (Int.le_trans (by decide : (-2147483648 : Int) ≤ -2147483648) b_w.1) (Int.le_trans b_w.2 (by decide : (2147483647 : Int) ≤ 2147483647)) (fun h61 => ?_) (fun h61 => ?_)
                · have _q := h61
                  refine jx_ar (pc_q := 141) (st_q := [.int (i32 (0))]) rfl rfl rfl rfl ?_
                  refine jx_ld (pc_q := 143) (l_q := jSto1 L9 5 (.int (i32 (0)))) (st_q := []) rfl rfl ?_
                  obtain ⟨L62, eL62⟩ : ∃ q, q = jSto1 L9 5 (.int (i32 (0))) := ⟨_, rfl⟩
                  rw [← eL62]
                  have gL62_0 : jGet L62 0 = some (.ref 66) := eL62 ▸ jg_ne (by decide) gL9_0 rfl
                  have gL62_1 : jGet L62 1 = some (.int (i32 (n))) := eL62 ▸ jg_ne (by decide) gL9_1 rfl
                  have gL62_2 : jGet L62 2 = some (.int (i32 (s))) := eL62 ▸ jg_ne (by decide) gL9_2 rfl
                  have gL62_3 : jGet L62 3 = some (.int (i32 (u))) := eL62 ▸ jg_ne (by decide) gL9_3 rfl
                  have gL62_4 : jGet L62 4 = some (.int (i32 (T0 7 (s).toNat))) := eL62 ▸ jg_ne (by decide) gL9_4 rfl
                  have gL62_6 : jGet L62 6 = some (.int (i32 (T0 12 (s).toNat))) := eL62 ▸ jg_ne (by decide) gL9_6 rfl
                  have gL62_5 : jGet L62 5 = some (.int (i32 (0))) := eL62 ▸ jg_eq
                  refine jx_ld (pc_q := 145) (l_q := L62) (st_q := [.int (i32 (0))]) rfl (jl_iload gL62_5) ?_
                  refine jx_if_ne (pc_q := 148) (tg := 153) rfl rfl rfl (by decide) (by decide) (fun h63 => ?_) (fun h63 => ?_)
                  · have _q := h63
                    exact absurd h63 (by omega)
                  · have _q := h63
                    refine jx_ld (pc_q := 149) (l_q := L62) (st_q := [.ref 66]) rfl (jl_aloadn gL62_0) ?_
                    refine jx_ld (pc_q := 150) (l_q := L62) (st_q := [.int (i32 (n)), .ref 66]) rfl (jl_iloadn gL62_1) ?_
                    refine jx_vr (pc_q := 153) (as := [.int (i32 (n))]) (st := []) rfl rfl rfl rfl ⟨rfl, rfl, Nat.le_of_ble_eq_true rfl⟩ rfl rfl (c_wrong2 (dd := d) (hd := by omega) (hW := hW) (n := n) (wl := wl) (e_wl := show G 67 = wl from (e_wl)) (lnn := lnn) (e_lnn := show A 16 (n).toNat = lnn from (e_lnn))  (h_n := ⟨(Int.le_trans (by decide : (-2147483648 : Int) ≤ -2147483648) h_n.1), (Int.le_trans h_n.2 (by decide : (2147483647 : Int) ≤ 2147483647))⟩)  (p_0 := by omega) (p_1 := by omega) (p_2 := by omega) (p_3 := by omega)) (fun o V_q hq => ?_)
                    obtain ⟨G64, A65, wl2_66, rfl, rfl, hW67, hF68, e69, p70, -⟩ := hq
                    have hF72 := Fr_tr hF0 hF68 (Fr_sub (by decide)) (Fr_sub (by decide))
                    have bwl2_66 : (-2147483648 : Int) ≤ wl2_66 ∧ wl2_66 ≤ 2147483647 := e69 ▸ hW67.1 67
                    refine .inl ⟨rfl, ?_⟩
                    refine jx_rt (v := none) rfl rfl rfl rfl rfl rfl ?_
                    exact ⟨_, _, wl2_66, rfl, rfl, hW67, hF72, (e69), by first | exact Or.inl (⟨by omega, (by unfold OKc; omega)⟩) | exact Or.inr ((by omega))⟩
                · have _q := h61
                  refine jx_ar (pc_q := 137) (st_q := [.int (i32 (1))]) rfl rfl rfl rfl ?_
                  refine jx_go (tg := 141) rfl rfl ?_
                  refine jx_ld (pc_q := 143) (l_q := jSto1 L9 5 (.int (i32 (1)))) (st_q := []) rfl rfl ?_
                  obtain ⟨L73, eL73⟩ : ∃ q, q = jSto1 L9 5 (.int (i32 (1))) := ⟨_, rfl⟩
                  rw [← eL73]
                  have gL73_0 : jGet L73 0 = some (.ref 66) := eL73 ▸ jg_ne (by decide) gL9_0 rfl
                  have gL73_1 : jGet L73 1 = some (.int (i32 (n))) := eL73 ▸ jg_ne (by decide) gL9_1 rfl
                  have gL73_2 : jGet L73 2 = some (.int (i32 (s))) := eL73 ▸ jg_ne (by decide) gL9_2 rfl
                  have gL73_3 : jGet L73 3 = some (.int (i32 (u))) := eL73 ▸ jg_ne (by decide) gL9_3 rfl
                  have gL73_4 : jGet L73 4 = some (.int (i32 (T0 7 (s).toNat))) := eL73 ▸ jg_ne (by decide) gL9_4 rfl
                  have gL73_6 : jGet L73 6 = some (.int (i32 (T0 12 (s).toNat))) := eL73 ▸ jg_ne (by decide) gL9_6 rfl
                  have gL73_5 : jGet L73 5 = some (.int (i32 (1))) := eL73 ▸ jg_eq
                  refine jx_ld (pc_q := 145) (l_q := L73) (st_q := [.int (i32 (1))]) rfl (jl_iload gL73_5) ?_
                  refine jx_if_ne (pc_q := 148) (tg := 153) rfl rfl rfl (by decide) (by decide) (fun h74 => ?_) (fun h74 => ?_)
                  · have _q := h74
                    refine jx_rt (v := none) rfl rfl rfl rfl rfl rfl ?_
                    exact ⟨_, _, wl, rfl, rfl, hW, hF0, (e_wl), by first | exact Or.inl (⟨by omega, (by unfold OKc; omega)⟩) | exact Or.inr ((by omega))⟩
                  · have _q := h74
                    exact absurd h74 (by omega)
    · have _q := h5
      refine jx_ld (pc_q := 50) (l_q := L3) (st_q := [.ref 66]) rfl (jl_aloadn gL3_0) ?_
      refine jr_get (pc_q := 53) (i := 68) (v := .int (i32 (w))) rfl rfl (by decide) (rFv_eq (by decide) (show G 68 = w from (e_w))) rfl ?_
      refine jx_if_ne (pc_q := 56) (tg := 66) rfl rfl rfl (Int.le_trans (by decide : (-2147483648 : Int) ≤ -2147483648) b_w.1) (Int.le_trans b_w.2 (by decide : (2147483647 : Int) ≤ 2147483647)) (fun h75 => ?_) (fun h75 => ?_)
      · have _q := h75
        refine jx_ar (pc_q := 67) (st_q := [.int (i32 (0))]) rfl rfl rfl rfl ?_
        refine jx_ld (pc_q := 69) (l_q := jSto1 L3 5 (.int (i32 (0)))) (st_q := []) rfl rfl ?_
        obtain ⟨L76, eL76⟩ : ∃ q, q = jSto1 L3 5 (.int (i32 (0))) := ⟨_, rfl⟩
        rw [← eL76]
        have gL76_0 : jGet L76 0 = some (.ref 66) := eL76 ▸ jg_ne (by decide) gL3_0 rfl
        have gL76_1 : jGet L76 1 = some (.int (i32 (n))) := eL76 ▸ jg_ne (by decide) gL3_1 rfl
        have gL76_2 : jGet L76 2 = some (.int (i32 (s))) := eL76 ▸ jg_ne (by decide) gL3_2 rfl
        have gL76_3 : jGet L76 3 = some (.int (i32 (u))) := eL76 ▸ jg_ne (by decide) gL3_3 rfl
        have gL76_4 : jGet L76 4 = some (.int (i32 (T0 7 (s).toNat))) := eL76 ▸ jg_ne (by decide) gL3_4 rfl
        have gL76_5 : jGet L76 5 = some (.int (i32 (0))) := eL76 ▸ jg_eq
        refine jx_go (tg := 143) rfl rfl ?_
        refine jx_ld (pc_q := 145) (l_q := L76) (st_q := [.int (i32 (0))]) rfl (jl_iload gL76_5) ?_
        refine jx_if_ne (pc_q := 148) (tg := 153) rfl rfl rfl (by decide) (by decide) (fun h77 => ?_) (fun h77 => ?_)
        · have _q := h77
          exact absurd h77 (by omega)
        · have _q := h77
          refine jx_ld (pc_q := 149) (l_q := L76) (st_q := [.ref 66]) rfl (jl_aloadn gL76_0) ?_
          refine jx_ld (pc_q := 150) (l_q := L76) (st_q := [.int (i32 (n)), .ref 66]) rfl (jl_iloadn gL76_1) ?_
          refine jx_vr (pc_q := 153) (as := [.int (i32 (n))]) (st := []) rfl rfl rfl rfl ⟨rfl, rfl, Nat.le_of_ble_eq_true rfl⟩ rfl rfl (c_wrong2 (dd := d) (hd := by omega) (hW := hW) (n := n) (wl := wl) (e_wl := show G 67 = wl from (e_wl)) (lnn := lnn) (e_lnn := show A 16 (n).toNat = lnn from (e_lnn))  (h_n := ⟨(Int.le_trans (by decide : (-2147483648 : Int) ≤ -2147483648) h_n.1), (Int.le_trans h_n.2 (by decide : (2147483647 : Int) ≤ 2147483647))⟩)  (p_0 := by omega) (p_1 := by omega) (p_2 := by omega) (p_3 := by omega)) (fun o V_q hq => ?_)
          obtain ⟨G78, A79, wl2_80, rfl, rfl, hW81, hF82, e83, p84, -⟩ := hq
          have hF86 := Fr_tr hF0 hF82 (Fr_sub (by decide)) (Fr_sub (by decide))
          have bwl2_80 : (-2147483648 : Int) ≤ wl2_80 ∧ wl2_80 ≤ 2147483647 := e83 ▸ hW81.1 67
          refine .inl ⟨rfl, ?_⟩
          refine jx_rt (v := none) rfl rfl rfl rfl rfl rfl ?_
          exact ⟨_, _, wl2_80, rfl, rfl, hW81, hF86, (e83), by first | exact Or.inl (⟨by omega, (by unfold OKc; omega)⟩) | exact Or.inr ((by omega))⟩
      · have _q := h75
        refine jx_ld (pc_q := 57) (l_q := L3) (st_q := [.int (i32 (u))]) rfl (jl_iloadn gL3_3) ?_
        refine jx_ar (pc_q := 58) (st_q := [.int (i32 (4)), .int (i32 (u))]) rfl rfl rfl rfl ?_
        refine jx_and (pc_q := 59) rfl rfl ?_
        obtain ⟨b87, eb87⟩ : ∃ z, z = (i32 (u) &&& i32 (4)).toInt := ⟨_, rfl⟩
        rw [← eb87]
        have rb87 : (-2147483648 : Int) ≤ b87 ∧ b87 ≤ 2147483647 := eb87 ▸ i32_rg _
        have hb87 := (show b87 = (i32 u &&& i32 4).toInt from eb87).trans (and_4f (by omega) (by omega))
        refine jx_if_ne (pc_q := 62) (tg := 66) rfl rfl rfl (Int.le_trans (by decide : (-2147483648 : Int) ≤ -2147483648) rb87.1) (Int.le_trans rb87.2 (by decide : (2147483647 : Int) ≤ 2147483647)) (fun h88 => ?_) (fun h88 => ?_)
        · have _q := h88
          refine jx_ar (pc_q := 67) (st_q := [.int (i32 (0))]) rfl rfl rfl rfl ?_
          refine jx_ld (pc_q := 69) (l_q := jSto1 L3 5 (.int (i32 (0)))) (st_q := []) rfl rfl ?_
          obtain ⟨L89, eL89⟩ : ∃ q, q = jSto1 L3 5 (.int (i32 (0))) := ⟨_, rfl⟩
          rw [← eL89]
          have gL89_0 : jGet L89 0 = some (.ref 66) := eL89 ▸ jg_ne (by decide) gL3_0 rfl
          have gL89_1 : jGet L89 1 = some (.int (i32 (n))) := eL89 ▸ jg_ne (by decide) gL3_1 rfl
          have gL89_2 : jGet L89 2 = some (.int (i32 (s))) := eL89 ▸ jg_ne (by decide) gL3_2 rfl
          have gL89_3 : jGet L89 3 = some (.int (i32 (u))) := eL89 ▸ jg_ne (by decide) gL3_3 rfl
          have gL89_4 : jGet L89 4 = some (.int (i32 (T0 7 (s).toNat))) := eL89 ▸ jg_ne (by decide) gL3_4 rfl
          have gL89_5 : jGet L89 5 = some (.int (i32 (0))) := eL89 ▸ jg_eq
          refine jx_go (tg := 143) rfl rfl ?_
          refine jx_ld (pc_q := 145) (l_q := L89) (st_q := [.int (i32 (0))]) rfl (jl_iload gL89_5) ?_
          refine jx_if_ne (pc_q := 148) (tg := 153) rfl rfl rfl (by decide) (by decide) (fun h90 => ?_) (fun h90 => ?_)
          · have _q := h90
            exact absurd h90 (by omega)
          · have _q := h90
            refine jx_ld (pc_q := 149) (l_q := L89) (st_q := [.ref 66]) rfl (jl_aloadn gL89_0) ?_
            refine jx_ld (pc_q := 150) (l_q := L89) (st_q := [.int (i32 (n)), .ref 66]) rfl (jl_iloadn gL89_1) ?_
            refine jx_vr (pc_q := 153) (as := [.int (i32 (n))]) (st := []) rfl rfl rfl rfl ⟨rfl, rfl, Nat.le_of_ble_eq_true rfl⟩ rfl rfl (c_wrong2 (dd := d) (hd := by omega) (hW := hW) (n := n) (wl := wl) (e_wl := show G 67 = wl from (e_wl)) (lnn := lnn) (e_lnn := show A 16 (n).toNat = lnn from (e_lnn))  (h_n := ⟨(Int.le_trans (by decide : (-2147483648 : Int) ≤ -2147483648) h_n.1), (Int.le_trans h_n.2 (by decide : (2147483647 : Int) ≤ 2147483647))⟩)  (p_0 := by omega) (p_1 := by omega) (p_2 := by omega) (p_3 := by omega)) (fun o V_q hq => ?_)
            obtain ⟨G91, A92, wl2_93, rfl, rfl, hW94, hF95, e96, p97, -⟩ := hq
            have hF99 := Fr_tr hF0 hF95 (Fr_sub (by decide)) (Fr_sub (by decide))
            have bwl2_93 : (-2147483648 : Int) ≤ wl2_93 ∧ wl2_93 ≤ 2147483647 := e96 ▸ hW94.1 67
            refine .inl ⟨rfl, ?_⟩
            refine jx_rt (v := none) rfl rfl rfl rfl rfl rfl ?_
            exact ⟨_, _, wl2_93, rfl, rfl, hW94, hF99, (e96), by first | exact Or.inl (⟨by omega, (by unfold OKc; omega)⟩) | exact Or.inr ((by omega))⟩
        · have _q := h88
          refine jx_ar (pc_q := 63) (st_q := [.int (i32 (1))]) rfl rfl rfl rfl ?_
          refine jx_go (tg := 67) rfl rfl ?_
          refine jx_ld (pc_q := 69) (l_q := jSto1 L3 5 (.int (i32 (1)))) (st_q := []) rfl rfl ?_
          obtain ⟨L100, eL100⟩ : ∃ q, q = jSto1 L3 5 (.int (i32 (1))) := ⟨_, rfl⟩
          rw [← eL100]
          have gL100_0 : jGet L100 0 = some (.ref 66) := eL100 ▸ jg_ne (by decide) gL3_0 rfl
          have gL100_1 : jGet L100 1 = some (.int (i32 (n))) := eL100 ▸ jg_ne (by decide) gL3_1 rfl
          have gL100_2 : jGet L100 2 = some (.int (i32 (s))) := eL100 ▸ jg_ne (by decide) gL3_2 rfl
          have gL100_3 : jGet L100 3 = some (.int (i32 (u))) := eL100 ▸ jg_ne (by decide) gL3_3 rfl
          have gL100_4 : jGet L100 4 = some (.int (i32 (T0 7 (s).toNat))) := eL100 ▸ jg_ne (by decide) gL3_4 rfl
          have gL100_5 : jGet L100 5 = some (.int (i32 (1))) := eL100 ▸ jg_eq
          refine jx_go (tg := 143) rfl rfl ?_
          refine jx_ld (pc_q := 145) (l_q := L100) (st_q := [.int (i32 (1))]) rfl (jl_iload gL100_5) ?_
          refine jx_if_ne (pc_q := 148) (tg := 153) rfl rfl rfl (by decide) (by decide) (fun h101 => ?_) (fun h101 => ?_)
          · have _q := h101
            refine jx_rt (v := none) rfl rfl rfl rfl rfl rfl ?_
            exact ⟨_, _, wl, rfl, rfl, hW, hF0, (e_wl), by first | exact Or.inl (⟨by omega, (by unfold OKc; omega)⟩) | exact Or.inr ((by omega))⟩
          · have _q := h101
            exact absurd h101 (by omega)
  · have _q := h4
    refine jx_ld (pc_q := 19) (l_q := L3) (st_q := [.ref 66]) rfl (jl_aloadn gL3_0) ?_
    refine jr_get (pc_q := 22) (i := 68) (v := .int (i32 (w))) rfl rfl (by decide) (rFv_eq (by decide) (show G 68 = w from (e_w))) rfl ?_
    refine jx_if_ne (pc_q := 25) (tg := 36) rfl rfl rfl (Int.le_trans (by decide : (-2147483648 : Int) ≤ -2147483648) b_w.1) (Int.le_trans b_w.2 (by decide : (2147483647 : Int) ≤ 2147483647)) (fun h102 => ?_) (fun h102 => ?_)
    · have _q := h102
      refine jx_ar (pc_q := 37) (st_q := [.int (i32 (0))]) rfl rfl rfl rfl ?_
      refine jx_ld (pc_q := 39) (l_q := jSto1 L3 5 (.int (i32 (0)))) (st_q := []) rfl rfl ?_
      obtain ⟨L103, eL103⟩ : ∃ q, q = jSto1 L3 5 (.int (i32 (0))) := ⟨_, rfl⟩
      rw [← eL103]
      have gL103_0 : jGet L103 0 = some (.ref 66) := eL103 ▸ jg_ne (by decide) gL3_0 rfl
      have gL103_1 : jGet L103 1 = some (.int (i32 (n))) := eL103 ▸ jg_ne (by decide) gL3_1 rfl
      have gL103_2 : jGet L103 2 = some (.int (i32 (s))) := eL103 ▸ jg_ne (by decide) gL3_2 rfl
      have gL103_3 : jGet L103 3 = some (.int (i32 (u))) := eL103 ▸ jg_ne (by decide) gL3_3 rfl
      have gL103_4 : jGet L103 4 = some (.int (i32 (T0 7 (s).toNat))) := eL103 ▸ jg_ne (by decide) gL3_4 rfl
      have gL103_5 : jGet L103 5 = some (.int (i32 (0))) := eL103 ▸ jg_eq
      refine jx_go (tg := 143) rfl rfl ?_
      refine jx_ld (pc_q := 145) (l_q := L103) (st_q := [.int (i32 (0))]) rfl (jl_iload gL103_5) ?_
      refine jx_if_ne (pc_q := 148) (tg := 153) rfl rfl rfl (by decide) (by decide) (fun h104 => ?_) (fun h104 => ?_)
      · have _q := h104
        exact absurd h104 (by omega)
      · have _q := h104
        refine jx_ld (pc_q := 149) (l_q := L103) (st_q := [.ref 66]) rfl (jl_aloadn gL103_0) ?_
        refine jx_ld (pc_q := 150) (l_q := L103) (st_q := [.int (i32 (n)), .ref 66]) rfl (jl_iloadn gL103_1) ?_
        refine jx_vr (pc_q := 153) (as := [.int (i32 (n))]) (st := []) rfl rfl rfl rfl ⟨rfl, rfl, Nat.le_of_ble_eq_true rfl⟩ rfl rfl (c_wrong2 (dd := d) (hd := by omega) (hW := hW) (n := n) (wl := wl) (e_wl := show G 67 = wl from (e_wl)) (lnn := lnn) (e_lnn := show A 16 (n).toNat = lnn from (e_lnn))  (h_n := ⟨(Int.le_trans (by decide : (-2147483648 : Int) ≤ -2147483648) h_n.1), (Int.le_trans h_n.2 (by decide : (2147483647 : Int) ≤ 2147483647))⟩)  (p_0 := by omega) (p_1 := by omega) (p_2 := by omega) (p_3 := by omega)) (fun o V_q hq => ?_)
        obtain ⟨G105, A106, wl2_107, rfl, rfl, hW108, hF109, e110, p111, -⟩ := hq
        have hF113 := Fr_tr hF0 hF109 (Fr_sub (by decide)) (Fr_sub (by decide))
        have bwl2_107 : (-2147483648 : Int) ≤ wl2_107 ∧ wl2_107 ≤ 2147483647 := e110 ▸ hW108.1 67
        refine .inl ⟨rfl, ?_⟩
        refine jx_rt (v := none) rfl rfl rfl rfl rfl rfl ?_
        exact ⟨_, _, wl2_107, rfl, rfl, hW108, hF113, (e110), by first | exact Or.inl (⟨by omega, (by unfold OKc; omega)⟩) | exact Or.inr ((by omega))⟩
    · have _q := h102
      refine jx_ld (pc_q := 26) (l_q := L3) (st_q := [.int (i32 (u))]) rfl (jl_iloadn gL3_3) ?_
      refine jx_ar (pc_q := 28) (st_q := [.int (i32 (8)), .int (i32 (u))]) rfl rfl rfl rfl ?_
      refine jx_and (pc_q := 29) rfl rfl ?_
      obtain ⟨b114, eb114⟩ : ∃ z, z = (i32 (u) &&& i32 (8)).toInt := ⟨_, rfl⟩
      rw [← eb114]
      have rb114 : (-2147483648 : Int) ≤ b114 ∧ b114 ≤ 2147483647 := eb114 ▸ i32_rg _
      have hb114 := (show b114 = (i32 u &&& i32 8).toInt from eb114).trans (and_8f (by omega) (by omega))
      refine jx_if_ne (pc_q := 32) (tg := 36) rfl rfl rfl (Int.le_trans (by decide : (-2147483648 : Int) ≤ -2147483648) rb114.1) (Int.le_trans rb114.2 (by decide : (2147483647 : Int) ≤ 2147483647)) (fun h115 => ?_) (fun h115 => ?_)
      · have _q := h115
        refine jx_ar (pc_q := 37) (st_q := [.int (i32 (0))]) rfl rfl rfl rfl ?_
        refine jx_ld (pc_q := 39) (l_q := jSto1 L3 5 (.int (i32 (0)))) (st_q := []) rfl rfl ?_
        obtain ⟨L116, eL116⟩ : ∃ q, q = jSto1 L3 5 (.int (i32 (0))) := ⟨_, rfl⟩
        rw [← eL116]
        have gL116_0 : jGet L116 0 = some (.ref 66) := eL116 ▸ jg_ne (by decide) gL3_0 rfl
        have gL116_1 : jGet L116 1 = some (.int (i32 (n))) := eL116 ▸ jg_ne (by decide) gL3_1 rfl
        have gL116_2 : jGet L116 2 = some (.int (i32 (s))) := eL116 ▸ jg_ne (by decide) gL3_2 rfl
        have gL116_3 : jGet L116 3 = some (.int (i32 (u))) := eL116 ▸ jg_ne (by decide) gL3_3 rfl
        have gL116_4 : jGet L116 4 = some (.int (i32 (T0 7 (s).toNat))) := eL116 ▸ jg_ne (by decide) gL3_4 rfl
        have gL116_5 : jGet L116 5 = some (.int (i32 (0))) := eL116 ▸ jg_eq
        refine jx_go (tg := 143) rfl rfl ?_
        refine jx_ld (pc_q := 145) (l_q := L116) (st_q := [.int (i32 (0))]) rfl (jl_iload gL116_5) ?_
        refine jx_if_ne (pc_q := 148) (tg := 153) rfl rfl rfl (by decide) (by decide) (fun h117 => ?_) (fun h117 => ?_)
        · have _q := h117
          exact absurd h117 (by omega)
        · have _q := h117
          refine jx_ld (pc_q := 149) (l_q := L116) (st_q := [.ref 66]) rfl (jl_aloadn gL116_0) ?_
          refine jx_ld (pc_q := 150) (l_q := L116) (st_q := [.int (i32 (n)), .ref 66]) rfl (jl_iloadn gL116_1) ?_
          refine jx_vr (pc_q := 153) (as := [.int (i32 (n))]) (st := []) rfl rfl rfl rfl ⟨rfl, rfl, Nat.le_of_ble_eq_true rfl⟩ rfl rfl (c_wrong2 (dd := d) (hd := by omega) (hW := hW) (n := n) (wl := wl) (e_wl := show G 67 = wl from (e_wl)) (lnn := lnn) (e_lnn := show A 16 (n).toNat = lnn from (e_lnn))  (h_n := ⟨(Int.le_trans (by decide : (-2147483648 : Int) ≤ -2147483648) h_n.1), (Int.le_trans h_n.2 (by decide : (2147483647 : Int) ≤ 2147483647))⟩)  (p_0 := by omega) (p_1 := by omega) (p_2 := by omega) (p_3 := by omega)) (fun o V_q hq => ?_)
          obtain ⟨G118, A119, wl2_120, rfl, rfl, hW121, hF122, e123, p124, -⟩ := hq
          have hF126 := Fr_tr hF0 hF122 (Fr_sub (by decide)) (Fr_sub (by decide))
          have bwl2_120 : (-2147483648 : Int) ≤ wl2_120 ∧ wl2_120 ≤ 2147483647 := e123 ▸ hW121.1 67
          refine .inl ⟨rfl, ?_⟩
          refine jx_rt (v := none) rfl rfl rfl rfl rfl rfl ?_
          exact ⟨_, _, wl2_120, rfl, rfl, hW121, hF126, (e123), by first | exact Or.inl (⟨by omega, (by unfold OKc; omega)⟩) | exact Or.inr ((by omega))⟩
      · have _q := h115
        refine jx_ar (pc_q := 33) (st_q := [.int (i32 (1))]) rfl rfl rfl rfl ?_
        refine jx_go (tg := 37) rfl rfl ?_
        refine jx_ld (pc_q := 39) (l_q := jSto1 L3 5 (.int (i32 (1)))) (st_q := []) rfl rfl ?_
        obtain ⟨L127, eL127⟩ : ∃ q, q = jSto1 L3 5 (.int (i32 (1))) := ⟨_, rfl⟩
        rw [← eL127]
        have gL127_0 : jGet L127 0 = some (.ref 66) := eL127 ▸ jg_ne (by decide) gL3_0 rfl
        have gL127_1 : jGet L127 1 = some (.int (i32 (n))) := eL127 ▸ jg_ne (by decide) gL3_1 rfl
        have gL127_2 : jGet L127 2 = some (.int (i32 (s))) := eL127 ▸ jg_ne (by decide) gL3_2 rfl
        have gL127_3 : jGet L127 3 = some (.int (i32 (u))) := eL127 ▸ jg_ne (by decide) gL3_3 rfl
        have gL127_4 : jGet L127 4 = some (.int (i32 (T0 7 (s).toNat))) := eL127 ▸ jg_ne (by decide) gL3_4 rfl
        have gL127_5 : jGet L127 5 = some (.int (i32 (1))) := eL127 ▸ jg_eq
        refine jx_go (tg := 143) rfl rfl ?_
        refine jx_ld (pc_q := 145) (l_q := L127) (st_q := [.int (i32 (1))]) rfl (jl_iload gL127_5) ?_
        refine jx_if_ne (pc_q := 148) (tg := 153) rfl rfl rfl (by decide) (by decide) (fun h128 => ?_) (fun h128 => ?_)
        · have _q := h128
          refine jx_rt (v := none) rfl rfl rfl rfl rfl rfl ?_
          exact ⟨_, _, wl, rfl, rfl, hW, hF0, (e_wl), by first | exact Or.inl (⟨by omega, (by unfold OKc; omega)⟩) | exact Or.inr ((by omega))⟩
        · have _q := h128
          exact absurd h128 (by omega)
